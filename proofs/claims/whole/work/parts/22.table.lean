/-! what both tables answer, in numbers -/
def hasb (n : Nat) (x : Int32) : Bool := decide (¬ x < 0 ∧ ¬ nI n ≤ x)
theorem hb_t {n : Nat} {x : Int32} (hn : n < 2 ^ 31) (h : hasb n x = true) : ∃ j, j < n ∧ x = nI j := by
  have h2 : ¬ x < 0 ∧ ¬ nI n ≤ x := of_decide_eq_true h
  rcases pk_ix x hn with q | q | q
  · exact absurd q h2.1
  · exact absurd q h2.2
  · exact q
theorem hb_nI {n j : Nat} (hn : n < 2 ^ 31) (hj : j < n) : hasb n (nI j) = true := decide_eq_true ⟨nI_pos (by omega), nI_ge hj hn⟩
theorem x_hasC (n : Nat) (x : Int32) : f_X4_hasCondition (nI n) x = some (hasb n x) := by
  unfold f_X4_hasCondition hasb
  by_cases q : x < 0
  · rw [if_pos q, decide_eq_false (fun w => w.1 q)]
  · rw [if_neg q]
    by_cases q2 : nI n ≤ x
    · rw [if_pos q2, decide_eq_false (fun w => w.2 q2)]
    · rw [if_neg q2, decide_eq_true ⟨q, q2⟩]
theorem x_hasK (n : Nat) (x : Int32) : f_X4_hasCase (nI n) x = some (hasb n x) := x_hasC n x
theorem x_hasR (n : Nat) (x : Int32) : f_X4_hasRule (nI n) x = some (hasb n x) := x_hasC n x
theorem m_in0 {n : Nat} (hn : n < 2 ^ 30) (x : Int32) : f_X7_isIn x (0 : Int32) (nI n - (1 : Int32)) = some (hasb n x) := by
  have e : (nI n - (1 : Int32)).toInt = (n : Int) - 1 := pk_sub_toInt (b := 1) hn (by decide)
  unfold f_X7_isIn hasb
  by_cases q : x < 0
  · rw [if_pos q, decide_eq_false (fun w => w.1 q)]
  · rw [if_neg q]
    have e2 : (nI n - (1 : Int32) < x) ↔ nI n ≤ x := by
      rw [fa_lt, fa_le, e, nI_toInt (by omega)]
      omega
    by_cases q2 : nI n ≤ x
    · rw [if_pos (e2.mpr q2), decide_eq_false (fun w => w.2 q2)]
    · rw [if_neg (fun w => q2 (e2.mp w)), decide_eq_true ⟨q, q2⟩]
/-- an int among two bounds -/
def inb (x lo hi : Int32) : Bool := decide (¬ x < lo ∧ ¬ hi < x)
theorem m_in (x lo hi : Int32) : f_X7_isIn x lo hi = some (inb x lo hi) := by
  unfold f_X7_isIn inb
  by_cases q : x < lo
  · rw [if_pos q, decide_eq_false (fun w => w.1 q)]
  · rw [if_neg q]
    by_cases q2 : hi < x
    · rw [if_pos q2, decide_eq_false (fun w => w.2 q2)]
    · rw [if_neg q2, decide_eq_true ⟨q, q2⟩]
theorem inb_t {x lo hi : Int32} (h : inb x lo hi = true) : ¬ x < lo ∧ ¬ hi < x := of_decide_eq_true h
theorem inb_nI {x : Int32} {a b : Nat} (hb : b < 2 ^ 31) (h : inb x (nI a) (nI b) = true) (ha : a ≤ b) : ∃ j, a ≤ j ∧ j ≤ b ∧ x = nI j := by
  obtain ⟨h1, h2⟩ := inb_t h
  have h3 : ¬ x < 0 := by
    rw [fa_lt] at h1 ⊢
    rw [nI_toInt (by omega)] at h1
    rw [show (0 : Int32).toInt = 0 from rfl]
    omega
  obtain ⟨j, hj, rfl⟩ := nI_of h3
  refine ⟨j, ?_, ?_, rfl⟩
  · rw [nI_ltI hj (by omega)] at h1; omega
  · rw [nI_ltI hb hj] at h2; omega
theorem wl_find {α : Type} {f : Int32 → Option (Int32 ⊕ α)} (p : Nat → Bool) (n : Nat) (hn : n < 5000) (R : Nat → α) (E : α) (hs : ∀ i, i < n → p i = false → f (nI i) = some (.inl (nI (i + 1)))) (hf : ∀ i, i < n → p i = true → f (nI i) = some (.inr (R i))) (he : f (nI n) = some (.inr E)) : wl f 5000 (nI 0) = some (if fa_first p n < n then R (fa_first p n) else E) := by
  have hle := fa_first_le p n
  refine wl_for (fun i => nI i) (fa_first p n) (fun i hi => hs i (by omega) (fa_first_no p n i hi)) ?_ (by omega)
  by_cases q : fa_first p n < n
  · rw [if_pos q]
    exact hf _ q (fa_first_yes p n q)
  · rw [if_neg q]
    obtain e : fa_first p n = n := by omega
    rw [e]
    exact he
/-! bits -/
theorem bt_nI (B : Nat) {i : Nat} (hi : i < 32) : bt (nI B) i = B.testBit i := by
  show (BitVec.ofNat 32 B).getLsbD i = _
  rw [BitVec.getLsbD_ofNat]
  simp [hi]
theorem and1_0 (x : Int32) : x &&& 1 = 0 ↔ bt x 0 = false := by
  constructor
  · intro h
    have h1 := congrArg (fun y => bt y 0) h
    simp only [b_and, b_0] at h1
    have h2 : bt (1 : Int32) 0 = true := by decide
    rw [h2, Bool.and_true] at h1
    exact h1
  · intro h
    apply b_ext
    intro i hi
    rw [b_and, b_0]
    have h2 : ∀ i, i < 32 → bt (1 : Int32) i = decide (i = 0) := by decide
    rw [h2 i hi]
    by_cases e : i = 0
    · subst e; rw [h]; rfl
    · simp [e]
theorem sh_bit {B r : Nat} (hr : r < 31) : ((nI B >>> (nI r &&& 31)) &&& (1 : Int32)) = (0 : Int32) ↔ B.testBit r = false := by
  rw [and1_0, b_sshr r (by omega) _ (by decide), if_pos (by omega), Nat.add_zero, bt_nI B (by omega)]
theorem sh_and : ∀ s, s < 32 → ∀ v, v < 5 → ((nI s >>> (nI v &&& 31)) &&& (1 : Int32)) = nI (s >>> v &&& 1) := by decide
theorem sh_1 : ∀ r, r < 13 → ((1 : Int32) <<< (nI r &&& 31)) = nI (1 <<< r) := by decide
theorem sh_0 : ∀ r, r < 13 → ((0 : Int32) <<< (nI r &&& 31)) = nI 0 := by decide
theorem sh_b {b r : Nat} (hb : b < 2) (hr : r < 13) : (nI b <<< (nI r &&& 31)) = nI (b <<< r) := by
  match b, hb with
  | 0, _ => rw [show nI 0 = (0 : Int32) from rfl, sh_0 r hr, Nat.zero_shiftLeft]
  | 1, _ => exact sh_1 r hr
theorem m2r : ∀ r, r < 13 → ((1 : Int32) <<< (nI r &&& 31)) - (1 : Int32) = nI (2 ^ r - 1) := by decide
theorem tb_and1 (s v q : Nat) : (s >>> v &&& 1).testBit q = (decide (q = 0) && s.testBit v) := by
  rw [Nat.testBit_and, Nat.testBit_shiftRight]
  cases q with
  | zero => simp
  | succ q => simp [Nat.testBit_succ]
theorem tb_rwb (T : Tb) (c v : Nat) : ∀ m r, (rwb T c v m).testBit r = (decide (r < m) && (ts T (r * 4 + c)).testBit v)
  | 0, r => by simp [rwb]
  | m + 1, r => by
    rw [rwb, Nat.testBit_or, tb_rwb T c v m r, Nat.testBit_shiftLeft, tb_and1]
    by_cases h1 : r < m
    · have : ¬ m ≤ r := by omega
      have h3 : r < m + 1 := by omega
      simp [h1, this, h3]
    · by_cases h2 : r = m
      · subst h2; simp
      · have h3 : ¬ r < m + 1 := by omega
        have h4 : ¬ r - m = 0 := by omega
        simp [h1, h3, h4]
/-- does rule r match case k -/
def mtF (T : Tb) (r k : Nat) : Nat → Bool
  | 0 => true
  | c + 1 => mtF T r k c && (ts T (r * 4 + c)).testBit (dig T k c)
def mt (T : Tb) (k r : Nat) : Bool := mtF T r k (tn T)
def btF (T : Tb) (k : Nat) : Nat → Nat
  | 0 => 2 ^ tr T - 1
  | c + 1 => btF T k c &&& rwb T c (dig T k c) (tr T)
def bts (T : Tb) (k : Nat) : Nat := btF T k (tn T)
theorem tb_btF (T : Tb) (k r : Nat) : ∀ c, (btF T k c).testBit r = (decide (r < tr T) && mtF T r k c)
  | 0 => by simp [btF, mtF, Nat.testBit_two_pow_sub_one]
  | c + 1 => by
    rw [btF, mtF, Nat.testBit_and, tb_btF T k r c, tb_rwb]
    by_cases h : r < tr T <;> simp [h]
theorem tb_bts (T : Tb) (k r : Nat) : (bts T k).testBit r = (decide (r < tr T) && mt T k r) := tb_btF T k r (tn T)
def fst (T : Tb) (k : Nat) : Nat := fa_first (mt T k) (tr T)
def actc (T : Tb) (k : Nat) : Nat := if fst T k < tr T then ta T (fst T k) + 1 else td T
def prodw (T : Tb) (k : Nat) : Nat → Nat
  | 0 => 1
  | c + 1 => prodw T k c * tw T (c * 5 + dig T k c)
def cwt (T : Tb) (k : Nat) : Nat := prodw T k (tn T)
theorem prodw_le {T : Tb} (h : TOk T) (k : Nat) : ∀ c, prodw T k c ≤ 9 ^ c
  | 0 => Nat.le_refl _
  | c + 1 => by
    rw [prodw, Nat.pow_succ]
    exact Nat.mul_le_mul (prodw_le h k c) (h.w9 _)
theorem cwt_le {T : Tb} (h : TOk T) (k : Nat) : cwt T k ≤ 6561 := Nat.le_trans (prodw_le h k _) (Nat.pow_le_pow_right (by decide) h.n4)
theorem pw_le {T : Tb} (h : TOk T) (k : Nat) {c : Nat} (hc : c ≤ 4) : prodw T k c ≤ 6561 := Nat.le_trans (prodw_le h k _) (Nat.pow_le_pow_right (by decide) hc)
theorem wsm_le {T : Tb} (h : TOk T) (c i : Nat) (hi : i ≤ 5) : fb_sm (fun v => tw T (c * 5 + v)) i ≤ 45 := by
  have h1 : fb_sm (fun v => tw T (c * 5 + v)) i ≤ fb_sm (fun _ => 9) i := fb_sm_le (fun k _ => h.w9 _)
  rw [fb_sm_const] at h1
  omega
section X
variable {T : Tb} {tc tca tru tdf : Int32} {tsi tst tco twe tse tac trw : Nat → Int32}
theorem x_rulesFor (hT : TOk T) (h : XT T tc tca tru tdf tsi tst tco twe tse tac trw) {k : Nat} (hk : k < 2 ^ 31) : f_X4_rulesFor tc tru tsi tst trw (nI k) = some (nI (bts T k)) := by
  have h4 := hT.n4
  have h12 := hT.r12
  unfold f_X4_rulesFor
  rw [nm_go, h.r, m2r _ (by omega)]
  refine wl_for (fun c => (nI (btF T k c), nI c)) (tn T) (fun c hc => ?_) ?_ (by omega)
  · show f_X4_rulesFor_s11 tc tsi tst trw (nI k) (nI (btF T k c)) (nI c) = _
    have hd := dig_lt hT hc k
    have hz := hT.z5 c
    unfold f_X4_rulesFor_s11
    rw [h.n, if_neg (nI_ge hc (by omega)), x_dig hT h hk hc, bd_go, show (5 : Int32) = nI 5 from rfl, pk_mul, nI_add, rd_nI (by omega) (by decide), h.rw hc hd, fa_and, nI_1]
    rfl
  · show f_X4_rulesFor_s11 tc tsi tst trw (nI k) (nI (btF T k (tn T))) (nI (tn T)) = _
    unfold f_X4_rulesFor_s11
    rw [h.n, if_pos (Int32.le_refl _)]
    rfl
theorem x_firstRule (hT : TOk T) (h : XT T tc tca tru tdf tsi tst tco twe tse tac trw) {k : Nat} (hk : k < 2 ^ 31) : f_X4_firstRuleFor tc tru tsi tst trw (nI k) = some (if fst T k < tr T then nI (fst T k) else (-1 : Int32)) := by
  have h12 := hT.r12
  unfold f_X4_firstRuleFor
  rw [x_rulesFor hT h hk, bd_go]
  refine wl_find (mt T k) (tr T) (by omega) (fun r => nI r) (-1) (fun r hr hp => ?_) (fun r hr hp => ?_) ?_
  · unfold f_X4_firstRuleFor_s8
    rw [h.r, if_neg (nI_ge hr (by omega)), if_pos (sh_bit (by omega) |>.mpr (by rw [tb_bts, hp, Bool.and_false])), nI_1]
  · unfold f_X4_firstRuleFor_s8
    rw [h.r, if_neg (nI_ge hr (by omega)), if_neg (fun w => by rw [sh_bit (by omega), tb_bts, hp] at w; simp [hr] at w)]
  · unfold f_X4_firstRuleFor_s8
    rw [h.r, if_pos (Int32.le_refl _)]
theorem x_action (hT : TOk T) (h : XT T tc tca tru tdf tsi tst tco twe tse tac trw) {k : Nat} (hk : k < 2 ^ 31) : f_X4_actionFor tc tru tdf tsi tst tac trw (nI k) = some (dI (actc T k)) := by
  have h12 := hT.r12
  unfold f_X4_actionFor actc
  rw [x_firstRule hT h hk, bd_go]
  by_cases q : fst T k < tr T
  · rw [if_pos q, if_pos q, if_pos (nI_pos' (by omega)), rd_nI (by omega) (by decide), h.a q]
    rfl
  · rw [if_neg q, if_neg q, if_neg (by decide), h.d]
theorem x_weight (hT : TOk T) (h : XT T tc tca tru tdf tsi tst tco twe tse tac trw) {k : Nat} (hk : k < 2 ^ 31) : f_X4_weightOf tc tsi tst twe (nI k) = some (nI (cwt T k)) := by
  have h4 := hT.n4
  unfold f_X4_weightOf
  refine wl_for (fun c => (nI (prodw T k c), nI c)) (tn T) (fun c hc => ?_) ?_ (by omega)
  · show f_X4_weightOf_s4 tc tsi tst twe (nI k) (nI (prodw T k c)) (nI c) = _
    have hd := dig_lt hT hc k
    have hz := hT.z5 c
    unfold f_X4_weightOf_s4
    rw [h.n, if_neg (nI_ge hc (by omega)), x_dig hT h hk hc, bd_go, show (5 : Int32) = nI 5 from rfl, pk_mul, nI_add, rd_nI (by omega) (by decide), h.w (by omega), pk_mul, nI_1]
    rfl
  · show f_X4_weightOf_s4 tc tsi tst twe (nI k) (nI (prodw T k (tn T))) (nI (tn T)) = _
    unfold f_X4_weightOf_s4
    rw [h.n, if_pos (Int32.le_refl _)]
    rfl
theorem x_weightSum (hT : TOk T) (h : XT T tc tca tru tdf tsi tst tco twe tse tac trw) {c : Nat} (hc : c < tn T) : f_X4_weightSum tsi twe (nI c) = some (nI (wsm T c)) := by
  have h4 := hT.n4
  have hz := hT.z5 c
  unfold f_X4_weightSum
  refine wl_for (fun i => (nI (fb_sm (fun v => tw T (c * 5 + v)) i), nI i)) (tz T c) (fun i hi => ?_) ?_ (by omega)
  · show f_X4_weightSum_s4 tsi twe (nI c) (nI _) (nI i) = _
    unfold f_X4_weightSum_s4
    rw [rd_nI (by omega) (by decide), h.z (by omega), if_neg (nI_ge hi (by omega)), show (5 : Int32) = nI 5 from rfl, pk_mul, nI_add, rd_nI (by omega) (by decide), h.w (by omega), nI_add, nI_1]
    rfl
  · show f_X4_weightSum_s4 tsi twe (nI c) (nI _) (nI (tz T c)) = _
    unfold f_X4_weightSum_s4
    rw [rd_nI (by omega) (by decide), h.z (by omega), if_pos (Int32.le_refl _)]
    rfl
end X
section M
variable {T : Tb} {mc mru mst : Int32} {msi mwe mco mse mac : Nat → Int32}
theorem MT.n (h : MT T mc mru mst msi mwe mco mse mac) : mc = nI (tn T) := h.1
theorem MT.r (h : MT T mc mru mst msi mwe mco mse mac) : mru = nI (tr T) := h.2.1
theorem MT.d (h : MT T mc mru mst msi mwe mco mse mac) : mst = dI (td T) := h.2.2.1
theorem MT.z (h : MT T mc mru mst msi mwe mco mse mac) {c : Nat} (hc : c < 4) : msi c = nI (tz T c) := h.2.2.2.1 c hc
theorem MT.w (h : MT T mc mru mst msi mwe mco mse mac) {i : Nat} (hi : i < 20) : mwe i = nI (tw T i) := h.2.2.2.2.1 i hi
theorem MT.k (h : MT T mc mru mst msi mwe mco mse mac) {c : Nat} (hc : c < 4) : mco c = nI (tk T c) := h.2.2.2.2.2.1 c hc
theorem MT.s (h : MT T mc mru mst msi mwe mco mse mac) {i : Nat} (hi : i < tr T * 4) : mse i = nI (ts T i) := h.2.2.2.2.2.2.1 i hi
theorem MT.a (h : MT T mc mru mst msi mwe mco mse mac) {r : Nat} (hr : r < tr T) : mac r = nI (ta T r) := h.2.2.2.2.2.2.2 r hr
theorem m_cases (hT : TOk T) (h : MT T mc mru mst msi mwe mco mse mac) : f_X7_cases mc msi = some (nI (cas T)) := by
  have h4 := hT.n4
  unfold f_X7_cases
  refine wl_for (fun c => (nI (pr (tz T) 0 c), nI c)) (tn T) (fun c hc => ?_) ?_ (by omega)
  · show f_X7_cases_s4 mc msi (nI _) (nI c) = _
    unfold f_X7_cases_s4
    rw [h.n, if_neg (nI_ge hc (by omega)), rd_nI (by omega) (by decide), h.z (by omega), pk_mul, nI_1, pr_last, Nat.zero_add]
  · show f_X7_cases_s4 mc msi (nI _) (nI (tn T)) = _
    unfold f_X7_cases_s4
    rw [h.n, if_pos (Int32.le_refl _)]
    rfl
theorem m_value (hT : TOk T) (h : MT T mc mru mst msi mwe mco mse mac) {k c : Nat} (hk : k < 2 ^ 31) (hc : c < tn T) : f_X7_valueOf mc msi (nI k) (nI c) = some (nI (dig T k c)) := by
  have h4 := hT.n4
  have h1 := hT.n1
  unfold f_X7_valueOf
  rw [nm_go, h.n, show (1 : Int32) = nI 1 from rfl, pk_sub (by omega)]
  rw [show (nI k, nI (tn T - 1)) = (fun j => (nI (k / pr (tz T) (tn T - j) j), nI (tn T - 1 - j))) 0 by simp [pr]]
  refine wl_for (fun j => (nI (k / pr (tz T) (tn T - j) j), nI (tn T - 1 - j))) (tn T - 1 - c) (fun j hj => ?_) ?_ (by omega)
  · show f_X7_valueOf_s10 msi (nI c) (nI _) (nI (tn T - 1 - j)) = _
    have hz := hT.z2 (c := tn T - 1 - j) (by omega)
    have hz5 := hT.z5 (tn T - 1 - j)
    have hl := Nat.div_le_self k (pr (tz T) (tn T - j) j)
    unfold f_X7_valueOf_s10
    rw [if_neg (nI_ge (by omega) (by omega)), rd_nI (by omega) (by decide), h.z (by omega), nz_go (nI_ne0 (by omega) (by omega)), pk_div (by omega) (by omega) (by omega), Nat.div_div_eq_div_mul]
    obtain ⟨q, hq⟩ : ∃ q, tn T - 1 - j = q + 1 := ⟨tn T - 1 - j - 1, by omega⟩
    rw [hq, pk_m1, show tn T - (j + 1) = q + 1 by omega, show tn T - 1 - (j + 1) = q by omega, pr, show tn T - j = q + 1 + 1 by omega, Nat.mul_comm]
  · show f_X7_valueOf_s10 msi (nI c) (nI _) (nI (tn T - 1 - (tn T - 1 - c))) = _
    have hz := hT.z2 hc
    have hz5 := hT.z5 c
    have hl := Nat.div_le_self k (pr (tz T) (c + 1) (tn T - 1 - c))
    unfold f_X7_valueOf_s10
    rw [show tn T - 1 - (tn T - 1 - c) = c by omega, show tn T - (tn T - 1 - c) = c + 1 by omega, if_pos (Int32.le_refl _), rd_nI (by omega) (by decide), h.z (by omega), nz_go (nI_ne0 (by omega) (by omega)), pk_rem (by omega) (by omega) (by omega)]
    rfl
theorem m_fits (hT : TOk T) (h : MT T mc mru mst msi mwe mco mse mac) {k r : Nat} (hk : k < 2 ^ 31) (hr : r < tr T) : f_X7_fits mc msi mse (nI r) (nI k) = some (mt T k r) := by
  have h4 := hT.n4
  have h12 := hT.r12
  unfold f_X7_fits
  have key : ∀ c, c ≤ tn T → mtF T r k c = decide (¬ fa_first (fun c => !(ts T (r * 4 + c)).testBit (dig T k c)) c < c) := by
    intro c
    induction c with
    | zero => intro _; rfl
    | succ c ih =>
      intro hc
      rw [mtF, ih (by omega), fa_first]
      have hle := fa_first_le (fun c => !(ts T (r * 4 + c)).testBit (dig T k c)) c
      by_cases q : fa_first (fun c => !(ts T (r * 4 + c)).testBit (dig T k c)) c < c
      · have q2 : fa_first (fun c => !(ts T (r * 4 + c)).testBit (dig T k c)) c < c + 1 := by omega
        simp [q, q2]
      · by_cases b : (ts T (r * 4 + c)).testBit (dig T k c) <;> simp [q, b]
  have e := wl_find (f := fun q => f_X7_fits_s2 mc msi mse (nI r) (nI k) q) (fun c => !(ts T (r * 4 + c)).testBit (dig T k c)) (tn T) (by omega) (fun _ => false) true (fun c hc hp => ?_) (fun c hc hp => ?_) ?_
  · rw [show (0 : Int32) = nI 0 from rfl, e, mt, key _ (Nat.le_refl _)]
    by_cases q : fa_first (fun c => !(ts T (r * 4 + c)).testBit (dig T k c)) (tn T) < tn T
    · rw [if_pos q, decide_eq_false (fun w => w q)]
    · rw [if_neg q, decide_eq_true q]
  · have hd := dig_lt hT hc k
    have hz := hT.z5 c
    show f_X7_fits_s2 mc msi mse (nI r) (nI k) (nI c) = _
    unfold f_X7_fits_s2
    rw [h.n, if_neg (nI_ge hc (by omega)), show (4 : Int32) = nI 4 from rfl, pk_mul, nI_add, rd_nI (by omega) (by decide), show 4 * r + c = r * 4 + c by omega, h.s (by omega), ← h.n, m_value hT h hk hc, bd_go, if_neg (fun w => by rw [sh_bit (by omega)] at w; simp [w] at hp), nI_1]
  · have hd := dig_lt hT hc k
    have hz := hT.z5 c
    show f_X7_fits_s2 mc msi mse (nI r) (nI k) (nI c) = _
    unfold f_X7_fits_s2
    rw [h.n, if_neg (nI_ge hc (by omega)), show (4 : Int32) = nI 4 from rfl, pk_mul, nI_add, rd_nI (by omega) (by decide), show 4 * r + c = r * 4 + c by omega, h.s (by omega), ← h.n, m_value hT h hk hc, bd_go, if_pos (sh_bit (by omega) |>.mpr (by simpa using hp))]
  · show f_X7_fits_s2 mc msi mse (nI r) (nI k) (nI (tn T)) = _
    unfold f_X7_fits_s2
    rw [h.n, if_pos (Int32.le_refl _)]
theorem m_first (hT : TOk T) (h : MT T mc mru mst msi mwe mco mse mac) {k : Nat} (hk : k < 2 ^ 31) : f_X7_firstOf mc msi mru mse (nI k) = some (if fst T k < tr T then nI (fst T k) else (-6 : Int32)) := by
  have h12 := hT.r12
  unfold f_X7_firstOf
  refine wl_find (mt T k) (tr T) (by omega) (fun r => nI r) (-6) (fun r hr hp => ?_) (fun r hr hp => ?_) ?_
  · unfold f_X7_firstOf_s2
    rw [h.r, if_neg (nI_ge hr (by omega)), m_fits hT h hk hr, bd_go, hp, if_neg (by decide), nI_1]
  · unfold f_X7_firstOf_s2
    rw [h.r, if_neg (nI_ge hr (by omega)), m_fits hT h hk hr, bd_go, hp, if_pos rfl]
  · unfold f_X7_firstOf_s2
    rw [h.r, if_pos (Int32.le_refl _)]
theorem nI_m6 {n : Nat} (h : n < 2 ^ 31) : ¬ nI n = (-6 : Int32) := fun e => by
  have h1 := congrArg Int32.toInt e
  rw [nI_toInt h] at h1
  have h2 : (-6 : Int32).toInt = -6 := rfl
  omega
theorem nI_m1 {n : Nat} (h : n < 2 ^ 31) : ¬ nI n = (-1 : Int32) := fun e => by
  have h1 := congrArg Int32.toInt e
  rw [nI_toInt h] at h1
  have h2 : (-1 : Int32).toInt = -1 := rfl
  omega
theorem m_action (hT : TOk T) (h : MT T mc mru mst msi mwe mco mse mac) {k : Nat} (hk : k < 2 ^ 31) : f_X7_actionOf mc msi mru mse mac mst (nI k) = some (dI (actc T k)) := by
  have h12 := hT.r12
  unfold f_X7_actionOf actc
  rw [m_first hT h hk, bd_go]
  by_cases q : fst T k < tr T
  · rw [if_pos q, if_pos q, if_neg (nI_m6 (by omega)), rd_nI (by omega) (by decide), h.a q]
    rfl
  · rw [if_neg q, if_neg q, if_pos rfl, h.d]
theorem m_weightSum (hT : TOk T) (h : MT T mc mru mst msi mwe mco mse mac) {c : Nat} (hc : c < tn T) : f_X7_weightSum msi mwe (nI c) = some (nI (wsm T c)) := by
  have h4 := hT.n4
  have hz := hT.z5 c
  unfold f_X7_weightSum
  refine wl_for (fun i => (nI (fb_sm (fun v => tw T (c * 5 + v)) i), nI i)) (tz T c) (fun i hi => ?_) ?_ (by omega)
  · show f_X7_weightSum_s4 msi mwe (nI c) (nI _) (nI i) = _
    unfold f_X7_weightSum_s4
    rw [rd_nI (by omega) (by decide), h.z (by omega), if_neg (nI_ge hi (by omega)), show (5 : Int32) = nI 5 from rfl, pk_mul, nI_add, rd_nI (by omega) (by decide), show 5 * c + i = c * 5 + i by omega, h.w (by omega), nI_add, nI_1]
    rfl
  · show f_X7_weightSum_s4 msi mwe (nI c) (nI _) (nI (tz T c)) = _
    unfold f_X7_weightSum_s4
    rw [rd_nI (by omega) (by decide), h.z (by omega), if_pos (Int32.le_refl _)]
    rfl
end M
