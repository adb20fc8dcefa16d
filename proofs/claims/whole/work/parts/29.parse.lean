/-! the text of a rule -/
def gds (T : Tb) (s : Nat → Nat) (i : Nat) : Prop := 0 < s i ∧ s i < 2 ^ tz T i
def PS (T : Tb) (q c : Nat) (s : Nat → Nat) (a : Nat) : Prop := (∀ i, s i < 32) ∧ c < tn T ∧ (∀ i, i < c → gds T s i) ∧ (q = 0 → s c = 0) ∧ (1 ≤ q → gds T s c) ∧ (∀ i, c < i → s i = 0) ∧ (3 ≤ q → c + 1 = tn T) ∧ q ≤ 4 ∧ (q = 4 → a ≤ 9)
def dgt (T : Tb) (c b : Nat) : Bool := decide (48 ≤ b ∧ b < 48 + tz T c)
def sep (T : Tb) (c b : Nat) : Bool := if c + 1 < tn T then decide (b = 44) else decide (b = 58)
def updN (s : Nat → Nat) (c v : Nat) : Nat → Nat := fun i => if i = c then v else s i
theorem dgt_h {T : Tb} (hT : TOk T) (c : Nat) {b : Nat} (hb : b < 128) : hasb (tz T c) (nI b - (48 : Int32)) = dgt T c b := by
  have hz := hT.z5 c
  have e : (nI b - (48 : Int32)).toInt = (b : Int) - 48 := pk_sub_toInt (b := 48) (by omega) (by decide)
  have e0 : (0 : Int32).toInt = 0 := rfl
  unfold hasb dgt
  have h1 : (¬ (nI b - (48 : Int32)) < 0 ∧ ¬ nI (tz T c) ≤ (nI b - (48 : Int32))) ↔ (48 ≤ b ∧ b < 48 + tz T c) := by
    rw [fa_lt, fa_le, e, e0, nI_toInt (by omega)]
    omega
  simp only [h1]
theorem dgt_m {T : Tb} (hT : TOk T) (c : Nat) {b : Nat} (hb : b < 128) : f_X7_isIn (nI b) (48 : Int32) (((48 : Int32) + nI (tz T c)) - (1 : Int32)) = some (dgt T c b) := by
  have hz := hT.z5 c
  rw [show (48 : Int32) = nI 48 from rfl, show (1 : Int32) = nI 1 from rfl, nI_add, pk_sub (by omega), m_in]
  unfold inb dgt
  have h1 : (¬ nI b < nI 48 ∧ ¬ nI (48 + tz T c - 1) < nI b) ↔ (48 ≤ b ∧ b < 48 + tz T c) := by
    rw [nI_ltI (by omega) (by omega), nI_ltI (by omega) (by omega)]
    omega
  simp only [h1]
section P
variable {T : Tb} {tc tca tru tdf : Int32} {tsi tst tco twe tse tac trw : Nat → Int32} {mc mru mst : Int32} {msi mwe mco mse mac : Nat → Int32}
theorem updN_rel {f : Nat → Int32} {s : Nat → Nat} {c v : Nat} (h : ∀ i, i < 4 → f i = nI (s i)) : ∀ i, i < 4 → upd f c (nI v) i = nI (updN s c v i) := up_rel h
theorem ps_set (hT : TOk T) {q c a q' v : Nat} {s : Nat → Nat} (h : PS T q c s a) (hq : q ≤ 2) (hv : 0 < v ∧ v < 2 ^ tz T c) (hq' : q' = 1 ∨ q' = 2) : PS T q' c (updN s c v) a := by
  obtain ⟨h1, h2, h3, h4, h5, h6, h7, h8, h9⟩ := h
  have hz := hT.z5 c
  have hp : 2 ^ tz T c ≤ 2 ^ 5 := Nat.pow_le_pow_right (by decide) hz
  refine ⟨fun i => ?_, h2, fun i hi => ?_, fun w => by omega, fun _ => ?_, fun i hi => ?_, fun w => by omega, by omega, fun w => by omega⟩
  · unfold updN
    by_cases e : i = c
    · rw [if_pos e]; omega
    · rw [if_neg e]; exact h1 i
  · unfold gds updN
    rw [if_neg (by omega)]
    exact h3 i hi
  · unfold gds updN
    rw [if_pos rfl]
    exact hv
  · unfold updN
    rw [if_neg (by omega)]
    exact h6 i hi
theorem ps_sep0 {q c a : Nat} {s : Nat → Nat} (h : PS T q c s a) (hq : q = 1 ∨ q = 2) (hc : c + 1 < tn T) : PS T 0 (c + 1) s a := by
  obtain ⟨h1, h2, h3, h4, h5, h6, h7, h8, h9⟩ := h
  refine ⟨h1, hc, fun i hi => ?_, fun _ => h6 _ (by omega), fun w => by omega, fun i hi => h6 i (by omega), fun w => by omega, by omega, fun w => by omega⟩
  by_cases e : i = c
  · subst e; exact h5 (by omega)
  · exact h3 i (by omega)
theorem ps_sep3 {q c a : Nat} {s : Nat → Nat} (h : PS T q c s a) (hq : q = 1 ∨ q = 2) (hc : ¬ c + 1 < tn T) : PS T 3 c s a := by
  obtain ⟨h1, h2, h3, h4, h5, h6, h7, h8, h9⟩ := h
  exact ⟨h1, h2, h3, fun w => by omega, fun _ => h5 (by omega), h6, fun _ => by omega, by omega, fun w => by omega⟩
theorem ps_act {c a a' : Nat} {s : Nat → Nat} (h : PS T 3 c s a) (ha : a' ≤ 9) : PS T 4 c s a' := by
  obtain ⟨h1, h2, h3, h4, h5, h6, h7, h8, h9⟩ := h
  exact ⟨h1, h2, h3, fun w => by omega, fun _ => h5 (by omega), h6, fun _ => h7 (by omega), by omega, fun _ => ha⟩
theorem bit_v {c b : Nat} (h : dgt T c b = true) : 48 ≤ b ∧ b - 48 < tz T c := by
  have h1 : 48 ≤ b ∧ b < 48 + tz T c := of_decide_eq_true h
  omega
theorem or_v {x c v : Nat} (hx : x < 2 ^ tz T c) (hv : v < tz T c) : 0 < (x ||| 1 <<< v) ∧ (x ||| 1 <<< v) < 2 ^ tz T c := by
  have h1 : 1 <<< v = 2 ^ v := by rw [Nat.one_shiftLeft]
  have h2 : 2 ^ v < 2 ^ tz T c := Nat.pow_lt_pow_right (by decide) hv
  have h3 : 0 < 2 ^ v := Nat.pow_pos (by decide)
  rw [h1]
  exact ⟨Nat.lt_of_lt_of_le h3 Nat.right_le_or, Nat.or_lt_two_pow hx h2⟩
/-- the state that a good byte leads to -/
def pnx (T : Tb) (q c : Nat) (s : Nat → Nat) (a b : Nat) : Option (Nat × Nat × (Nat → Nat) × Nat) :=
  if q = 0 ∧ b = 42 then some (2, c, updN s c (2 ^ tz T c - 1), a)
  else if q ≤ 1 ∧ dgt T c b = true then some (1, c, updN s c (s c ||| 1 <<< (b - 48)), a)
  else if (q = 1 ∨ q = 2) ∧ sep T c b = true then (if c + 1 < tn T then some (0, c + 1, s, a) else some (3, c, s, a))
  else if q = 3 ∧ 48 ≤ b ∧ b ≤ 57 then some (4, c, s, b - 48)
  else none
theorem pnx_ps (hT : TOk T) {q c a b : Nat} {s : Nat → Nat} (h : PS T q c s a) {q' c' a' : Nat} {s' : Nat → Nat} (e : pnx T q c s a b = some (q', c', s', a')) : PS T q' c' s' a' := by
  have hz2 := hT.z2 h.2.1
  unfold pnx at e
  by_cases e1 : q = 0 ∧ b = 42
  · rw [if_pos e1] at e
    cases e
    have : 2 ^ 2 ≤ 2 ^ tz T c := Nat.pow_le_pow_right (by decide) hz2
    exact ps_set hT h (by omega) ⟨by omega, by omega⟩ (Or.inr rfl)
  · rw [if_neg e1] at e
    by_cases e2 : q ≤ 1 ∧ dgt T c b = true
    · rw [if_pos e2] at e
      cases e
      have hs : s c < 2 ^ tz T c := by
        by_cases w : q = 0
        · rw [h.2.2.2.1 w]; exact Nat.pow_pos (by decide)
        · exact (h.2.2.2.2.1 (by omega)).2
      exact ps_set hT h (by omega) (or_v hs (bit_v e2.2).2) (Or.inl rfl)
    · rw [if_neg e2] at e
      by_cases e3 : (q = 1 ∨ q = 2) ∧ sep T c b = true
      · rw [if_pos e3] at e
        by_cases e4 : c + 1 < tn T
        · rw [if_pos e4] at e
          cases e
          exact ps_sep0 h e3.1 e4
        · rw [if_neg e4] at e
          cases e
          exact ps_sep3 h e3.1 e4
      · rw [if_neg e3] at e
        by_cases e4 : q = 3 ∧ 48 ≤ b ∧ b ≤ 57
        · rw [if_pos e4] at e
          cases e
          obtain ⟨rfl, e5, e6⟩ := e4
          exact ps_act h (by omega)
        · rw [if_neg e4] at e
          cases e
def xrel (q c : Nat) (s : Nat → Nat) (a : Nat) (ra : Int32) (rs : Nat → Int32) (rst rc : Int32) : Prop := rst = nI q ∧ rc = nI c ∧ (∀ i, i < 4 → rs i = nI (s i)) ∧ (q = 4 → ra = nI a)
theorem x_star (hT : TOk T) (hX : XT T tc tca tru tdf tsi tst tco twe tse tac trw) {c b : Nat} (hc : c < tn T) (hb : b < 128) (rs : Nat → Int32) (rst : Int32) : f_X2_acceptStar rs rst (nI c) tsi (nI b) = if b = 42 then some (true, upd rs c (nI (2 ^ tz T c - 1)), (2 : Int32)) else some (false, rs, rst) := by
  have h4 := hT.n4
  have hz := hT.z5 c
  unfold f_X2_acceptStar
  by_cases e : b = 42
  · rw [if_pos e, if_pos (by rw [e]; rfl), rd_nI (by omega) (by decide), hX.z (by omega), m2r _ (by omega), nI_clamp (by omega)]
  · rw [if_neg e, if_neg (show ¬ nI b = (42 : Int32) from fun w => e ((nI_eq (b := 42) (by omega) (by decide)).mp w))]
theorem x_val (hT : TOk T) (hX : XT T tc tca tru tdf tsi tst tco twe tse tac trw) {c b : Nat} {s : Nat → Nat} (hc : c < tn T) (hb : b < 128) {rs : Nat → Int32} (hrs : ∀ i, i < 4 → rs i = nI (s i)) (rst : Int32) : f_X2_acceptValue rs rst (nI c) tc tsi (nI b) = if dgt T c b = true then some (true, upd rs c (nI (s c ||| 1 <<< (b - 48))), (1 : Int32)) else some (false, rs, rst) := by
  have h4 := hT.n4
  have hz := hT.z5 c
  unfold f_X2_acceptValue
  rw [x_hasV hT hX hc, bd_go, dgt_h hT c hb]
  cases hd : dgt T c b with
  | false => rw [if_neg (by decide), if_neg (by decide)]
  | true =>
    have hv := bit_v hd
    rw [if_pos rfl, if_pos rfl, rd_nI (by omega) (by decide), hrs c (by omega), show (48 : Int32) = nI 48 from rfl, pk_sub hv.1, sh_1 _ (by omega), fa_or, nI_clamp (by omega)]
theorem x_sep (hT : TOk T) (hX : XT T tc tca tru tdf tsi tst tco twe tse tac trw) {c b : Nat} (hc : c < tn T) (hb : b < 128) (rst : Int32) : f_X2_acceptSeparator rst (nI c) tc (nI b) = if sep T c b = true then (if c + 1 < tn T then some (true, (0 : Int32), nI (c + 1)) else some (true, (3 : Int32), nI c)) else some (false, rst, nI c) := by
  have h4 := hT.n4
  unfold f_X2_acceptSeparator sep
  rw [nI_1, hX.n]
  by_cases e : c + 1 < tn T
  · rw [if_pos (nI_lt e (by omega)), if_pos e]
    by_cases e2 : b = 44
    · rw [if_pos (by rw [e2]; rfl), if_pos (decide_eq_true e2), if_pos e]
    · rw [if_neg (show ¬ nI b = (44 : Int32) from fun w => e2 ((nI_eq (b := 44) (by omega) (by decide)).mp w)), if_neg (fun w => e2 (of_decide_eq_true w))]
  · rw [if_neg (nI_nlt (by omega) (by omega)), if_neg e]
    by_cases e2 : b = 58
    · rw [if_pos (by rw [e2]; rfl), if_pos (decide_eq_true e2), if_neg e]
    · rw [if_neg (show ¬ nI b = (58 : Int32) from fun w => e2 ((nI_eq (b := 58) (by omega) (by decide)).mp w)), if_neg (fun w => e2 (of_decide_eq_true w))]
theorem sep_dgt (hT : TOk T) {c b : Nat} (h : dgt T c b = true) : sep T c b = false := by
  have hz := hT.z5 c
  have h1 : 48 ≤ b ∧ b < 48 + tz T c := of_decide_eq_true h
  unfold sep
  by_cases e : c + 1 < tn T
  · rw [if_pos e, decide_eq_false (by omega)]
  · rw [if_neg e, decide_eq_false (by omega)]
theorem x_acc (hT : TOk T) (hX : XT T tc tca tru tdf tsi tst tco twe tse tac trw) {q c a b : Nat} {s : Nat → Nat} (h : PS T q c s a) (hb : b < 128) {ra : Int32} {rs : Nat → Int32} {rst rc : Int32} (hr : xrel q c s a ra rs rst rc) : (∀ q' c' s' a', pnx T q c s a b = some (q', c', s', a') → ∃ ra' rs' rst' rc', f_X2_accept ra rs rst rc tc tsi (nI b) = some (true, ra', rs', rst', rc') ∧ xrel q' c' s' a' ra' rs' rst' rc') ∧ (pnx T q c s a b = none → ∃ ra' rs' rst' rc', f_X2_accept ra rs rst rc tc tsi (nI b) = some (false, ra', rs', rst', rc')) := by
  obtain ⟨e1, e2, e3, e4⟩ := hr
  subst e1
  subst e2
  have hc := h.2.1
  have h4 := hT.n4
  have hq4 := h.2.2.2.2.2.2.2.1
  have fin : ∀ ⦃q' c' a' : Nat⦄ ⦃s' : Nat → Nat⦄ ⦃ra' rst' rc' : Int32⦄ ⦃rs' : Nat → Int32⦄, pnx T q c s a b = some (q', c', s', a') → f_X2_accept ra rs (nI q) (nI c) tc tsi (nI b) = some (true, ra', rs', rst', rc') → xrel q' c' s' a' ra' rs' rst' rc' → (∀ q' c' s' a', pnx T q c s a b = some (q', c', s', a') → ∃ ra' rs' rst' rc', f_X2_accept ra rs (nI q) (nI c) tc tsi (nI b) = some (true, ra', rs', rst', rc') ∧ xrel q' c' s' a' ra' rs' rst' rc') ∧ (pnx T q c s a b = none → ∃ ra' rs' rst' rc', f_X2_accept ra rs (nI q) (nI c) tc tsi (nI b) = some (false, ra', rs', rst', rc')) := by
    intro q' c' a' s' ra' rst' rc' rs' h1 h2 h3
    refine ⟨fun q2 c2 s2 a2 e => ?_, fun e => by rw [h1] at e; cases e⟩
    rw [h1] at e
    cases e
    exact ⟨_, _, _, _, h2, h3⟩
  have bad : ∀ ⦃ra' rst' rc' : Int32⦄ ⦃rs' : Nat → Int32⦄, pnx T q c s a b = none → f_X2_accept ra rs (nI q) (nI c) tc tsi (nI b) = some (false, ra', rs', rst', rc') → (∀ q' c' s' a', pnx T q c s a b = some (q', c', s', a') → ∃ ra' rs' rst' rc', f_X2_accept ra rs (nI q) (nI c) tc tsi (nI b) = some (true, ra', rs', rst', rc') ∧ xrel q' c' s' a' ra' rs' rst' rc') ∧ (pnx T q c s a b = none → ∃ ra' rs' rst' rc', f_X2_accept ra rs (nI q) (nI c) tc tsi (nI b) = some (false, ra', rs', rst', rc')) := by
    intro ra' rst' rc' rs' h1 h2
    exact ⟨fun q2 c2 s2 a2 e => (by rw [h1] at e; cases e), fun _ => ⟨_, _, _, _, h2⟩⟩
  match q, h, hq4, e4, fin, bad with
  | 0, h, _, e4, fin, bad =>
    by_cases b1 : b = 42
    · refine fin (q' := 2) (c' := c) (s' := updN s c (2 ^ tz T c - 1)) (a' := a) (by simp [pnx, b1]) (by
        unfold f_X2_accept
        rw [if_pos (show nI 0 = (0 : Int32) from rfl), x_star hT hX hc hb, if_pos b1, bd3_go, if_pos rfl] <;> rfl) ⟨rfl, rfl, updN_rel e3, fun w => by omega⟩
    · cases hd : dgt T c b with
      | true =>
        refine fin (q' := 1) (c' := c) (s' := updN s c (s c ||| 1 <<< (b - 48))) (a' := a) (by simp [pnx, b1, hd]) (by
          unfold f_X2_accept
          rw [if_pos (show nI 0 = (0 : Int32) from rfl), x_star hT hX hc hb, if_neg b1, bd3_go, if_neg (by decide), x_val hT hX hc hb e3, hd, if_pos rfl, bd3_go, if_pos rfl] <;> rfl) ⟨rfl, rfl, updN_rel e3, fun w => by omega⟩
      | false =>
        refine bad (by simp [pnx, b1, hd]) (by
          unfold f_X2_accept
          rw [if_pos (show nI 0 = (0 : Int32) from rfl), x_star hT hX hc hb, if_neg b1, bd3_go, if_neg (by decide), x_val hT hX hc hb e3, hd, if_neg (by decide), bd3_go, if_neg (by decide)] <;> rfl)
  | 1, h, _, e4, fin, bad =>
    have f0 : f_X2_accept ra rs (nI 1) (nI c) tc tsi (nI b) = bd3 (f_X2_acceptValue rs (nI 1) (nI c) tc tsi (nI b)) fun z63 w63_0 w63_1 => (if z63 = true then (some (true, ra, w63_0, w63_1, nI c)) else (bd3 (f_X2_acceptSeparator w63_1 (nI c) tc (nI b)) fun z72 w72_0 w72_1 => (if z72 = true then (some (true, ra, w63_0, w72_0, w72_1)) else (some (false, ra, w63_0, w72_0, w72_1))))) := by
      unfold f_X2_accept
      rw [if_neg (show ¬ nI 1 = (0 : Int32) by decide), if_pos (show nI 1 = (1 : Int32) from rfl)]
    cases hd : dgt T c b with
    | true =>
      refine fin (q' := 1) (c' := c) (s' := updN s c (s c ||| 1 <<< (b - 48))) (a' := a) (by simp [pnx, hd]) (by
        rw [f0, x_val hT hX hc hb e3, hd, if_pos rfl, bd3_go, if_pos rfl] <;> rfl) ⟨rfl, rfl, updN_rel e3, fun w => by omega⟩
    | false =>
      have f1 : f_X2_accept ra rs (nI 1) (nI c) tc tsi (nI b) = bd3 (f_X2_acceptSeparator (nI 1) (nI c) tc (nI b)) fun z72 w72_0 w72_1 => (if z72 = true then (some (true, ra, rs, w72_0, w72_1)) else (some (false, ra, rs, w72_0, w72_1))) := by
        rw [f0, x_val hT hX hc hb e3, hd, if_neg (by decide), bd3_go, if_neg (by decide)] <;> rfl
      cases hs : sep T c b with
      | true =>
        by_cases w : c + 1 < tn T
        · exact fin (q' := 0) (c' := c + 1) (s' := s) (a' := a) (by simp [pnx, hd, hs, w]) (by rw [f1, x_sep hT hX hc hb, hs, if_pos rfl, if_pos w, bd3_go, if_pos rfl] <;> rfl) ⟨rfl, rfl, e3, fun w => by omega⟩
        · exact fin (q' := 3) (c' := c) (s' := s) (a' := a) (by simp [pnx, hd, hs, w]) (by rw [f1, x_sep hT hX hc hb, hs, if_pos rfl, if_neg w, bd3_go, if_pos rfl] <;> rfl) ⟨rfl, rfl, e3, fun w => by omega⟩
      | false => exact bad (by simp [pnx, hd, hs]) (by rw [f1, x_sep hT hX hc hb, hs, if_neg (by decide), bd3_go, if_neg (by decide)] <;> rfl)
  | 2, h, _, e4, fin, bad =>
    have f1 : f_X2_accept ra rs (nI 2) (nI c) tc tsi (nI b) = bd3 (f_X2_acceptSeparator (nI 2) (nI c) tc (nI b)) fun z87 w87_0 w87_1 => (some (z87, ra, rs, w87_0, w87_1)) := by
      unfold f_X2_accept
      rw [if_neg (show ¬ nI 2 = (0 : Int32) by decide), if_neg (show ¬ nI 2 = (1 : Int32) by decide), if_pos (show nI 2 = (2 : Int32) from rfl)]
    cases hs : sep T c b with
    | true =>
      by_cases w : c + 1 < tn T
      · exact fin (q' := 0) (c' := c + 1) (s' := s) (a' := a) (by simp [pnx, hs, w]) (by rw [f1, x_sep hT hX hc hb, hs, if_pos rfl, if_pos w, bd3_go] <;> rfl) ⟨rfl, rfl, e3, fun w => by omega⟩
      · exact fin (q' := 3) (c' := c) (s' := s) (a' := a) (by simp [pnx, hs, w]) (by rw [f1, x_sep hT hX hc hb, hs, if_pos rfl, if_neg w, bd3_go] <;> rfl) ⟨rfl, rfl, e3, fun w => by omega⟩
    | false => exact bad (by simp [pnx, hs]) (by rw [f1, x_sep hT hX hc hb, hs, if_neg (by decide), bd3_go] <;> rfl)
  | 3, h, _, e4, fin, bad =>
    have f1 : f_X2_accept ra rs (nI 3) (nI c) tc tsi (nI b) = bd3 (f_X2_acceptAction ra (nI 3) (nI b)) fun z93 w93_0 w93_1 => (some (z93, w93_0, rs, w93_1, nI c)) := by
      unfold f_X2_accept
      rw [if_neg (show ¬ nI 3 = (0 : Int32) by decide), if_neg (show ¬ nI 3 = (1 : Int32) by decide), if_neg (show ¬ nI 3 = (2 : Int32) by decide), if_pos (show nI 3 = (3 : Int32) from rfl)]
    unfold f_X2_acceptAction at f1
    by_cases b1 : b < 48
    · rw [if_pos (show nI b < (48 : Int32) from nI_lt (b := 48) b1 (by decide)), bd3_go] at f1
      exact bad (by simp [pnx]; omega) f1
    · rw [if_neg (show ¬ nI b < (48 : Int32) from nI_nlt (b := 48) (by omega) (by omega))] at f1
      by_cases b2 : b ≤ 57
      · rw [if_pos (show nI b ≤ (57 : Int32) from nI_le (b := 57) b2 (by decide)), bd3_go] at f1
        have b3 : 48 ≤ b := by omega
        refine fin (q' := 4) (c' := c) (s' := s) (a' := b - 48) (by simp [pnx, b2, b3]) f1 ⟨rfl, rfl, e3, fun _ => ?_⟩
        rw [show (48 : Int32) = nI 48 from rfl, pk_sub (by omega)]
      · rw [if_neg (show ¬ nI b ≤ (57 : Int32) from nI_ge (a := 57) (by omega) (by omega)), bd3_go] at f1
        exact bad (by simp [pnx, b2]) f1
  | 4, h, _, e4, fin, bad =>
    refine bad (by simp [pnx]) (by
      unfold f_X2_accept
      rw [if_neg (show ¬ nI 4 = (0 : Int32) by decide), if_neg (show ¬ nI 4 = (1 : Int32) by decide), if_neg (show ¬ nI 4 = (2 : Int32) by decide), if_neg (show ¬ nI 4 = (3 : Int32) by decide)])
  | q + 5, h, hq4, e4, fin, bad => omega
/-- the reference's state in the same words -/
def mrel (T : Tb) (q c : Nat) (s : Nat → Nat) (a : Nat) (v2 v3 v4 v5 : Int32) (mr : Nat → Int32) (mra : Int32) : Prop := v2 = nI (if 3 ≤ q then tn T else c) ∧ v3 = nI (if q = 1 ∨ q = 2 then 1 else 0) ∧ v4 = nI (if q = 2 then 1 else 0) ∧ v5 = nI (if q = 4 then 1 else 0) ∧ (∀ i, i < 4 → mr i = nI (s i)) ∧ (q = 4 → mra = nI a)
theorem m_acc (hT : TOk T) (hM : MT T mc mru mst msi mwe mco mse mac) {q c a b i L : Nat} {s : Nat → Nat} {inp : Nat → Int32} (h : PS T q c s a) (hb : b < 128) (hi : i < L) (hL : L ≤ 40) (hin : inp i = nI b) {v2 v3 v4 v5 mra : Int32} {mr : Nat → Int32} (hr : mrel T q c s a v2 v3 v4 v5 mr mra) : (∀ q' c' s' a', pnx T q c s a b = some (q', c', s', a') → ∃ v2' v3' v4' v5' mr' mra', f_X7_readRule_s36 mc msi inp (nI L) v2 v3 v4 v5 (nI i) mr mra = some (.inl (v2', v3', v4', v5', nI (i + 1), mr', mra')) ∧ mrel T q' c' s' a' v2' v3' v4' v5' mr' mra') ∧ (pnx T q c s a b = none → f_X7_readRule_s36 mc msi inp (nI L) v2 v3 v4 v5 (nI i) mr mra = some (.inr (.inr (nI i, mr, mra)))) := by
  obtain ⟨e1, e2, e3, e4, e5, e6⟩ := hr
  have hc := h.2.1
  have h4 := hT.n4
  have hz := hT.z5 c
  have hq4 := h.2.2.2.2.2.2.2.1
  have fin : ∀ ⦃q' c' a' : Nat⦄ ⦃s' : Nat → Nat⦄ ⦃v2' v3' v4' v5' mra' : Int32⦄ ⦃mr' : Nat → Int32⦄, pnx T q c s a b = some (q', c', s', a') → f_X7_readRule_s36 mc msi inp (nI L) v2 v3 v4 v5 (nI i) mr mra = some (.inl (v2', v3', v4', v5', nI (i + 1), mr', mra')) → mrel T q' c' s' a' v2' v3' v4' v5' mr' mra' → (∀ q' c' s' a', pnx T q c s a b = some (q', c', s', a') → ∃ v2' v3' v4' v5' mr' mra', f_X7_readRule_s36 mc msi inp (nI L) v2 v3 v4 v5 (nI i) mr mra = some (.inl (v2', v3', v4', v5', nI (i + 1), mr', mra')) ∧ mrel T q' c' s' a' v2' v3' v4' v5' mr' mra') ∧ (pnx T q c s a b = none → f_X7_readRule_s36 mc msi inp (nI L) v2 v3 v4 v5 (nI i) mr mra = some (.inr (.inr (nI i, mr, mra)))) := by
    intro q' c' a' s' v2' v3' v4' v5' mra' mr' h1 h2 h3
    refine ⟨fun q2 c2 s2 a2 e => ?_, fun e => by rw [h1] at e; cases e⟩
    rw [h1] at e
    cases e
    exact ⟨_, _, _, _, _, _, h2, h3⟩
  have bad : pnx T q c s a b = none → f_X7_readRule_s36 mc msi inp (nI L) v2 v3 v4 v5 (nI i) mr mra = some (.inr (.inr (nI i, mr, mra))) → (∀ q' c' s' a', pnx T q c s a b = some (q', c', s', a') → ∃ v2' v3' v4' v5' mr' mra', f_X7_readRule_s36 mc msi inp (nI L) v2 v3 v4 v5 (nI i) mr mra = some (.inl (v2', v3', v4', v5', nI (i + 1), mr', mra')) ∧ mrel T q' c' s' a' v2' v3' v4' v5' mr' mra') ∧ (pnx T q c s a b = none → f_X7_readRule_s36 mc msi inp (nI L) v2 v3 v4 v5 (nI i) mr mra = some (.inr (.inr (nI i, mr, mra)))) := by
    intro h1 h2
    exact ⟨fun q2 c2 s2 a2 e => (by rw [h1] at e; cases e), fun _ => h2⟩
  have n42 : ¬ b = 42 → ¬ nI b = (42 : Int32) := fun e w => e ((nI_eq (b := 42) (by omega) (by decide)).mp w)
  have n44 : ¬ b = 44 → ¬ nI b = (44 : Int32) := fun e w => e ((nI_eq (b := 44) (by omega) (by decide)).mp w)
  have n58 : ¬ b = 58 → ¬ nI b = (58 : Int32) := fun e w => e ((nI_eq (b := 58) (by omega) (by decide)).mp w)
  have z0 : nI 0 = (0 : Int32) := rfl
  have z1 : ¬ nI 1 = (0 : Int32) := by decide
  have ncn : ¬ nI c = nI (tn T) := fun w => by have := (nI_eq (by omega) (by omega)).mp w; omega
  match q, h, hq4, e1, e2, e3, e4, e6, fin, bad with
  | 0, h, _, e1, e2, e3, e4, e6, fin, bad =>
    obtain rfl : v2 = nI c := e1
    obtain rfl : v3 = nI 0 := e2
    obtain rfl : v4 = nI 0 := e3
    obtain rfl : v5 = nI 0 := e4
    have f0 : f_X7_readRule_s36 mc msi inp (nI L) (nI c) (nI 0) (nI 0) (nI 0) (nI i) mr mra = (if nI b = (42 : Int32) then some (.inl (nI c, 1, 1, nI 0, nI (i + 1), upd mr c (nI (2 ^ tz T c - 1)), mra)) else (if dgt T c b = true then some (.inl (nI c, 1, nI 0, nI 0, nI (i + 1), upd mr c (mr c ||| ((1 : Int32) <<< ((nI b - (48 : Int32)) &&& 31))), mra)) else some (.inr (.inr (nI i, mr, mra))))) := by
      unfold f_X7_readRule_s36
      rw [if_neg (nI_ge hi (by omega)), rd_nI (by omega) (by decide), hin, hM.n, if_neg ncn, if_pos z0, if_pos z0, rd_nI (by omega) (by decide), hM.z (by omega), m2r _ (by omega), nI_clamp (by omega), rd_nI (by omega) (by decide), hM.z (by omega), dgt_m hT c hb, bd_go, nm_go, nI_1]
    by_cases b1 : b = 42
    · exact fin (q' := 2) (c' := c) (s' := updN s c (2 ^ tz T c - 1)) (a' := a) (by simp [pnx, b1]) (by rw [f0, if_pos (by rw [b1]; rfl)] <;> rfl) ⟨rfl, rfl, rfl, rfl, updN_rel e5, fun w => by omega⟩
    · cases hd : dgt T c b with
      | true =>
        have hv := bit_v hd
        exact fin (q' := 1) (c' := c) (s' := updN s c (s c ||| 1 <<< (b - 48))) (a' := a) (by simp [pnx, b1, hd]) (by rw [f0, if_neg (n42 b1), hd, if_pos rfl, e5 c (by omega), show (48 : Int32) = nI 48 from rfl, pk_sub hv.1, sh_1 _ (by omega), fa_or] <;> rfl) ⟨rfl, rfl, rfl, rfl, updN_rel e5, fun w => by omega⟩
      | false => exact bad (by simp [pnx, b1, hd]) (by rw [f0, if_neg (n42 b1), hd, if_neg (by decide)] <;> rfl)
  | 1, h, _, e1, e2, e3, e4, e6, fin, bad =>
    obtain rfl : v2 = nI c := e1
    obtain rfl : v3 = nI 1 := e2
    obtain rfl : v4 = nI 0 := e3
    obtain rfl : v5 = nI 0 := e4
    have f0 : f_X7_readRule_s36 mc msi inp (nI L) (nI c) (nI 1) (nI 0) (nI 0) (nI i) mr mra = (if sep T c b = true then some (.inl (nI (c + 1), 0, 0, nI 0, nI (i + 1), mr, mra)) else (if dgt T c b = true then some (.inl (nI c, 1, nI 0, nI 0, nI (i + 1), upd mr c (mr c ||| ((1 : Int32) <<< ((nI b - (48 : Int32)) &&& 31))), mra)) else some (.inr (.inr (nI i, mr, mra))))) := by
      unfold f_X7_readRule_s36 sep
      rw [if_neg (nI_ge hi (by omega)), rd_nI (by omega) (by decide), hin, hM.n, if_neg ncn, if_neg z1, show (1 : Int32) = nI 1 from rfl, pk_sub hT.n1]
      by_cases w : c + 1 < tn T
      · rw [if_neg (fun u => by have := (nI_eq (by omega) (by omega)).mp u; omega), if_pos w]
        by_cases b2 : b = 44
        · rw [if_pos (by rw [b2]; rfl), if_pos (decide_eq_true b2), nI_add, nI_add]
        · rw [if_neg (n44 b2), if_neg (fun u => b2 (of_decide_eq_true u)), if_pos z0, rd_nI (by omega) (by decide), hM.z (by omega), show nI 1 = (1 : Int32) from rfl, dgt_m hT c hb, bd_go, nm_go, nI_clamp (by omega), nI_1]
      · rw [if_pos (by rw [show tn T - 1 = c by omega]), if_neg w]
        by_cases b2 : b = 58
        · rw [if_pos (by rw [b2]; rfl), if_pos (decide_eq_true b2), nI_add, nI_add]
        · rw [if_neg (n58 b2), if_neg (fun u => b2 (of_decide_eq_true u)), if_pos z0, rd_nI (by omega) (by decide), hM.z (by omega), show nI 1 = (1 : Int32) from rfl, dgt_m hT c hb, bd_go, nm_go, nI_clamp (by omega), nI_1]
    cases hd : dgt T c b with
    | true =>
      have hv := bit_v hd
      exact fin (q' := 1) (c' := c) (s' := updN s c (s c ||| 1 <<< (b - 48))) (a' := a) (by simp [pnx, hd]) (by rw [f0, sep_dgt hT hd, if_neg (by decide), hd, if_pos rfl, e5 c (by omega), show (48 : Int32) = nI 48 from rfl, pk_sub hv.1, sh_1 _ (by omega), fa_or] <;> rfl) ⟨rfl, rfl, rfl, rfl, updN_rel e5, fun w => by omega⟩
    | false =>
      cases hs : sep T c b with
      | true =>
        by_cases w : c + 1 < tn T
        · exact fin (q' := 0) (c' := c + 1) (s' := s) (a' := a) (by simp [pnx, hd, hs, w]) (by rw [f0, hs, if_pos rfl] <;> rfl) ⟨rfl, rfl, rfl, rfl, e5, fun w => by omega⟩
        · exact fin (q' := 3) (c' := c) (s' := s) (a' := a) (by simp [pnx, hd, hs, w]) (by rw [f0, hs, if_pos rfl] <;> rfl) ⟨by show nI (c + 1) = nI (tn T); rw [show c + 1 = tn T by omega], rfl, rfl, rfl, e5, fun w => by omega⟩
      | false => exact bad (by simp [pnx, hd, hs]) (by rw [f0, hs, if_neg (by decide), hd, if_neg (by decide)] <;> rfl)
  | 2, h, _, e1, e2, e3, e4, e6, fin, bad =>
    obtain rfl : v2 = nI c := e1
    obtain rfl : v3 = nI 1 := e2
    obtain rfl : v4 = nI 1 := e3
    obtain rfl : v5 = nI 0 := e4
    have f0 : f_X7_readRule_s36 mc msi inp (nI L) (nI c) (nI 1) (nI 1) (nI 0) (nI i) mr mra = (if sep T c b = true then some (.inl (nI (c + 1), 0, 0, nI 0, nI (i + 1), mr, mra)) else some (.inr (.inr (nI i, mr, mra)))) := by
      unfold f_X7_readRule_s36 sep
      rw [if_neg (nI_ge hi (by omega)), rd_nI (by omega) (by decide), hin, hM.n, if_neg ncn, if_neg z1, show (1 : Int32) = nI 1 from rfl, pk_sub hT.n1]
      by_cases w : c + 1 < tn T
      · rw [if_neg (fun u => by have := (nI_eq (by omega) (by omega)).mp u; omega), if_pos w]
        by_cases b2 : b = 44
        · rw [if_pos (by rw [b2]; rfl), if_pos (decide_eq_true b2), nI_add, nI_add]
        · rw [if_neg (n44 b2), if_neg (fun u => b2 (of_decide_eq_true u)), if_neg z1]
      · rw [if_pos (by rw [show tn T - 1 = c by omega]), if_neg w]
        by_cases b2 : b = 58
        · rw [if_pos (by rw [b2]; rfl), if_pos (decide_eq_true b2), nI_add, nI_add]
        · rw [if_neg (n58 b2), if_neg (fun u => b2 (of_decide_eq_true u)), if_neg z1]
    cases hs : sep T c b with
    | true =>
      by_cases w : c + 1 < tn T
      · exact fin (q' := 0) (c' := c + 1) (s' := s) (a' := a) (by simp [pnx, hs, w]) (by rw [f0, hs, if_pos rfl] <;> rfl) ⟨rfl, rfl, rfl, rfl, e5, fun w => by omega⟩
      · exact fin (q' := 3) (c' := c) (s' := s) (a' := a) (by simp [pnx, hs, w]) (by rw [f0, hs, if_pos rfl] <;> rfl) ⟨by show nI (c + 1) = nI (tn T); rw [show c + 1 = tn T by omega], rfl, rfl, rfl, e5, fun w => by omega⟩
    | false => exact bad (by simp [pnx, hs]) (by rw [f0, hs, if_neg (by decide)] <;> rfl)
  | 3, h, _, e1, e2, e3, e4, e6, fin, bad =>
    obtain rfl : v2 = nI (tn T) := e1
    obtain rfl : v3 = nI 0 := e2
    obtain rfl : v4 = nI 0 := e3
    obtain rfl : v5 = nI 0 := e4
    have f0 : f_X7_readRule_s36 mc msi inp (nI L) (nI (tn T)) (nI 0) (nI 0) (nI 0) (nI i) mr mra = (if inb (nI b) 48 57 = true then some (.inl (nI (tn T), nI 0, nI 0, 1, nI (i + 1), mr, nI b - (48 : Int32))) else some (.inr (.inr (nI i, mr, mra)))) := by
      unfold f_X7_readRule_s36
      rw [if_neg (nI_ge hi (by omega)), rd_nI (by omega) (by decide), hin, hM.n, if_pos rfl, if_pos z0, m_in, bd_go, nI_1]
    by_cases b1 : 48 ≤ b ∧ b ≤ 57
    · have hi2 : inb (nI b) 48 57 = true := decide_eq_true ⟨nI_nlt (b := 48) b1.1 (by omega), nI_nlt (a := 57) b1.2 (by decide)⟩
      refine fin (q' := 4) (c' := c) (s' := s) (a' := b - 48) (by simp [pnx, b1.1, b1.2]) (by rw [f0, if_pos hi2] <;> rfl) ⟨rfl, rfl, rfl, rfl, e5, fun _ => ?_⟩
      rw [show (48 : Int32) = nI 48 from rfl, pk_sub b1.1]
    · have hi2 : ¬ inb (nI b) 48 57 = true := fun w => by
        obtain ⟨w1, w2⟩ := inb_t w
        rw [show (48 : Int32) = nI 48 from rfl, nI_ltI (by omega) (by decide)] at w1
        rw [show (57 : Int32) = nI 57 from rfl, nI_ltI (by decide) (by omega)] at w2
        omega
      refine bad (by simp [pnx]; omega) (by rw [f0, if_neg hi2] <;> rfl)
  | 4, h, _, e1, e2, e3, e4, e6, fin, bad =>
    obtain rfl : v2 = nI (tn T) := e1
    obtain rfl : v3 = nI 0 := e2
    obtain rfl : v4 = nI 0 := e3
    obtain rfl : v5 = nI 1 := e4
    refine bad (by simp [pnx]) ?_
    unfold f_X7_readRule_s36
    rw [if_neg (nI_ge hi (by omega)), rd_nI (by omega) (by decide), hin, hM.n, if_pos rfl, if_neg z1]
  | q + 5, h, hq4, e1, e2, e3, e4, e6, fin, bad => omega
/-- the whole text, read on both sides -/
theorem p_loop (hT : TOk T) (hX : XT T tc tca tru tdf tsi tst tco twe tse tac trw) (hM : MT T mc mru mst msi mwe mco mse mac) {L : Nat} {B : Nat → Nat} {ib inp : Nat → Int32} (hL : L ≤ 40) (hB : ∀ i, i < L → B i < 128) (h1 : ∀ i, i < L → ib i = nI (B i)) (h2 : ∀ i, i < L → inp i = nI (B i)) : ∀ (m i n n' : Nat), i + m = L → m < n → m < n' → ∀ (q c : Nat) (s : Nat → Nat) (a : Nat) (ra rst rc : Int32) (rs : Nat → Int32) (v2 v3 v4 v5 mra : Int32) (mr : Nat → Int32), PS T q c s a → xrel q c s a ra rs rst rc → mrel T q c s a v2 v3 v4 v5 mr mra → (∃ p ra' rs' rst' rc' mr' mra', p ≤ 40 ∧ wl (fun q => f_X2_read_s25 (nI L) ib tc tsi q.1 q.2.1 q.2.2.1 q.2.2.2.1 q.2.2.2.2) n (nI i, ra, rs, rst, rc) = some (nI p, ra', rs', rst', rc') ∧ wl (fun q => f_X7_readRule_s36 mc msi inp (nI L) q.1 q.2.1 q.2.2.1 q.2.2.2.1 q.2.2.2.2.1 q.2.2.2.2.2.1 q.2.2.2.2.2.2) n' (v2, v3, v4, v5, nI i, mr, mra) = some (.inr (nI p, mr', mra'))) ∨ (∃ s' a' rs' rst' rc' mr', SOk T s' ∧ a' ≤ 9 ∧ wl (fun q => f_X2_read_s25 (nI L) ib tc tsi q.1 q.2.1 q.2.2.1 q.2.2.2.1 q.2.2.2.2) n (nI i, ra, rs, rst, rc) = some ((-1 : Int32), nI a', rs', rst', rc') ∧ (∀ c, c < 4 → rs' c = nI (s' c)) ∧ wl (fun q => f_X7_readRule_s36 mc msi inp (nI L) q.1 q.2.1 q.2.2.1 q.2.2.2.1 q.2.2.2.2.1 q.2.2.2.2.2.1 q.2.2.2.2.2.2) n' (v2, v3, v4, v5, nI i, mr, mra) = some (.inr ((-6 : Int32), mr', nI a')) ∧ (∀ c, c < 4 → mr' c = nI (s' c))) := by
  intro m
  induction m with
  | zero =>
    intro i n n' hi hn hn' q c s a ra rst rc rs v2 v3 v4 v5 mra mr hP hx hm
    obtain rfl : i = L := by omega
    obtain ⟨n, rfl⟩ : ∃ k, n = k + 1 := ⟨n - 1, by omega⟩
    obtain ⟨n', rfl⟩ : ∃ k, n' = k + 1 := ⟨n' - 1, by omega⟩
    by_cases q4 : q = 4
    · right
      subst q4
      obtain ⟨p1, p2, p3, p4, p5, p6, p7, p8, p9⟩ := hP
      obtain ⟨e1, e2, e3, e4⟩ := hx
      obtain ⟨g1, g2, g3, g4, g5, g6⟩ := hm
      have hcn := p7 (by omega)
      refine ⟨s, a, rs, rst, rc, mr, ⟨fun k hk => ?_, p1⟩, p9 rfl, wl_r ?_, e3, wl_r ?_, g5⟩
      · by_cases w : k = c
        · subst w; exact p5 (by omega)
        · exact p3 k (by omega)
      · show f_X2_read_s25 (nI i) ib tc tsi (nI i) ra rs rst rc = _
        unfold f_X2_read_s25
        rw [if_pos (Int32.le_refl _), e1, if_pos (show nI 4 = (4 : Int32) from rfl), e4 rfl]
      · show f_X7_readRule_s36 mc msi inp (nI i) v2 v3 v4 v5 (nI i) mr mra = _
        unfold f_X7_readRule_s36
        rw [if_pos (Int32.le_refl _), g4, if_neg (by decide), g6 rfl]
    · left
      obtain ⟨e1, e2, e3, e4⟩ := hx
      obtain ⟨g1, g2, g3, g4, g5, g6⟩ := hm
      have hq := hP.2.2.2.2.2.2.2.1
      refine ⟨i, ra, rs, rst, rc, mr, mra, hL, wl_r ?_, wl_r ?_⟩
      · show f_X2_read_s25 (nI i) ib tc tsi (nI i) ra rs rst rc = _
        unfold f_X2_read_s25
        rw [if_pos (Int32.le_refl _), if_neg (by rw [e1]; exact fun w => q4 ((nI_eq (b := 4) (by omega) (by decide)).mp w))]
      · show f_X7_readRule_s36 mc msi inp (nI i) v2 v3 v4 v5 (nI i) mr mra = _
        unfold f_X7_readRule_s36
        rw [if_pos (Int32.le_refl _), g4, if_neg q4, if_pos (show nI 0 = (0 : Int32) from rfl)]
  | succ m ih =>
    intro i n n' hi hn hn' q c s a ra rst rc rs v2 v3 v4 v5 mra mr hP hx hm
    obtain ⟨n, rfl⟩ : ∃ k, n = k + 1 := ⟨n - 1, by omega⟩
    obtain ⟨n', rfl⟩ : ∃ k, n' = k + 1 := ⟨n' - 1, by omega⟩
    have hiL : i < L := by omega
    obtain ⟨xa, xb⟩ := x_acc hT hX hP (hB i hiL) hx
    obtain ⟨ma, mb⟩ := m_acc hT hM hP (hB i hiL) hiL hL (h2 i hiL) hm
    cases hp : pnx T q c s a (B i) with
    | none =>
      left
      obtain ⟨ra', rs', rst', rc', e1⟩ := xb hp
      have e2 := mb hp
      refine ⟨i, ra', rs', rst', rc', mr, mra, by omega, wl_r ?_, wl_r e2⟩
      show f_X2_read_s25 (nI L) ib tc tsi (nI i) ra rs rst rc = _
      unfold f_X2_read_s25
      rw [if_neg (nI_ge hiL (by omega)), rd_nI (by omega) (by decide), h1 i hiL, e1, bd5_go, if_neg (by decide)]
    | some o =>
      obtain ⟨q', c', s', a'⟩ := o
      obtain ⟨ra', rs', rst', rc', e1, e2⟩ := xa q' c' s' a' hp
      obtain ⟨w2, w3, w4, w5, mr', mra', g1, g2⟩ := ma q' c' s' a' hp
      have s1 : f_X2_read_s25 (nI L) ib tc tsi (nI i) ra rs rst rc = some (.inl (nI (i + 1), ra', rs', rst', rc')) := by
        unfold f_X2_read_s25
        rw [if_neg (nI_ge hiL (by omega)), rd_nI (by omega) (by decide), h1 i hiL, e1, bd5_go, if_pos rfl, nI_1]
      rw [wl_c (w := (nI (i + 1), ra', rs', rst', rc')) s1, wl_c (w := (w2, w3, w4, w5, nI (i + 1), mr', mra')) g1]
      exact ih (i + 1) n n' (by omega) (by omega) (by omega) q' c' s' a' ra' rst' rc' rs' w2 w3 w4 w5 mra' mr' (pnx_ps hT hP hp) e2 g2
theorem p_read (hT : TOk T) (hX : XT T tc tca tru tdf tsi tst tco twe tse tac trw) (hM : MT T mc mru mst msi mwe mco mse mac) {L : Nat} {B : Nat → Nat} {ib inp : Nat → Int32} (hL : L ≤ 40) (hB : ∀ i, i < L → B i < 128) (h1 : ∀ i, i < L → ib i = nI (B i)) (h2 : ∀ i, i < L → inp i = nI (B i)) (ra rst rc mra : Int32) (rs mr : Nat → Int32) : (∃ p ra' rs' rst' rc' mr' mra', p ≤ 40 ∧ f_X2_read ra rs rst rc (nI L) ib tc tsi = some (nI p, ra', rs', rst', rc') ∧ f_X7_readRule mc msi inp mr mra (nI L) = some (nI p, mr', mra')) ∨ (∃ s' a' rs' rst' rc' mr', SOk T s' ∧ a' ≤ 9 ∧ f_X2_read ra rs rst rc (nI L) ib tc tsi = some ((-1 : Int32), nI a', rs', rst', rc') ∧ (∀ c, c < 4 → rs' c = nI (s' c)) ∧ f_X7_readRule mc msi inp mr mra (nI L) = some ((-6 : Int32), mr', nI a') ∧ (∀ c, c < 4 → mr' c = nI (s' c))) := by
  have h1n := hT.n1
  have hP0 : PS T 0 0 (fun _ => 0) 0 := ⟨fun _ => (by show 0 < 32; decide), by omega, fun i hi => by omega, fun _ => rfl, fun w => by omega, fun _ _ => rfl, fun w => by omega, by omega, fun w => by omega⟩
  have hr0 : ∀ i, i < 4 → fil 4 (0 : Int32) mr i = nI 0 := fun i hi => by unfold fil; rw [if_pos hi]; rfl
  have key := p_loop hT hX hM hL hB h1 h2 L 0 5000 5000 (by omega) (by omega) (by omega) 0 0 (fun _ => 0) 0 0 0 0 (fil 4 0 rs) 0 0 0 0 mra (fil 4 0 mr) hP0 ⟨rfl, rfl, fun i hi => by unfold fil; rw [if_pos hi]; rfl, fun w => by omega⟩ ⟨rfl, rfl, rfl, rfl, hr0, fun w => by omega⟩
  have ex : f_X2_read ra rs rst rc (nI L) ib tc tsi = wl (fun q => f_X2_read_s25 (nI L) ib tc tsi q.1 q.2.1 q.2.2.1 q.2.2.2.1 q.2.2.2.2) 5000 (nI 0, (0 : Int32), fil 4 (0 : Int32) rs, (0 : Int32), (0 : Int32)) := rfl
  have em : ∀ R, wl (fun q => f_X7_readRule_s36 mc msi inp (nI L) q.1 q.2.1 q.2.2.1 q.2.2.2.1 q.2.2.2.2.1 q.2.2.2.2.2.1 q.2.2.2.2.2.2) 5000 ((0 : Int32), (0 : Int32), (0 : Int32), (0 : Int32), nI 0, fil 4 0 mr, mra) = some (.inr R) → f_X7_readRule mc msi inp mr mra (nI L) = some R := by
    intro R hR
    unfold f_X7_readRule
    have e0 : mr = fil 0 0 mr := by
      funext j
      unfold fil
      rw [if_neg (Nat.not_lt_zero j)]
    rw [show ((0 : Int32), mr) = (fun c => (nI c, fil c (0 : Int32) mr)) 0 by show _ = (nI 0, fil 0 0 mr); rw [← e0]; rfl]
    refine wl_for (fun c => (nI c, fil c (0 : Int32) mr)) 4 (fun c hc => ?_) ?_ (by omega)
    · show f_X7_readRule_s13 mc msi inp mra (nI L) (nI c) (fil c 0 mr) = _
      unfold f_X7_readRule_s13
      rw [show (4 : Int32) = nI 4 from rfl, if_neg (nI_ge hc (by omega)), ix_nI hc (by decide), nI_clamp (by omega), fil_i, nI_1]
    · show f_X7_readRule_s13 mc msi inp mra (nI L) (nI 4) (fil 4 0 mr) = _
      unfold f_X7_readRule_s13
      rw [show (4 : Int32) = nI 4 from rfl, if_pos (Int32.le_refl _)]
      exact hR
  rw [ex]
  rcases key with ⟨p, ra', rs', rst', rc', mr', mra', k1, k2, k3⟩ | ⟨s', a', rs', rst', rc', mr', k1, k2, k3, k4, k5, k6⟩
  · exact Or.inl ⟨p, ra', rs', rst', rc', mr', mra', k1, k2, em _ k3⟩
  · exact Or.inr ⟨s', a', rs', rst', rc', mr', k1, k2, k3, k4, em _ k5, k6⟩
end P
