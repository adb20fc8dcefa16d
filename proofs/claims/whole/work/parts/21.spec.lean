/-! the pure side: the table as numbers -/
theorem nm_go {α β : Type} {x : α} {k : α → β} : nm x k = k x := rfl
theorem wl_for {σ α : Type} {f : σ → Option (σ ⊕ α)} (s : Nat → σ) (k : Nat) {R : α} (hs : ∀ i, i < k → f (s i) = some (.inl (s (i + 1)))) (he : f (s k) = some (.inr R)) {n : Nat} (hn : k < n) : wl f n (s 0) = some R := by
  have key : ∀ (j i n : Nat), i + j = k → j < n → wl f n (s i) = some R := by
    intro j
    induction j with
    | zero =>
      intro i n hi hn
      obtain rfl : i = k := by omega
      obtain ⟨n, rfl⟩ : ∃ m, n = m + 1 := ⟨n - 1, by omega⟩
      exact wl_r he
    | succ j ih =>
      intro i n hi hn
      obtain ⟨n, rfl⟩ : ∃ m, n = m + 1 := ⟨n - 1, by omega⟩
      rw [wl_c (hs i (by omega))]
      exact ih (i + 1) n (by omega) (by omega)
  exact key k 0 n (by omega) hn
abbrev Tb : Type := Nat × (Nat → Nat) × (Nat → Nat) × (Nat → Nat) × Nat × (Nat → Nat) × (Nat → Nat) × Nat
def tn (T : Tb) : Nat := T.1
def tz (T : Tb) : Nat → Nat := T.2.1
def tw (T : Tb) : Nat → Nat := T.2.2.1
def tk (T : Tb) : Nat → Nat := T.2.2.2.1
def tr (T : Tb) : Nat := T.2.2.2.2.1
def ts (T : Tb) : Nat → Nat := T.2.2.2.2.2.1
def ta (T : Tb) : Nat → Nat := T.2.2.2.2.2.2.1
def td (T : Tb) : Nat := T.2.2.2.2.2.2.2
/-- none is -1 -/
def dI (d : Nat) : Int32 := match d with
  | 0 => -1
  | a + 1 => nI a
def pr (z : Nat → Nat) : Nat → Nat → Nat
  | _, 0 => 1
  | c, m + 1 => z c * pr z (c + 1) m
theorem pr_le {z : Nat → Nat} (h : ∀ c, z c ≤ 5) : ∀ m c, pr z c m ≤ 5 ^ m
  | 0, _ => Nat.le_refl _
  | m + 1, c => by
    have h1 := pr_le h m (c + 1)
    have h2 := Nat.mul_le_mul (h c) h1
    rw [pr, Nat.pow_succ, Nat.mul_comm (5 ^ m)]
    exact h2
theorem pr_pos {z : Nat → Nat} : ∀ m c, (∀ j, c ≤ j → j < c + m → 0 < z j) → 0 < pr z c m
  | 0, _, _ => Nat.one_pos
  | m + 1, c, h => by
    rw [pr]
    exact Nat.mul_pos (h c (Nat.le_refl _) (by omega)) (pr_pos m (c + 1) (fun j h1 h2 => h j (by omega) (by omega)))
theorem pr_last {z : Nat → Nat} : ∀ m c, pr z c (m + 1) = pr z c m * z (c + m)
  | 0, c => by simp [pr]
  | m + 1, c => by
    rw [pr, pr_last m (c + 1), pr, Nat.mul_assoc, show c + 1 + m = c + (m + 1) by omega]
def str (T : Tb) (c : Nat) : Nat := pr (tz T) (c + 1) (tn T - 1 - c)
def cas (T : Tb) : Nat := pr (tz T) 0 (tn T)
def dig (T : Tb) (k c : Nat) : Nat := k / str T c % tz T c
def wsm (T : Tb) (c : Nat) : Nat := fb_sm (fun v => tw T (c * 5 + v)) (tz T c)
/-- the rules, as bits, whose set for c holds v -/
def rwb (T : Tb) (c v : Nat) : Nat → Nat
  | 0 => 0
  | m + 1 => rwb T c v m ||| ((ts T (m * 4 + c) >>> v &&& 1) <<< m)
def TOk (T : Tb) : Prop := (1 ≤ tn T ∧ tn T ≤ 4) ∧ (∀ c, c < tn T → 2 ≤ tz T c ∧ tz T c ≤ 5) ∧ (∀ c, tn T ≤ c → tz T c = 0) ∧ (∀ i, tw T i ≤ 9) ∧ (∀ c, c < tn T → 0 < wsm T c) ∧ (∀ c, 1 ≤ tk T c ∧ tk T c ≤ 9) ∧ tr T ≤ 12 ∧ (∀ r c, r < tr T → c < tn T → 0 < ts T (r * 4 + c) ∧ ts T (r * 4 + c) < 2 ^ tz T c) ∧ (∀ i, ts T i < 32) ∧ (∀ r, ta T r ≤ 9) ∧ td T ≤ 10
def XT (T : Tb) (tc tca tru tdf : Int32) (tsi tst tco twe tse tac trw : Nat → Int32) : Prop :=
  tc = nI (tn T) ∧ tca = nI (cas T) ∧ tru = nI (tr T) ∧ tdf = dI (td T) ∧ (∀ c, c < 4 → tsi c = nI (tz T c)) ∧ (∀ c, c < tn T → tst c = nI (str T c)) ∧ (∀ c, c < 4 → tco c = nI (tk T c)) ∧ (∀ i, i < 20 → twe i = nI (tw T i)) ∧ (∀ i, i < tr T * 4 → tse i = nI (ts T i)) ∧ (∀ r, r < tr T → tac r = nI (ta T r)) ∧ (∀ c v, c < tn T → v < tz T c → trw (c * 5 + v) = nI (rwb T c v (tr T)))
def MT (T : Tb) (mc mru mst : Int32) (msi mwe mco mse mac : Nat → Int32) : Prop :=
  mc = nI (tn T) ∧ mru = nI (tr T) ∧ mst = dI (td T) ∧ (∀ c, c < 4 → msi c = nI (tz T c)) ∧ (∀ i, i < 20 → mwe i = nI (tw T i)) ∧ (∀ c, c < 4 → mco c = nI (tk T c)) ∧ (∀ i, i < tr T * 4 → mse i = nI (ts T i)) ∧ (∀ r, r < tr T → mac r = nI (ta T r))
theorem TOk.n1 {T : Tb} (h : TOk T) : 1 ≤ tn T := h.1.1
theorem TOk.n4 {T : Tb} (h : TOk T) : tn T ≤ 4 := h.1.2
theorem TOk.z2 {T : Tb} (h : TOk T) {c : Nat} (hc : c < tn T) : 2 ≤ tz T c := (h.2.1 c hc).1
theorem TOk.z5 {T : Tb} (h : TOk T) (c : Nat) : tz T c ≤ 5 := by
  rcases Nat.lt_or_ge c (tn T) with q | q
  · exact (h.2.1 c q).2
  · rw [h.2.2.1 c q]; exact Nat.zero_le _
theorem TOk.w9 {T : Tb} (h : TOk T) (i : Nat) : tw T i ≤ 9 := h.2.2.2.1 i
theorem TOk.ws0 {T : Tb} (h : TOk T) {c : Nat} (hc : c < tn T) : 0 < wsm T c := h.2.2.2.2.1 c hc
theorem TOk.k {T : Tb} (h : TOk T) (c : Nat) : 1 ≤ tk T c ∧ tk T c ≤ 9 := h.2.2.2.2.2.1 c
theorem TOk.r12 {T : Tb} (h : TOk T) : tr T ≤ 12 := h.2.2.2.2.2.2.1
theorem TOk.s {T : Tb} (h : TOk T) {r c : Nat} (hr : r < tr T) (hc : c < tn T) : 0 < ts T (r * 4 + c) ∧ ts T (r * 4 + c) < 2 ^ tz T c := h.2.2.2.2.2.2.2.1 r c hr hc
theorem TOk.s32 {T : Tb} (h : TOk T) (i : Nat) : ts T i < 32 := h.2.2.2.2.2.2.2.2.1 i
theorem TOk.a9 {T : Tb} (h : TOk T) (r : Nat) : ta T r ≤ 9 := h.2.2.2.2.2.2.2.2.2.1 r
theorem TOk.d10 {T : Tb} (h : TOk T) : td T ≤ 10 := h.2.2.2.2.2.2.2.2.2.2
theorem str_le {T : Tb} (h : TOk T) (c : Nat) : str T c ≤ 125 := by
  have h1 := pr_le (z := tz T) (fun c => h.z5 c) (tn T - 1 - c) (c + 1)
  have h2 : 5 ^ (tn T - 1 - c) ≤ 5 ^ 3 := Nat.pow_le_pow_right (by decide) (by have := h.n4; omega)
  exact Nat.le_trans h1 h2
theorem cas_le {T : Tb} (h : TOk T) : cas T ≤ 625 := by
  have h1 := pr_le (z := tz T) (fun c => h.z5 c) (tn T) 0
  have h2 : 5 ^ tn T ≤ 5 ^ 4 := Nat.pow_le_pow_right (by decide) h.n4
  exact Nat.le_trans h1 h2
theorem str_pos {T : Tb} (h : TOk T) {c : Nat} (_hc : c < tn T) : 0 < str T c := pr_pos _ _ (fun j h1 h2 => Nat.lt_of_lt_of_le (by decide) (h.z2 (by omega)))
theorem cas_pos {T : Tb} (h : TOk T) : 0 < cas T := pr_pos _ _ (fun j h1 h2 => Nat.lt_of_lt_of_le (by decide) (h.z2 (by omega)))
theorem dig_lt {T : Tb} (h : TOk T) {c : Nat} (hc : c < tn T) (k : Nat) : dig T k c < tz T c := Nat.mod_lt _ (Nat.lt_of_lt_of_le (by decide) (h.z2 hc))
theorem two31 : (2 : Nat) ^ 31 = 2147483648 := rfl
/-! quotients and digits -/
theorem x_quot {a b : Nat} (ha : a < 2 ^ 31) (hb0 : 0 < b) (hb : b < 2 ^ 31) : f_X6_quotient (nI a) (nI b) = some (nI (a / b)) := by
  unfold f_X6_quotient
  rw [if_neg (nI_ne0 hb0 hb), nz_go (nI_ne0 hb0 hb), pk_div ha hb0 hb]
theorem x_rem {a b : Nat} (ha : a < 2 ^ 31) (hb0 : 0 < b) (hb : b < 2 ^ 31) : f_X6_remainder (nI a) (nI b) = some (nI (a % b)) := by
  unfold f_X6_remainder
  rw [if_neg (nI_ne0 hb0 hb), nz_go (nI_ne0 hb0 hb), pk_rem ha hb0 hb]
section X
variable {T : Tb} {tc tca tru tdf : Int32} {tsi tst tco twe tse tac trw : Nat → Int32}
theorem XT.n (h : XT T tc tca tru tdf tsi tst tco twe tse tac trw) : tc = nI (tn T) := h.1
theorem XT.ca (h : XT T tc tca tru tdf tsi tst tco twe tse tac trw) : tca = nI (cas T) := h.2.1
theorem XT.r (h : XT T tc tca tru tdf tsi tst tco twe tse tac trw) : tru = nI (tr T) := h.2.2.1
theorem XT.d (h : XT T tc tca tru tdf tsi tst tco twe tse tac trw) : tdf = dI (td T) := h.2.2.2.1
theorem XT.z (h : XT T tc tca tru tdf tsi tst tco twe tse tac trw) {c : Nat} (hc : c < 4) : tsi c = nI (tz T c) := h.2.2.2.2.1 c hc
theorem XT.st (h : XT T tc tca tru tdf tsi tst tco twe tse tac trw) {c : Nat} (hc : c < tn T) : tst c = nI (str T c) := h.2.2.2.2.2.1 c hc
theorem XT.k (h : XT T tc tca tru tdf tsi tst tco twe tse tac trw) {c : Nat} (hc : c < 4) : tco c = nI (tk T c) := h.2.2.2.2.2.2.1 c hc
theorem XT.w (h : XT T tc tca tru tdf tsi tst tco twe tse tac trw) {i : Nat} (hi : i < 20) : twe i = nI (tw T i) := h.2.2.2.2.2.2.2.1 i hi
theorem XT.s (h : XT T tc tca tru tdf tsi tst tco twe tse tac trw) {i : Nat} (hi : i < tr T * 4) : tse i = nI (ts T i) := h.2.2.2.2.2.2.2.2.1 i hi
theorem XT.a (h : XT T tc tca tru tdf tsi tst tco twe tse tac trw) {r : Nat} (hr : r < tr T) : tac r = nI (ta T r) := h.2.2.2.2.2.2.2.2.2.1 r hr
theorem XT.rw (h : XT T tc tca tru tdf tsi tst tco twe tse tac trw) {c v : Nat} (hc : c < tn T) (hv : v < tz T c) : trw (c * 5 + v) = nI (rwb T c v (tr T)) := h.2.2.2.2.2.2.2.2.2.2 c v hc hv
theorem x_dig (hT : TOk T) (h : XT T tc tca tru tdf tsi tst tco twe tse tac trw) {k c : Nat} (hk : k < 2 ^ 31) (hc : c < tn T) : f_X4_digitOf tsi tst (nI k) (nI c) = some (nI (dig T k c)) := by
  have h4 := hT.n4
  have hs := str_le hT c
  have hz := hT.z5 c
  have hz2 := hT.z2 hc
  unfold f_X4_digitOf
  rw [rd_nI (by omega) (by decide), h.st hc, x_quot hk (str_pos hT hc) (by omega), bd_go, nm_go, nI_clamp (by omega), h.z (by omega), x_rem (by have := Nat.div_le_self k (str T c); omega) (by omega) (by omega), bd_go]
  rfl
theorem x_hasCond (hT : TOk T) (h : XT T tc tca tru tdf tsi tst tco twe tse tac trw) (x : Int32) : (∃ c, c < tn T ∧ x = nI c ∧ f_X4_hasCondition tc x = some true) ∨ (f_X4_hasCondition tc x = some false ∧ (x < 0 ∨ nI (tn T) ≤ x)) := by
  have h4 := hT.n4
  unfold f_X4_hasCondition
  rw [h.n]
  rcases pk_ix x (n := tn T) (by omega) with q | q | ⟨c, hc, rfl⟩
  · right
    exact ⟨by rw [if_pos q], Or.inl q⟩
  · right
    refine ⟨?_, Or.inr q⟩
    by_cases q2 : x < 0
    · rw [if_pos q2]
    · rw [if_neg q2, if_pos q]
  · left
    exact ⟨c, hc, rfl, by rw [if_neg (nI_pos (by omega)), if_neg (nI_ge hc (by omega))]⟩
end X
