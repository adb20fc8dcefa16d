/-! removeRule, removeShadowed, mergeRules -/
section B
variable {T : Tb} {tc tca tru tdf : Int32} {tsi tst tco twe tse tac trw : Nat → Int32} {mc mru mst : Int32} {msi mwe mco mse mac : Nat → Int32}
theorem sim_removeRule (hT : TOk T) (hX : XT T tc tca tru tdf tsi tst tco twe tse tac trw) (hM : MT T mc mru mst msi mwe mco mse mac) (cb : Bool) (x1 : Int32) : ∃ r cb' tru' tse' tac' trw' mse' mac' T', f_X6_removeRule cb tc tru tsi tse tac trw x1 = some (r, cb', tru', tse', tac', trw') ∧ f_X7_removeRule mru mse mac cb x1 = some (r, tru', mse', mac', cb') ∧ TOk T' ∧ XT T' tc tca tru' tdf tsi tst tco twe tse' tac' trw' ∧ MT T' mc tru' mst msi mwe mco mse' mac' ∧ (cb' = true → cb = true ∧ T' = T) := by
  have h12 := hT.r12
  unfold f_X6_removeRule f_X7_removeRule
  rw [hX.r, x_hasR, bd_go, m_isRule hT hM, bd_go, ← hX.r]
  cases h1 : hasb (tr T) x1 with
  | false => exact ⟨_, _, tru, _, _, _, _, _, T, rfl, by rw [hX.r, hM.r]; rfl, hT, hX, by rw [hX.r, ← hM.r]; exact hM, fun w => ⟨w, rfl⟩⟩
  | true =>
    obtain ⟨r, hr, rfl⟩ := hb_t (by omega) h1
    obtain ⟨a1, a2, a3, e1, e2⟩ := x_drop hT hX hr
    obtain ⟨b1, b2, f1, f2⟩ := m_del hT hM hr cb
    rw [if_pos rfl, if_pos rfl, e1, bd4_go, f1, bd4_go]
    exact ⟨_, _, _, _, _, _, _, _, _, rfl, rfl, dropT_ok hT hr, e2, f2, fun w => absurd w (by decide)⟩
theorem ff_iff {p : Nat → Bool} {n r : Nat} (hr : r < n) : fa_first p n = r ↔ (p r = true ∧ ∀ i, i < r → p i = false) := by
  constructor
  · intro e
    exact ⟨by have := fa_first_yes p n (by omega); rw [e] at this; exact this, fun i hi => fa_first_no p n i (by omega)⟩
  · intro h
    have hle := fa_first_le p n
    rcases Nat.lt_trichotomy (fa_first p n) r with q | q | q
    · have h1 := fa_first_yes p n (by omega)
      rw [h.2 _ q] at h1
      exact absurd h1 (by decide)
    · exact q
    · have h1 := fa_first_no p n r q
      rw [h.1] at h1
      exact absurd h1 (by decide)
theorem dig_same {T T' : Tb} (h1 : tn T' = tn T) (h2 : tz T' = tz T) (k c : Nat) : dig T' k c = dig T k c := by
  unfold dig str
  rw [h1, h2]
theorem cas_same {T T' : Tb} (h1 : tn T' = tn T) (h2 : tz T' = tz T) : cas T' = cas T := by
  unfold cas
  rw [h1, h2]
theorem mtF_same {T T' : Tb} (h1 : tn T' = tn T) (h2 : tz T' = tz T) {r r' : Nat} (k : Nat) : ∀ c, (∀ d, d < c → ts T' (r' * 4 + d) = ts T (r * 4 + d)) → mtF T' r' k c = mtF T r k c
  | 0, _ => rfl
  | c + 1, h => by rw [mtF, mtF, mtF_same h1 h2 k c (fun d hd => h d (by omega)), h c (by omega), dig_same h1 h2]
theorem mt_drop (hT : TOk T) {s r k : Nat} (h : r < s) : mt (dropT T s) k r = mt T k r := by
  have h4 := hT.n4
  refine mtF_same (T := T) (T' := dropT T s) rfl rfl k (tn T) (fun d hd => ?_)
  show (if s * 4 ≤ r * 4 + d then ts T (r * 4 + d + 4) else ts T (r * 4 + d)) = _
  rw [if_neg (by omega)]
theorem cov_drop (hT : TOk T) {s r : Nat} (hs : s < tr T) (h : r < s) : cov (dropT T s) r = cov T r := by
  have e : ∀ k, decide (fst (dropT T s) k = r) = decide (fst T k = r) := by
    intro k
    have h1 : fst (dropT T s) k = r ↔ fst T k = r := by
      unfold fst
      rw [ff_iff (show r < tr (dropT T s) by show r < tr T - 1; omega), ff_iff (show r < tr T by omega), mt_drop hT h]
      constructor
      · intro w
        exact ⟨w.1, fun i hi => by rw [← mt_drop hT (show i < s by omega)]; exact w.2 i hi⟩
      · intro w
        exact ⟨w.1, fun i hi => by rw [mt_drop hT (show i < s by omega)]; exact w.2 i hi⟩
    simp only [h1]
  have e2 : (fun k => decide (fst (dropT T s) k = r)) = (fun k => decide (fst T k = r)) := funext e
  unfold cov
  rw [e2, cas_same (T := T) (T' := dropT T s) rfl rfl]
/-- the table behind m looks, from the last rule down -/
def rmS (T : Tb) : Nat → Tb
  | 0 => T
  | m + 1 => if cov T (tr T - 1 - m) then dropT (rmS T m) (tr T - 1 - m) else rmS T m
def rmB (T : Tb) (b : Bool) : Nat → Bool
  | 0 => b
  | m + 1 => if cov T (tr T - 1 - m) then false else rmB T b m
theorem rmS_ok (hT : TOk T) : ∀ m, m ≤ tr T → TOk (rmS T m) ∧ tr T - m ≤ tr (rmS T m) ∧ tr (rmS T m) ≤ tr T ∧ (∀ r, r < tr T - m → cov (rmS T m) r = cov T r)
  | 0, _ => ⟨hT, by show tr T - 0 ≤ tr T; omega, Nat.le_refl _, fun _ _ => rfl⟩
  | m + 1, h => by
    obtain ⟨a, b, c, d⟩ := rmS_ok hT m (by omega)
    rw [rmS]
    by_cases q : cov T (tr T - 1 - m) = true
    · rw [if_pos q]
      refine ⟨dropT_ok a (by omega), ?_, ?_, fun r hr => ?_⟩
      · show tr T - (m + 1) ≤ tr (rmS T m) - 1
        omega
      · show tr (rmS T m) - 1 ≤ tr T
        omega
      · rw [cov_drop a (by omega) (by omega), d r (by omega)]
    · rw [if_neg q]
      exact ⟨a, by omega, c, fun r hr => d r (by omega)⟩
theorem rmB_t {b : Bool} (hT : TOk T) : ∀ m, m ≤ tr T → rmB T b m = true → b = true ∧ rmS T m = T
  | 0, _, h => ⟨h, rfl⟩
  | m + 1, hm, h => by
    rw [rmB] at h
    rw [rmS]
    by_cases q : cov T (tr T - 1 - m) = true
    · rw [if_pos q] at h
      exact absurd h (by decide)
    · rw [if_neg q] at h ⊢
      exact rmB_t hT m (by omega) h
theorem nI_d (k : Nat) : nI (k + 1) + (-1 : Int32) = nI k := pk_m1 k
/-- a loop that counts down, with what holds of its state -/
theorem wl_dn {σ α : Type} {f : σ → Option (σ ⊕ α)} (I : Nat → σ → Prop) (k : Nat) {P : α → Prop} (hs : ∀ i s, i < k → I i s → ∃ s', f s = some (.inl s') ∧ I (i + 1) s') (he : ∀ s, I k s → ∃ a, f s = some (.inr a) ∧ P a) {n : Nat} (hn : k < n) (s : σ) (h0 : I 0 s) : ∃ a, wl f n s = some a ∧ P a := by
  have key : ∀ (j i n : Nat) (s : σ), i + j = k → j < n → I i s → ∃ a, wl f n s = some a ∧ P a := by
    intro j
    induction j with
    | zero =>
      intro i n s hi hn h
      obtain rfl : i = k := by omega
      obtain ⟨n, rfl⟩ : ∃ m, n = m + 1 := ⟨n - 1, by omega⟩
      obtain ⟨a, h1, h2⟩ := he s h
      exact ⟨a, wl_r h1, h2⟩
    | succ j ih =>
      intro i n s hi hn h
      obtain ⟨n, rfl⟩ : ∃ m, n = m + 1 := ⟨n - 1, by omega⟩
      obtain ⟨s', h1, h2⟩ := hs i s (by omega) h
      rw [wl_c h1]
      exact ih (i + 1) n s' (by omega) (by omega) h2
  exact key k 0 n s (by omega) hn h0
theorem nI_dn {r m : Nat} (hm : m ≤ r) (hr : r ≤ 12) : ∀ x : Int32, x = (if m < r then nI (r - 1 - m) else -1) → (x < 0 ↔ m = r) := by
  intro x hx
  subst hx
  by_cases q : m < r
  · rw [if_pos q]
    exact ⟨fun w => absurd w (nI_pos (by omega)), fun w => by omega⟩
  · rw [if_neg q]
    exact ⟨fun _ => by omega, fun _ => by decide⟩
theorem nI_dn' {r m : Nat} (hm : m < r) (_hr : r ≤ 12) : nI (r - 1 - m) + (-1 : Int32) = (if m + 1 < r then nI (r - 1 - (m + 1)) else -1) := by
  by_cases q : m + 1 < r
  · rw [if_pos q, show r - 1 - m = r - 1 - (m + 1) + 1 by omega, nI_d]
  · rw [if_neg q, show r - 1 - m = 0 by omega]
    rfl
theorem x_remShadow (hT : TOk T) (hX : XT T tc tca tru tdf tsi tst tco twe tse tac trw) (cb : Bool) : ∃ a, f_X6_removeShadowed cb tc tca tru tsi tst tse tac trw = some a ∧ a.1 = nI (tr T - tr (rmS T (tr T))) ∧ a.2.1 = rmB T cb (tr T) ∧ XT (rmS T (tr T)) tc tca a.2.2.1 tdf tsi tst tco twe a.2.2.2.1 a.2.2.2.2.1 a.2.2.2.2.2 := by
  have h12 := hT.r12
  unfold f_X6_removeShadowed
  rw [x_dec hT hX, bd_go]
  refine wl_dn (fun (m : Nat) (s : Int32 × Bool × Int32 × (Nat → Int32) × (Nat → Int32) × (Nat → Int32)) => s.1 = (if m < tr T then nI (tr T - 1 - m) else -1) ∧ s.2.1 = rmB T cb m ∧ XT (rmS T m) tc tca s.2.2.1 tdf tsi tst tco twe s.2.2.2.1 s.2.2.2.2.1 s.2.2.2.2.2) (tr T) (fun m s hm h => ?_) (fun s h => ?_) (by omega) _ ⟨?_, rfl, hX⟩
  · obtain ⟨v, b, u1, u2, u3, u4⟩ := s
    obtain ⟨e1, e2, e3⟩ := h
    replace e1 : v = (if m < tr T then nI (tr T - 1 - m) else -1) := e1
    replace e2 : b = rmB T cb m := e2
    replace e3 : XT (rmS T m) tc tca u1 tdf tsi tst tco twe u2 u3 u4 := e3
    obtain ⟨k1, k2, k3, k4⟩ := rmS_ok hT m (by omega)
    have hr : tr T - 1 - m < tr T := by omega
    show ∃ s', f_X6_removeShadowed_s20 tc tru tsi (nI (dcF T (cas T))) v b u1 u2 u3 u4 = some (.inl s') ∧ _
    unfold f_X6_removeShadowed_s20
    rw [if_neg (fun w => by have := (nI_dn (show m ≤ tr T by omega) h12 v e1).mp w; omega)]
    rw [if_pos hm] at e1
    subst e1
    by_cases q : cov T (tr T - 1 - m) = true
    · obtain ⟨a1, a2, a3, f1, f2⟩ := x_drop k1 e3 (show tr T - 1 - m < tr (rmS T m) by omega)
      rw [if_pos ((x_covb hT hr).mpr q), f1, bd4_go]
      refine ⟨_, rfl, nI_dn' hm h12, ?_, ?_⟩
      · show false = rmB T cb (m + 1)
        rw [rmB, if_pos q]
      · show XT (rmS T (m + 1)) tc tca _ tdf tsi tst tco twe _ _ _
        rw [rmS, if_pos q]
        exact f2
    · rw [if_neg (fun w => q ((x_covb hT hr).mp w))]
      refine ⟨_, rfl, nI_dn' hm h12, ?_, ?_⟩
      · show b = rmB T cb (m + 1)
        rw [rmB, if_neg q]
        exact e2
      · show XT (rmS T (m + 1)) tc tca _ tdf tsi tst tco twe _ _ _
        rw [rmS, if_neg q]
        exact e3
  · obtain ⟨v, b, u1, u2, u3, u4⟩ := s
    obtain ⟨e1, e2, e3⟩ := h
    replace e1 : v = (if tr T < tr T then nI (tr T - 1 - tr T) else -1) := e1
    replace e2 : b = rmB T cb (tr T) := e2
    replace e3 : XT (rmS T (tr T)) tc tca u1 tdf tsi tst tco twe u2 u3 u4 := e3
    obtain ⟨k1, k2, k3, k4⟩ := rmS_ok hT (tr T) (Nat.le_refl _)
    show ∃ a, f_X6_removeShadowed_s20 tc tru tsi (nI (dcF T (cas T))) v b u1 u2 u3 u4 = some (.inr a) ∧ _
    unfold f_X6_removeShadowed_s20
    rw [if_pos ((nI_dn (Nat.le_refl _) h12 v e1).mpr rfl)]
    refine ⟨_, rfl, ?_, e2, e3⟩
    show tru - u1 = _
    rw [hX.r, e3.r, pk_sub k3]
  · show tru - (1 : Int32) = (if 0 < tr T then nI (tr T - 1 - 0) else -1)
    rw [hX.r]
    by_cases q : 0 < tr T
    · rw [if_pos q, show (1 : Int32) = nI 1 from rfl, pk_sub (by omega)]
      rfl
    · rw [if_neg q, show tr T = 0 by omega]
      rfl
theorem m_remShadow (hT : TOk T) (hM : MT T mc mru mst msi mwe mco mse mac) (cb : Bool) : ∃ a, f_X7_removeShadowed mc msi mru mse mac cb = some a ∧ a.1 = nI (tr T - tr (rmS T (tr T))) ∧ a.2.2.2.2 = rmB T cb (tr T) ∧ MT (rmS T (tr T)) mc a.2.1 mst msi mwe mco a.2.2.1 a.2.2.2.1 := by
  have h12 := hT.r12
  unfold f_X7_removeShadowed
  refine wl_dn (fun (m : Nat) (s : Int32 × Int32 × Int32 × (Nat → Int32) × (Nat → Int32) × Bool) => s.1 = nI (tr T - tr (rmS T m)) ∧ s.2.1 = (if m < tr T then nI (tr T - 1 - m) else -1) ∧ s.2.2.2.2.2 = rmB T cb m ∧ MT (rmS T m) mc s.2.2.1 mst msi mwe mco s.2.2.2.1 s.2.2.2.2.1) (tr T) (fun m s hm h => ?_) (fun s h => ?_) (by omega) _ ⟨?_, ?_, rfl, hM⟩
  · obtain ⟨ct, v, u1, u2, u3, b⟩ := s
    obtain ⟨e0, e1, e2, e3⟩ := h
    replace e0 : ct = nI (tr T - tr (rmS T m)) := e0
    replace e1 : v = (if m < tr T then nI (tr T - 1 - m) else -1) := e1
    replace e2 : b = rmB T cb m := e2
    replace e3 : MT (rmS T m) mc u1 mst msi mwe mco u2 u3 := e3
    obtain ⟨k1, k2, k3, k4⟩ := rmS_ok hT m (by omega)
    show ∃ s', f_X7_removeShadowed_s9 mc msi ct v u1 u2 u3 b = some (.inl s') ∧ _
    unfold f_X7_removeShadowed_s9
    rw [if_neg (fun w => by have := (nI_dn (show m ≤ tr T by omega) h12 v e1).mp w; omega)]
    rw [if_pos hm] at e1
    subst e1
    have hr : tr T - 1 - m < tr (rmS T m) := by omega
    rw [m_cov k1 e3 hr, bd_go, k4 _ (by omega)]
    by_cases q : cov T (tr T - 1 - m) = true
    · obtain ⟨a1, a2, f1, f2⟩ := m_del k1 e3 hr b
      rw [if_pos q, f1, bd4_go]
      refine ⟨_, rfl, ?_, nI_dn' hm h12, ?_, ?_⟩
      · show ct + 1 = nI (tr T - tr (rmS T (m + 1)))
        rw [e0, nI_1, rmS, if_pos q]
        show nI (tr T - tr (rmS T m) + 1) = nI (tr T - (tr (rmS T m) - 1))
        rw [show tr T - tr (rmS T m) + 1 = tr T - (tr (rmS T m) - 1) by omega]
      · show false = rmB T cb (m + 1)
        rw [rmB, if_pos q]
      · show MT (rmS T (m + 1)) mc _ mst msi mwe mco _ _
        rw [rmS, if_pos q]
        exact f2
    · rw [if_neg q]
      refine ⟨_, rfl, ?_, nI_dn' hm h12, ?_, ?_⟩
      · show ct = nI (tr T - tr (rmS T (m + 1)))
        rw [rmS, if_neg q]
        exact e0
      · show b = rmB T cb (m + 1)
        rw [rmB, if_neg q]
        exact e2
      · show MT (rmS T (m + 1)) mc _ mst msi mwe mco _ _
        rw [rmS, if_neg q]
        exact e3
  · obtain ⟨ct, v, u1, u2, u3, b⟩ := s
    obtain ⟨e0, e1, e2, e3⟩ := h
    replace e1 : v = (if tr T < tr T then nI (tr T - 1 - tr T) else -1) := e1
    show ∃ a, f_X7_removeShadowed_s9 mc msi ct v u1 u2 u3 b = some (.inr a) ∧ _
    unfold f_X7_removeShadowed_s9
    rw [if_pos ((nI_dn (Nat.le_refl _) h12 v e1).mpr rfl)]
    exact ⟨_, rfl, e0, e2, e3⟩
  · show (0 : Int32) = nI (tr T - tr (rmS T 0))
    rw [rmS, Nat.sub_self]
    rfl
  · show mru - (1 : Int32) = (if 0 < tr T then nI (tr T - 1 - 0) else -1)
    rw [hM.r]
    by_cases q : 0 < tr T
    · rw [if_pos q, show (1 : Int32) = nI 1 from rfl, pk_sub (by omega)]
      rfl
    · rw [if_neg q, show tr T = 0 by omega]
      rfl
theorem sim_removeShadowed (hT : TOk T) (hX : XT T tc tca tru tdf tsi tst tco twe tse tac trw) (hM : MT T mc mru mst msi mwe mco mse mac) (cb : Bool) : ∃ r cb' tru' tse' tac' trw' mse' mac' T', f_X6_removeShadowed cb tc tca tru tsi tst tse tac trw = some (r, cb', tru', tse', tac', trw') ∧ f_X7_removeShadowed mc msi mru mse mac cb = some (r, tru', mse', mac', cb') ∧ TOk T' ∧ XT T' tc tca tru' tdf tsi tst tco twe tse' tac' trw' ∧ MT T' mc tru' mst msi mwe mco mse' mac' ∧ (cb' = true → cb = true ∧ T' = T) := by
  obtain ⟨⟨r, b, u1, u2, u3, u4⟩, e1, e2, e3, e4⟩ := x_remShadow hT hX cb
  obtain ⟨⟨r', v1, v2, v3, b'⟩, f1, f2, f3, f4⟩ := m_remShadow hT hM cb
  have e2 : r = _ := e2
  have f2 : r' = _ := f2
  have e3 : b = _ := e3
  have f3 : b' = _ := f3
  have e4 : XT (rmS T (tr T)) tc tca u1 tdf tsi tst tco twe u2 u3 u4 := e4
  have f4 : MT (rmS T (tr T)) mc v1 mst msi mwe mco v2 v3 := f4
  have e5 : v1 = u1 := by rw [f4.r, e4.r]
  subst e5
  rw [← f2] at e2
  rw [← f3] at e3
  subst e2
  subst e3
  exact ⟨_, _, _, _, _, _, _, _, _, e1, f1, (rmS_ok hT _ (Nat.le_refl _)).1, e4, f4, fun w => rmB_t hT _ (Nat.le_refl _) (by rw [← f3]; exact w)⟩
end B
/-! merging -/
def dff (T : Tb) (r : Nat) : Nat → Nat
  | 0 => 0
  | c + 1 => dff T r c + (if ts T (r * 4 + c) = ts T ((r + 1) * 4 + c) then 0 else 1)
theorem dff_le (T : Tb) (r : Nat) : ∀ c, dff T r c ≤ c
  | 0 => Nat.le_refl _
  | c + 1 => by
    rw [dff]
    have := dff_le T r c
    by_cases q : ts T (r * 4 + c) = ts T ((r + 1) * 4 + c)
    · rw [if_pos q]; omega
    · rw [if_neg q]; omega
def mrg (T : Tb) (r : Nat) : Bool := decide (ta T r = ta T (r + 1)) && decide (dff T r (tn T) ≤ 1)
def fmg (T : Tb) : Nat := fa_first (mrg T) (tr T - 1)
def uniT (T : Tb) (r : Nat) : Tb := (tn T, tz T, tw T, tk T, tr T, (fun i => if r * 4 ≤ i ∧ i < r * 4 + tn T then ts T i ||| ts T (i + 4) else ts T i), ta T, td T)
theorem uniT_ok {T : Tb} (h : TOk T) {r : Nat} (hr : r + 1 < tr T) : TOk (uniT T r) := by
  have h4 := h.n4
  refine ⟨h.1, h.2.1, h.2.2.1, h.2.2.2.1, h.2.2.2.2.1, h.2.2.2.2.2.1, h.r12, ?_, ?_, h.a9, h.d10⟩
  · intro q c hq hc
    have hq : q < tr T := hq
    have hc : c < tn T := hc
    show 0 < (if r * 4 ≤ q * 4 + c ∧ q * 4 + c < r * 4 + tn T then ts T (q * 4 + c) ||| ts T (q * 4 + c + 4) else ts T (q * 4 + c)) ∧ (if r * 4 ≤ q * 4 + c ∧ q * 4 + c < r * 4 + tn T then ts T (q * 4 + c) ||| ts T (q * 4 + c + 4) else ts T (q * 4 + c)) < 2 ^ tz T c
    have h1 := h.s hq hc
    by_cases e : r * 4 ≤ q * 4 + c ∧ q * 4 + c < r * 4 + tn T
    · rw [if_pos e]
      have h2 := h.s (show q + 1 < tr T by omega) hc
      rw [show q * 4 + c + 4 = (q + 1) * 4 + c by omega]
      exact ⟨Nat.lt_of_lt_of_le h1.1 Nat.left_le_or, Nat.or_lt_two_pow h1.2 h2.2⟩
    · rw [if_neg e]
      exact h1
  · intro i
    show (if r * 4 ≤ i ∧ i < r * 4 + tn T then ts T i ||| ts T (i + 4) else ts T i) < 2 ^ 5
    by_cases e : r * 4 ≤ i ∧ i < r * 4 + tn T
    · rw [if_pos e]; exact Nat.or_lt_two_pow (h.s32 _) (h.s32 _)
    · rw [if_neg e]; exact h.s32 _
def mgT (T : Tb) (r : Nat) : Tb := dropT (uniT T r) (r + 1)
/-- merged as often as can be, at most m times -/
def mgF : Nat → Tb → Tb
  | 0, T => T
  | m + 1, T => if fmg T < tr T - 1 then mgF m (mgT T (fmg T)) else T
def mgB : Nat → Tb → Bool → Bool
  | 0, _, b => b
  | m + 1, T, b => if fmg T < tr T - 1 then mgB m (mgT T (fmg T)) false else b
theorem mgB_f : ∀ m T, mgB m T false = false
  | 0, _ => rfl
  | m + 1, T => by
    rw [mgB]
    by_cases q : fmg T < tr T - 1
    · rw [if_pos q]; exact mgB_f m _
    · rw [if_neg q]
theorem mgB_t {b : Bool} {m : Nat} {T : Tb} (h : mgB m T b = true) : b = true ∧ mgF m T = T := by
  cases m with
  | zero => exact ⟨h, rfl⟩
  | succ m =>
    rw [mgB] at h
    rw [mgF]
    by_cases q : fmg T < tr T - 1
    · rw [if_pos q, mgB_f] at h
      exact absurd h (by decide)
    · rw [if_neg q] at h ⊢
      exact ⟨h, rfl⟩
theorem mgT_ok {T : Tb} (h : TOk T) {r : Nat} (hr : r + 1 < tr T) : TOk (mgT T r) := dropT_ok (uniT_ok h hr) hr
theorem mgF_ok : ∀ (m : Nat) {T : Tb}, TOk T → TOk (mgF m T)
  | 0, _, h => h
  | m + 1, T, h => by
    rw [mgF]
    by_cases q : fmg T < tr T - 1
    · rw [if_pos q]; exact mgF_ok m (mgT_ok h (by omega))
    · rw [if_neg q]; exact h
section B
variable {T : Tb} {tc tca tru tdf : Int32} {tsi tst tco twe tse tac trw : Nat → Int32} {mc mru mst : Int32} {msi mwe mco mse mac : Nat → Int32}
theorem x_dff (hT : TOk T) (hX : XT T tc tca tru tdf tsi tst tco twe tse tac trw) {r : Nat} (hr : r + 1 < tr T) : f_X4_differences tc tse (nI r) (nI (r + 1)) = some (nI (dff T r (tn T))) := by
  have h12 := hT.r12
  have h4 := hT.n4
  unfold f_X4_differences
  refine wl_for (fun c => (nI (dff T r c), nI c)) (tn T) (fun c hc => ?_) ?_ (by omega)
  · show f_X4_differences_s5 tc tse (nI r) (nI (r + 1)) (nI (dff T r c)) (nI c) = _
    have a1 := hT.s32 (r * 4 + c)
    have a2 := hT.s32 ((r + 1) * 4 + c)
    unfold f_X4_differences_s5
    rw [hX.n, if_neg (nI_ge hc (by omega)), setOf_x (by omega), bd_go, setOf_x (by omega), bd_go, hX.s (by omega), hX.s (by omega), dff]
    by_cases q : ts T (r * 4 + c) = ts T ((r + 1) * 4 + c)
    · rw [if_pos (by rw [q]), if_pos q, nI_1]; rfl
    · rw [if_neg (fun w => q ((nI_eq (by omega) (by omega)).mp w)), if_neg q, nI_1, nI_1]
  · show f_X4_differences_s5 tc tse (nI r) (nI (r + 1)) (nI (dff T r (tn T))) (nI (tn T)) = _
    unfold f_X4_differences_s5
    rw [hX.n, if_pos (Int32.le_refl _)]
theorem x_fmg (hT : TOk T) (hX : XT T tc tca tru tdf tsi tst tco twe tse tac trw) : f_X4_firstMergeable tc tru tse tac = some (if fmg T < tr T - 1 then nI (fmg T) else (-1 : Int32)) := by
  have h12 := hT.r12
  have h4 := hT.n4
  unfold f_X4_firstMergeable
  refine wl_find (mrg T) (tr T - 1) (by omega) (fun r => nI r) (-1) (fun r hr hp => ?_) (fun r hr hp => ?_) ?_
  · show f_X4_firstMergeable_s2 tc tru tse tac (nI r) = _
    have hd := dff_le T r (tn T)
    have a1 := hT.a9 r
    have a2 := hT.a9 (r + 1)
    unfold f_X4_firstMergeable_s2
    rw [nI_1, hX.r, if_neg (nI_ge (by omega) (by omega)), rd_nI (by omega) (by decide), rd_nI (by omega) (by decide), hX.a (by omega), hX.a (by omega)]
    by_cases q : ta T r = ta T (r + 1)
    · have q2 : ¬ dff T r (tn T) ≤ 1 := fun w => by rw [mrg, decide_eq_true q, decide_eq_true w] at hp; exact absurd hp (by decide)
      rw [if_pos (by rw [q]), x_dff hT hX (by omega), bd_go, show (1 : Int32) = nI 1 from rfl, if_pos (nI_lt (by omega) (by omega))]
    · rw [if_neg (fun w => q ((nI_eq (by omega) (by omega)).mp w))]
  · show f_X4_firstMergeable_s2 tc tru tse tac (nI r) = _
    have hd := dff_le T r (tn T)
    have hp2 : ta T r = ta T (r + 1) ∧ dff T r (tn T) ≤ 1 := by
      rw [mrg, Bool.and_eq_true] at hp
      exact ⟨of_decide_eq_true hp.1, of_decide_eq_true hp.2⟩
    unfold f_X4_firstMergeable_s2
    rw [nI_1, hX.r, if_neg (nI_ge (by omega) (by omega)), rd_nI (by omega) (by decide), rd_nI (by omega) (by decide), hX.a (by omega), hX.a (by omega), if_pos (by rw [hp2.1]), x_dff hT hX (by omega), bd_go, show (1 : Int32) = nI 1 from rfl, if_neg (nI_nlt hp2.2 (by decide))]
  · show f_X4_firstMergeable_s2 tc tru tse tac (nI (tr T - 1)) = _
    unfold f_X4_firstMergeable_s2
    rw [nI_1, hX.r, if_pos (nI_le (by omega) (by omega))]
/-- sets with the first c of rule r's widened -/
def uniF (S : Nat → Int32) (r c : Nat) : Nat → Int32 := fun i => if r * 4 ≤ i ∧ i < r * 4 + c then S i ||| S (i + 4) else S i
theorem uniF_s {S : Nat → Int32} {r c : Nat} (_hc : c < 4) : upd (uniF S r c) (r * 4 + c) (S (r * 4 + c) ||| S (r * 4 + c + 4)) = uniF S r (c + 1) := by
  funext i
  by_cases e : i = r * 4 + c
  · subst e
    rw [upd_s]
    unfold uniF
    rw [if_pos (by omega)]
  · rw [upd_n e]
    unfold uniF
    have : (r * 4 ≤ i ∧ i < r * 4 + c) ↔ (r * 4 ≤ i ∧ i < r * 4 + (c + 1)) := by omega
    simp only [this]
theorem uniF_o {S : Nat → Int32} {r c i : Nat} (h : r * 4 + c ≤ i) : uniF S r c i = S i := by
  unfold uniF
  rw [if_neg (by omega)]
theorem uniF_0 {S : Nat → Int32} {r : Nat} : uniF S r 0 = S := by
  funext i
  exact if_neg (by omega)
theorem uni_rel {S : Nat → Int32} {r n : Nat} (hn : n = tn T) (hr : r + 1 < tr T) (h4 : tn T ≤ 4) (h : ∀ i, i < tr T * 4 → S i = nI (ts T i)) : ∀ i, i < tr (uniT T r) * 4 → uniF S r n i = nI (ts (uniT T r) i) := by
  intro i hi
  have hi : i < tr T * 4 := hi
  subst hn
  show uniF S r (tn T) i = nI (if r * 4 ≤ i ∧ i < r * 4 + tn T then ts T i ||| ts T (i + 4) else ts T i)
  unfold uniF
  by_cases e : r * 4 ≤ i ∧ i < r * 4 + tn T
  · rw [if_pos e, if_pos e, h i hi, h (i + 4) (by omega), fa_or]
  · rw [if_neg e, if_neg e, h i hi]
theorem x_merge (hT : TOk T) (hX : XT T tc tca tru tdf tsi tst tco twe tse tac trw) {r : Nat} (hr : r + 1 < tr T) : ∃ tse' tac' trw', f_X4_mergeWithNext tc tru tsi tse tac trw (nI r) = some (nI (tr T - 1), tse', tac', trw') ∧ XT (mgT T r) tc tca (nI (tr T - 1)) tdf tsi tst tco twe tse' tac' trw' := by
  have h12 := hT.r12
  have h4 := hT.n4
  have hU := uniT_ok hT hr
  have hX0 : XT0 (uniT T r) tc tca tru tdf tsi tst tco twe (uniF tse r (tn T)) tac := ⟨hX.1, hX.2.1, hX.2.2.1, hX.2.2.2.1, hX.2.2.2.2.1, hX.2.2.2.2.2.1, hX.2.2.2.2.2.2.1, hX.2.2.2.2.2.2.2.1, uni_rel rfl hr h4 (fun i hi => hX.s hi), hX.2.2.2.2.2.2.2.2.2.1⟩
  -- the drop reads no index of before
  obtain ⟨a1, a2, a3, e1, e2⟩ := x_drop0 hU hX0 (show r + 1 < tr (uniT T r) from hr) trw
  refine ⟨a1, a2, a3, ?_, e2⟩
  unfold f_X4_mergeWithNext
  rw [show ((0 : Int32), tse) = (fun c => (nI c, uniF tse r c)) 0 by show _ = (nI 0, uniF tse r 0); rw [uniF_0]; rfl]
  refine wl_for (fun c => (nI c, uniF tse r c)) (tn T) (fun c hc => ?_) ?_ (by omega)
  · show f_X4_mergeWithNext_s2 tc tru tsi tac trw (nI r) (nI c) (uniF tse r c) = _
    unfold f_X4_mergeWithNext_s2
    rw [hX.n, if_neg (nI_ge hc (by omega)), show (4 : Int32) = nI 4 from rfl, pk_mul, nI_add, rd_nI (by omega) (by decide), nI_1, setOf_x (by omega), bd_go, nI_clamp (by omega), uniF_o (by omega), uniF_o (by omega), show (r + 1) * 4 + c = r * 4 + c + 4 by omega, uniF_s (by omega), nI_1]
  · show f_X4_mergeWithNext_s2 tc tru tsi tac trw (nI r) (nI (tn T)) (uniF tse r (tn T)) = _
    unfold f_X4_mergeWithNext_s2
    rw [hX.n, if_pos (Int32.le_refl _), nI_1, ← hX.n, e1, bd4_go]
    rfl
end B
