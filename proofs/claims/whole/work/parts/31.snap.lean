/-! the table, kept and taken back, and begun anew -/
theorem ix4_0 {β : Type} {k : Option β} : ix 4 (0 : Int32) k = k := ix_nI (n := 4) (j := 0) (by decide) (by decide)
theorem ix4_1 {β : Type} {k : Option β} : ix 4 (1 : Int32) k = k := ix_nI (n := 4) (j := 1) (by decide) (by decide)
theorem ix4_2 {β : Type} {k : Option β} : ix 4 (2 : Int32) k = k := ix_nI (n := 4) (j := 2) (by decide) (by decide)
theorem ix4_3 {β : Type} {k : Option β} : ix 4 (3 : Int32) k = k := ix_nI (n := 4) (j := 3) (by decide) (by decide)
theorem N0 : (0 : Int32).toNatClampNeg = 0 := rfl
theorem N1 : (1 : Int32).toNatClampNeg = 1 := rfl
theorem N2 : (2 : Int32).toNatClampNeg = 2 := rfl
theorem N3 : (3 : Int32).toNatClampNeg = 3 := rfl
theorem cpy_lt (f g : Nat → Int32) {n j : Nat} (h : j < n) : va_cpy f g 0 0 n j = f j := by
  unfold va_cpy
  rw [if_pos ⟨Nat.zero_le _, by omega⟩, Nat.zero_add, Nat.sub_zero]
theorem cp4 {β : Type} {k : Option β} : cp 4 4 (0 : Int32) (0 : Int32) (4 : Int32) k = k := if_pos (by decide)
theorem cp20 {β : Type} {k : Option β} : cp 20 20 (0 : Int32) (0 : Int32) (20 : Int32) k = k := if_pos (by decide)
theorem cp48 {β : Type} {k : Option β} : cp 48 48 (0 : Int32) (0 : Int32) (48 : Int32) k = k := if_pos (by decide)
theorem cp12 {β : Type} {k : Option β} : cp 12 12 (0 : Int32) (0 : Int32) (12 : Int32) k = k := if_pos (by decide)
theorem x_copy (a1 a2 a3 a4 : Int32) (a5 a6 a7 a8 a9 a10 a11 : Nat → Int32) (b1 b2 b3 b4 : Int32) (b5 b6 b7 b8 b9 b10 b11 : Nat → Int32) : f_X4_copyFrom a1 a2 a3 a4 a5 a6 a7 a8 a9 a10 a11 b1 b2 b3 b4 b5 b6 b7 b8 b9 b10 b11 = some (b1, b2, b3, b4, va_cpy b5 a5 0 0 4, va_cpy b6 a6 0 0 4, va_cpy b7 a7 0 0 4, va_cpy b8 a8 0 0 20, va_cpy b9 a9 0 0 48, va_cpy b10 a10 0 0 12, va_cpy b11 a11 0 0 20) := by
  unfold f_X4_copyFrom
  rw [cp4, cp4, cp4, cp20, cp48, cp12, cp20]
  rfl
theorem XT_copy {T : Tb} (hT : TOk T) {b1 b2 b3 b4 : Int32} {b5 b6 b7 b8 b9 b10 b11 : Nat → Int32} (h : XT T b1 b2 b3 b4 b5 b6 b7 b8 b9 b10 b11) (a5 a6 a7 a8 a9 a10 a11 : Nat → Int32) : XT T b1 b2 b3 b4 (va_cpy b5 a5 0 0 4) (va_cpy b6 a6 0 0 4) (va_cpy b7 a7 0 0 4) (va_cpy b8 a8 0 0 20) (va_cpy b9 a9 0 0 48) (va_cpy b10 a10 0 0 12) (va_cpy b11 a11 0 0 20) := by
  have h4 := hT.n4
  have h12 := hT.r12
  obtain ⟨h1, h2, h3, h3b, h5, h6, h7, h8, h9, h10, h11⟩ := h
  refine ⟨h1, h2, h3, h3b, fun c hc => ?_, fun c hc => ?_, fun c hc => ?_, fun c hc => ?_, fun c hc => ?_, fun c hc => ?_, fun c v hc hv => ?_⟩
  · rw [cpy_lt _ _ hc]; exact h5 c hc
  · rw [cpy_lt _ _ (by omega)]; exact h6 c hc
  · rw [cpy_lt _ _ hc]; exact h7 c hc
  · rw [cpy_lt _ _ hc]; exact h8 c hc
  · rw [cpy_lt _ _ (by omega)]; exact h9 c hc
  · rw [cpy_lt _ _ (by omega)]; exact h10 c hc
  · have := hT.z5 c
    rw [cpy_lt _ _ (by omega)]; exact h11 c v hc hv
def cpm (f g : Nat → Int32) (m k : Nat) : Nat → Int32 := fun j => if j < m ∧ j < k then f j else g j
theorem cpm_0 (f g : Nat → Int32) (m : Nat) : cpm f g m 0 = g := by
  funext j
  unfold cpm
  rw [if_neg (by omega)]
theorem cpm_lt (f g : Nat → Int32) {m k j : Nat} (h : j < m) (hk : m ≤ k) : cpm f g m k j = f j := by
  unfold cpm
  rw [if_pos ⟨h, by omega⟩]
theorem cpm_s (f g : Nat → Int32) {m : Nat} (hm : 0 < m) (k : Nat) : upd (cpm f g m k) (k % m) (f (k % m)) = cpm f g m (k + 1) := by
  funext j
  have h1 := Nat.mod_lt k hm
  have h2 := Nat.mod_le k m
  unfold upd cpm
  by_cases e : j = k % m
  · rw [if_pos e, if_pos ⟨by omega, by omega⟩, e]
  · rw [if_neg e]
    by_cases e2 : j < m ∧ j < k
    · rw [if_pos e2, if_pos ⟨e2.1, by omega⟩]
    · rw [if_neg e2, if_neg (fun w => ?_)]
      obtain ⟨w1, w2⟩ := w
      have : j = k := by omega
      subst this
      exact e (Nat.mod_eq_of_lt w1).symm
theorem cpm_s1 (f g : Nat → Int32) {m k : Nat} (hk : k < m) : upd (cpm f g m k) k (f k) = cpm f g m (k + 1) := by
  have := cpm_s f g (show 0 < m by omega) k
  rwa [Nat.mod_eq_of_lt hk] at this
theorem mod_nI {k m : Nat} (hk : k < 2 ^ 31) (hm0 : 0 < m) (hm : m < 2 ^ 31) : nI k - nI k / nI m * nI m = nI (k % m) := by
  rw [pk_div hk hm0 hm, pk_mul, pk_sub (Nat.div_mul_le_self k m)]
  congr 1
  have := Nat.div_add_mod k m
  rw [Nat.mul_comm] at this
  omega
theorem m4 {k : Nat} (hk : k < 2 ^ 31) : nI k - nI k / (4 : Int32) * (4 : Int32) = nI (k % 4) := mod_nI (m := 4) hk (by decide) (by decide)
theorem m20 {k : Nat} (hk : k < 2 ^ 31) : nI k - nI k / (20 : Int32) * (20 : Int32) = nI (k % 20) := mod_nI (m := 20) hk (by decide) (by decide)
theorem m12 {k : Nat} (hk : k < 2 ^ 31) : nI k - nI k / (12 : Int32) * (12 : Int32) = nI (k % 12) := mod_nI (m := 12) hk (by decide) (by decide)
theorem m_snap (mc : Int32) (msi mwe mco : Nat → Int32) (mru : Int32) (mse mac : Nat → Int32) (mst : Int32) (kb : Bool) (kc : Int32) (ksi kwe kco : Nat → Int32) (kru : Int32) (kse kac : Nat → Int32) (kst : Int32) : f_X7_snapshot mc msi mwe mco mru mse mac mst kb kc ksi kwe kco kru kse kac kst = some (mru, true, mc, cpm msi ksi 4 48, cpm mwe kwe 20 48, cpm mco kco 4 48, mru, cpm mse kse 48 48, cpm mac kac 12 48, mst) := by
  unfold f_X7_snapshot
  have e0 : ((0 : Int32), ksi, kwe, kco, kse, kac) = (fun k => (nI k, cpm msi ksi 4 k, cpm mwe kwe 20 k, cpm mco kco 4 k, cpm mse kse 48 k, cpm mac kac 12 k)) 0 := by
    show _ = (nI 0, cpm msi ksi 4 0, cpm mwe kwe 20 0, cpm mco kco 4 0, cpm mse kse 48 0, cpm mac kac 12 0)
    rw [cpm_0, cpm_0, cpm_0, cpm_0, cpm_0]
    rfl
  rw [e0]
  refine wl_for (fun k => (nI k, cpm msi ksi 4 k, cpm mwe kwe 20 k, cpm mco kco 4 k, cpm mse kse 48 k, cpm mac kac 12 k)) 48 (fun k hk => ?_) ?_ (by omega)
  · show f_X7_snapshot_s31 mc msi mwe mco mru mse mac mst (nI k) (cpm msi ksi 4 k) (cpm mwe kwe 20 k) (cpm mco kco 4 k) (cpm mse kse 48 k) (cpm mac kac 12 k) = _
    have q4 : k % 4 < 4 := Nat.mod_lt _ (by decide)
    have q20 : k % 20 < 20 := Nat.mod_lt _ (by decide)
    have q12 : k % 12 < 12 := Nat.mod_lt _ (by decide)
    unfold f_X7_snapshot_s31
    rw [if_neg (show ¬ (48 : Int32) ≤ nI k from nI_ge (b := 48) hk (by omega)), rd_nI hk (by decide), nz_go (by decide), nz_go (by decide), m4 (by omega), rd_nI q4 (by decide), nz_go (by decide), nz_go (by decide), nm_go, nz_go (by decide), nz_go (by decide), m20 (by omega), rd_nI q20 (by decide), nz_go (by decide), nz_go (by decide), m12 (by omega), rd_nI q12 (by decide), nI_clamp (by omega), nI_clamp (by omega), nI_clamp (by omega), nI_clamp (by omega), cpm_s _ _ (by decide), cpm_s _ _ (by decide), cpm_s _ _ (by decide), cpm_s _ _ (by decide), cpm_s1 _ _ hk, nI_1]
  · show f_X7_snapshot_s31 mc msi mwe mco mru mse mac mst (nI 48) (cpm msi ksi 4 48) (cpm mwe kwe 20 48) (cpm mco kco 4 48) (cpm mse kse 48 48) (cpm mac kac 12 48) = _
    unfold f_X7_snapshot_s31
    rw [if_pos (show (48 : Int32) ≤ nI 48 by decide)]
theorem m_rest (mc : Int32) (msi mwe mco : Nat → Int32) (mru : Int32) (mse mac : Nat → Int32) (mst : Int32) (cb : Bool) (kc : Int32) (ksi kwe kco : Nat → Int32) (kru : Int32) (kse kac : Nat → Int32) (kst : Int32) : f_X7_restore mc msi mwe mco mru mse mac mst cb true kc ksi kwe kco kru kse kac kst = some (kru, kc, cpm ksi msi 4 48, cpm kwe mwe 20 48, cpm kco mco 4 48, kru, cpm kse mse 48 48, cpm kac mac 12 48, kst, false) := by
  unfold f_X7_restore
  rw [if_pos rfl]
  have e0 : ((0 : Int32), msi, mwe, mco, mse, mac) = (fun k => (nI k, cpm ksi msi 4 k, cpm kwe mwe 20 k, cpm kco mco 4 k, cpm kse mse 48 k, cpm kac mac 12 k)) 0 := by
    show _ = (nI 0, cpm ksi msi 4 0, cpm kwe mwe 20 0, cpm kco mco 4 0, cpm kse mse 48 0, cpm kac mac 12 0)
    rw [cpm_0, cpm_0, cpm_0, cpm_0, cpm_0]
    rfl
  rw [e0]
  refine wl_for (fun k => (nI k, cpm ksi msi 4 k, cpm kwe mwe 20 k, cpm kco mco 4 k, cpm kse mse 48 k, cpm kac mac 12 k)) 48 (fun k hk => ?_) ?_ (by omega)
  · show f_X7_restore_s36 kc ksi kwe kco kru kse kac kst (nI k) (cpm ksi msi 4 k) (cpm kwe mwe 20 k) (cpm kco mco 4 k) (cpm kse mse 48 k) (cpm kac mac 12 k) = _
    have q4 : k % 4 < 4 := Nat.mod_lt _ (by decide)
    have q20 : k % 20 < 20 := Nat.mod_lt _ (by decide)
    have q12 : k % 12 < 12 := Nat.mod_lt _ (by decide)
    unfold f_X7_restore_s36
    rw [if_neg (show ¬ (48 : Int32) ≤ nI k from nI_ge (b := 48) hk (by omega)), rd_nI hk (by decide), nz_go (by decide), nz_go (by decide), m4 (by omega), rd_nI q4 (by decide), nz_go (by decide), nz_go (by decide), nm_go, nz_go (by decide), nz_go (by decide), m20 (by omega), rd_nI q20 (by decide), nz_go (by decide), nz_go (by decide), m12 (by omega), rd_nI q12 (by decide), nI_clamp (by omega), nI_clamp (by omega), nI_clamp (by omega), nI_clamp (by omega), cpm_s _ _ (by decide), cpm_s _ _ (by decide), cpm_s _ _ (by decide), cpm_s _ _ (by decide), cpm_s1 _ _ hk, nI_1]
  · show f_X7_restore_s36 kc ksi kwe kco kru kse kac kst (nI 48) (cpm ksi msi 4 48) (cpm kwe mwe 20 48) (cpm kco mco 4 48) (cpm kse mse 48 48) (cpm kac mac 12 48) = _
    unfold f_X7_restore_s36
    rw [if_pos (show (48 : Int32) ≤ nI 48 by decide)]
theorem MT_copy {T : Tb} (hT : TOk T) {kc kru kst : Int32} {ksi kwe kco kse kac : Nat → Int32} (h : MT T kc kru kst ksi kwe kco kse kac) (msi mwe mco mse mac : Nat → Int32) : MT T kc kru kst (cpm ksi msi 4 48) (cpm kwe mwe 20 48) (cpm kco mco 4 48) (cpm kse mse 48 48) (cpm kac mac 12 48) := by
  have h4 := hT.n4
  have h12 := hT.r12
  obtain ⟨h1, h2, h3, h5, h6, h7, h8, h9⟩ := h
  refine ⟨h1, h2, h3, fun c hc => ?_, fun c hc => ?_, fun c hc => ?_, fun c hc => ?_, fun c hc => ?_⟩
  · rw [cpm_lt _ _ hc (by omega)]; exact h5 c hc
  · rw [cpm_lt _ _ hc (by omega)]; exact h6 c hc
  · rw [cpm_lt _ _ hc (by omega)]; exact h7 c hc
  · rw [cpm_lt _ _ (by omega) (by omega)]; exact h8 c hc
  · rw [cpm_lt _ _ (by omega) (by omega)]; exact h9 c hc
section S
variable {T V : Tb} {tc tca tru tdf : Int32} {tsi tst tco twe tse tac trw : Nat → Int32} {mc mru mst : Int32} {msi mwe mco mse mac : Nat → Int32} {vc vca vru vdf : Int32} {vsi vst vco vwe vse vac vrw : Nat → Int32} {kc kru kst : Int32} {ksi kwe kco kse kac : Nat → Int32}
theorem sim_snapshot (hT : TOk T) (hX : XT T tc tca tru tdf tsi tst tco twe tse tac trw) (hM : MT T mc mru mst msi mwe mco mse mac) (hb : Bool) (vc vca vru vdf : Int32) (vsi vst vco vwe vse vac vrw : Nat → Int32) (kc kru kst : Int32) (ksi kwe kco kse kac : Nat → Int32) : ∃ r vc' vca' vru' vdf' vsi' vst' vco' vwe' vse' vac' vrw' kc' kst' ksi' kwe' kco' kse' kac', f_X6_snapshot hb tc tca tru tdf tsi tst tco twe tse tac trw vc vca vru vdf vsi vst vco vwe vse vac vrw = some (r, true, vc', vca', vru', vdf', vsi', vst', vco', vwe', vse', vac', vrw') ∧ f_X7_snapshot mc msi mwe mco mru mse mac mst hb kc ksi kwe kco kru kse kac kst = some (r, true, kc', ksi', kwe', kco', r, kse', kac', kst') ∧ XT T vc' vca' vru' vdf' vsi' vst' vco' vwe' vse' vac' vrw' ∧ MT T kc' r kst' ksi' kwe' kco' kse' kac' := by
  unfold f_X6_snapshot
  rw [x_copy, bd11_go, m_snap]
  have hM2 : MT T mc tru mst msi mwe mco mse mac := by rw [hX.r, ← hM.r]; exact hM
  refine ⟨tru, _, _, _, _, _, _, _, _, _, _, _, _, _, _, _, _, _, _, rfl, ?_, XT_copy hT hX _ _ _ _ _ _ _, MT_copy hT hM2 ksi kwe kco kse kac⟩
  rw [hX.r, hM.r]
theorem sim_restore (hT : TOk T) (hX : XT T tc tca tru tdf tsi tst tco twe tse tac trw) (hM : MT T mc mru mst msi mwe mco mse mac) (sb cb : Bool) (hV : sb = true → TOk V ∧ XT V vc vca vru vdf vsi vst vco vwe vse vac vrw ∧ MT V kc kru kst ksi kwe kco kse kac) : ∃ r cb' tc' tca' tru' tdf' tsi' tst' tco' twe' tse' tac' trw' mc' mst' msi' mwe' mco' mse' mac' T', f_X6_restore sb cb tc tca tru tdf tsi tst tco twe tse tac trw vc vca vru vdf vsi vst vco vwe vse vac vrw = some (r, cb', tc', tca', tru', tdf', tsi', tst', tco', twe', tse', tac', trw') ∧ f_X7_restore mc msi mwe mco mru mse mac mst cb sb kc ksi kwe kco kru kse kac kst = some (r, mc', msi', mwe', mco', tru', mse', mac', mst', cb') ∧ TOk T' ∧ XT T' tc' tca' tru' tdf' tsi' tst' tco' twe' tse' tac' trw' ∧ MT T' mc' tru' mst' msi' mwe' mco' mse' mac' ∧ (cb' = true → cb = true ∧ T' = T) := by
  cases sb with
  | false =>
    unfold f_X6_restore f_X7_restore
    rw [if_neg (by decide), if_neg (by decide)]
    have hM2 : MT T mc tru mst msi mwe mco mse mac := by rw [hX.r, ← hM.r]; exact hM
    exact ⟨_, _, _, _, _, _, _, _, _, _, _, _, _, _, _, _, _, _, _, _, T, rfl, by rw [hX.r, hM.r], hT, hX, hM2, fun w => ⟨w, rfl⟩⟩
  | true =>
    obtain ⟨h1, h2, h3⟩ := hV rfl
    rw [m_rest]
    unfold f_X6_restore
    rw [if_pos rfl, x_copy, bd11_go]
    have hM2 : MT V kc vru kst ksi kwe kco kse kac := by rw [h2.r, ← h3.r]; exact h3
    exact ⟨_, _, _, _, _, _, _, _, _, _, _, _, _, _, _, _, _, _, _, _, V, rfl, by rw [h2.r, h3.r], h1, XT_copy h1 h2 _ _ _ _ _ _ _, MT_copy h1 hM2 _ _ _ _ _, fun w => absurd w (by decide)⟩
end S
/-! begun anew -/
def rT (n : Nat) (z : Nat → Nat) : Tb := (n, z, fun _ => 1, fun _ => 1, 0, fun _ => 0, fun _ => 0, 0)
def ZOk (n : Nat) (z : Nat → Nat) : Prop := (1 ≤ n ∧ n ≤ 4) ∧ (∀ c, c < n → 2 ≤ z c ∧ z c ≤ 5) ∧ ∀ c, n ≤ c → z c = 0
theorem rT_ok {n : Nat} {z : Nat → Nat} (h : ZOk n z) : TOk (rT n z) := by
  refine ⟨h.1, h.2.1, h.2.2, fun _ => (by show 1 ≤ 9; decide), fun c hc => ?_, fun _ => (by show 1 ≤ 1 ∧ 1 ≤ 9; decide), (by show 0 ≤ 12; decide), fun r c hr => absurd hr (Nat.not_lt_zero r), fun _ => (by show 0 < 32; decide), fun _ => (by show 0 ≤ 9; decide), (by show 0 ≤ 10; decide)⟩
  have h2 := (h.2.1 c hc).1
  show 0 < fb_sm (fun v => 1) (z c)
  obtain ⟨k, hk⟩ : ∃ k, z c = k + 1 := ⟨z c - 1, by omega⟩
  rw [hk, fb_sm]
  omega
def sz4 (f : Nat → Int32) (x1 x2 x3 x4 : Int32) : Nat → Int32 := upd (upd (upd (upd f 0 x1) 1 x2) 2 x3) 3 x4
theorem sz4_r {f : Nat → Int32} {x1 x2 x3 x4 : Int32} {z : Nat → Nat} (h1 : x1 = nI (z 0)) (h2 : x2 = nI (z 1)) (h3 : x3 = nI (z 2)) (h4 : x4 = nI (z 3)) : ∀ c, c < 4 → sz4 f x1 x2 x3 x4 c = nI (z c) := by
  intro c hc
  match c with
  | 0 => exact h1
  | 1 => exact h2
  | 2 => exact h3
  | 3 => exact h4
  | c + 4 => omega
theorem x_clear {n : Nat} {z : Nat → Nat} (h : ZOk n z) {x1 x2 x3 x4 : Int32} (h1 : x1 = nI (z 0)) (h2 : x2 = nI (z 1)) (h3 : x3 = nI (z 2)) (h4 : x4 = nI (z 3)) (tc tca tru tdf : Int32) (tsi tst tco twe trw tse tac : Nat → Int32) : ∃ tst', f_X4_clearTo tc tca tru tdf tsi tst tco twe trw x1 x2 x3 x4 = some (nI n, nI (pr z 0 n), 0, -1, sz4 tsi x1 x2 x3 x4, tst', fil 4 1 tco, fil 20 1 twe, fil 20 0 trw) ∧ XT (rT n z) (nI n) (nI (pr z 0 n)) 0 (-1) (sz4 tsi x1 x2 x3 x4) tst' (fil 4 1 tco) (fil 20 1 twe) tse tac (fil 20 0 trw) := by
  have hz := sz4_r (f := tsi) h1 h2 h3 h4
  obtain ⟨⟨n1, n4⟩, hz2, hz0⟩ := h
  have step : ∀ c st, c < 4 → f_X4_clearTo_s42 tsi tco twe trw x1 x2 x3 x4 (nI c) (nI (n - (c + 1))) (nI (pr z (c + 1) (n - (c + 1)))) st = some (.inl (nI c + (-1 : Int32), nI (n - c), nI (pr z c (n - c)), upd st c (nI (pr z (c + 1) (n - (c + 1)))))) := by
    intro c st hc
    unfold f_X4_clearTo_s42
    rw [if_neg (show ¬ nI c < (0 : Int32) from nI_nlt (b := 0) (by omega) (by omega)), ix_nI hc (by decide), nI_clamp (by omega), nm_go]
    show (if sz4 tsi x1 x2 x3 x4 c ≤ 0 then _ else _) = _
    by_cases e : c < n
    · have q := hz2 c e
      rw [if_neg (show ¬ sz4 tsi x1 x2 x3 x4 c ≤ (0 : Int32) by rw [hz c hc]; exact nI_ge (a := 0) (by omega) (by omega))]
      show some (Sum.inl (nI c + (-1 : Int32), nI (n - (c + 1)) + 1, nI (pr z (c + 1) (n - (c + 1))) * sz4 tsi x1 x2 x3 x4 c, _)) = _
      rw [hz c hc, nI_1, pk_mul, show n - c = n - (c + 1) + 1 by omega, pr, Nat.mul_comm (z c)]
    · rw [if_pos (show sz4 tsi x1 x2 x3 x4 c ≤ (0 : Int32) by rw [hz c hc, hz0 c (by omega)]; decide), show n - (c + 1) = 0 by omega, show n - c = 0 by omega]
      rfl
  refine ⟨upd (upd (upd (upd tst 3 (nI (pr z 4 (n - 4)))) 2 (nI (pr z 3 (n - 3)))) 1 (nI (pr z 2 (n - 2)))) 0 (nI (pr z 1 (n - 1))), ?_, rfl, rfl, rfl, rfl, hz, fun c hc => ?_, fun c hc => ?_, fun c hc => ?_, fun i hi => absurd hi (Nat.not_lt_zero i), fun i hi => absurd hi (Nat.not_lt_zero i), fun c v hc hv => ?_⟩
  · unfold f_X4_clearTo
    rw [ix4_0, ix4_1, ix4_2, ix4_3]
    have e0 : ((3 : Int32), (0 : Int32), (1 : Int32), tst) = (nI 3, nI (n - 4), nI (pr z 4 (n - 4)), tst) := by
      rw [show n - 4 = 0 by omega]
      rfl
    rw [e0]
    rw [wl_c (w := (nI 2, nI (n - 3), nI (pr z 3 (n - 3)), upd tst 3 (nI (pr z 4 (n - 4))))) (by exact step 3 tst (by omega))]
    rw [wl_c (w := (nI 1, nI (n - 2), nI (pr z 2 (n - 2)), upd (upd tst 3 (nI (pr z 4 (n - 4)))) 2 (nI (pr z 3 (n - 3))))) (by exact step 2 _ (by omega))]
    rw [wl_c (w := (nI 0, nI (n - 1), nI (pr z 1 (n - 1)), upd (upd (upd tst 3 (nI (pr z 4 (n - 4)))) 2 (nI (pr z 3 (n - 3)))) 1 (nI (pr z 2 (n - 2))))) (by exact step 1 _ (by omega))]
    rw [wl_c (w := (nI 0 + (-1 : Int32), nI n, nI (pr z 0 n), upd (upd (upd (upd tst 3 (nI (pr z 4 (n - 4)))) 2 (nI (pr z 3 (n - 3)))) 1 (nI (pr z 2 (n - 2)))) 0 (nI (pr z 1 (n - 1))))) (by exact step 0 _ (by omega))]
    refine wl_r ?_
    show f_X4_clearTo_s42 tsi tco twe trw x1 x2 x3 x4 (nI 0 + (-1 : Int32)) (nI n) (nI (pr z 0 n)) _ = _
    unfold f_X4_clearTo_s42
    rw [if_pos (by decide)]
    rfl
  · have hc4 : c < 4 := Nat.lt_of_lt_of_le hc n4
    show _ = nI (pr z (c + 1) (n - 1 - c))
    match c with
    | 0 => rfl
    | 1 => show nI (pr z 2 (n - 2)) = _; rw [show n - 1 - 1 = n - 2 by omega]
    | 2 => show nI (pr z 3 (n - 3)) = _; rw [show n - 1 - 2 = n - 3 by omega]
    | 3 => show nI (pr z 4 (n - 4)) = _; rw [show n - 1 - 3 = n - 4 by omega]
    | c + 4 => omega
  · unfold fil; rw [if_pos hc]; rfl
  · unfold fil; rw [if_pos hc]; rfl
  · have q := hz2 c hc
    have : v < z c := hv
    unfold fil; rw [if_pos (by have : c < n := hc; omega)]; rfl
theorem m_j129 {n : Nat} {z : Nat → Nat} (h : ZOk n z) {msi : Nat → Int32} (hz : ∀ c, c < 4 → msi c = nI (z c)) (mwe mco mse mac : Nat → Int32) : f_X7_reset_j129 mwe mco msi (nI n) = some (nI (pr z 0 n), nI n, msi, fil 20 1 mwe, fil 4 1 mco, 0, -1, false) ∧ MT (rT n z) (nI n) 0 (-1) msi (fil 20 1 mwe) (fil 4 1 mco) mse mac := by
  have hMT : MT (rT n z) (nI n) 0 (-1) msi (fil 20 1 mwe) (fil 4 1 mco) mse mac := by
    refine ⟨rfl, rfl, rfl, hz, fun c hc => ?_, fun c hc => ?_, fun i hi => absurd hi (Nat.not_lt_zero i), fun i hi => absurd hi (Nat.not_lt_zero i)⟩
    · unfold fil; rw [if_pos hc]; rfl
    · unfold fil; rw [if_pos hc]; rfl
  have f0 : ∀ f : Nat → Int32, f = fil 0 1 f := fun f => by
    funext j
    unfold fil
    rw [if_neg (Nat.not_lt_zero j)]
  refine ⟨?_, hMT⟩
  unfold f_X7_reset_j129
  rw [show ((0 : Int32), mwe) = (fun c => (nI c, fil c (1 : Int32) mwe)) 0 by show _ = (nI 0, fil 0 1 mwe); rw [← f0]; rfl]
  refine wl_for (fun c => (nI c, fil c (1 : Int32) mwe)) 20 (fun c hc => ?_) ?_ (by omega)
  · show f_X7_reset_s135 mco msi (nI n) (nI c) (fil c 1 mwe) = _
    unfold f_X7_reset_s135
    rw [if_neg (show ¬ (20 : Int32) ≤ nI c from nI_ge (b := 20) hc (by omega)), ix_nI hc (by decide), nI_clamp (by omega), fil_i, nI_1]
  · show f_X7_reset_s135 mco msi (nI n) (nI 20) (fil 20 1 mwe) = _
    unfold f_X7_reset_s135
    rw [if_pos (show (20 : Int32) ≤ nI 20 by decide)]
    rw [show ((0 : Int32), mco) = (fun c => (nI c, fil c (1 : Int32) mco)) 0 by show _ = (nI 0, fil 0 1 mco); rw [← f0]; rfl]
    refine wl_for (fun c => (nI c, fil c (1 : Int32) mco)) 4 (fun c hc => ?_) ?_ (by omega)
    · show f_X7_reset_s159 msi (nI n) (fil 20 1 mwe) (nI c) (fil c 1 mco) = _
      unfold f_X7_reset_s159
      rw [if_neg (show ¬ (4 : Int32) ≤ nI c from nI_ge (b := 4) hc (by omega)), ix_nI hc (by decide), nI_clamp (by omega), fil_i, nI_1]
    · show f_X7_reset_s159 msi (nI n) (fil 20 1 mwe) (nI 4) (fil 4 1 mco) = _
      unfold f_X7_reset_s159
      have ec : f_X7_cases (nI n) msi = some (nI (pr z 0 n)) := m_cases (rT_ok h) hMT
      rw [if_pos (show (4 : Int32) ≤ nI 4 by decide), ec, bd_go]
theorem and_tt {a b : Bool} (h : (a && b) = true) : a = true ∧ b = true := by cases a <;> cases b <;> first | exact ⟨rfl, rfl⟩ | cases h
theorem or_tt {a b : Bool} (h : (a || b) = true) : a = true ∨ b = true := by cases a <;> cases b <;> first | exact Or.inl rfl | exact Or.inr rfl | cases h
/-- which four sizes make a table -/
def gsz (x1 x2 x3 x4 : Int32) : Bool := inb x1 2 5 && (decide (x2 = 0) || inb x2 2 5) && (decide (x3 = 0) || (!decide (x2 = 0) && inb x3 2 5)) && (decide (x4 = 0) || (!decide (x3 = 0) && inb x4 2 5))
theorem x_isSize (x : Int32) : f_X6_isSize x = some (inb x 2 5) := by
  unfold f_X6_isSize inb
  by_cases h1 : x < 2
  · rw [if_pos h1, decide_eq_false (fun w => w.1 h1)]
  · rw [if_neg h1]
    by_cases h2 : (5 : Int32) < x
    · rw [if_pos h2, decide_eq_false (fun w => w.2 h2)]
    · rw [if_neg h2, decide_eq_true ⟨h1, h2⟩]
theorem m_isSize (x : Int32) : f_X7_isSize x = some (inb x 2 5) := by
  unfold f_X7_isSize
  rw [m_in, bd_go]
theorem x_mayF (x y : Int32) : f_X6_mayFollow x y = some (decide (y = 0) || (!decide (x = 0) && inb y 2 5)) := by
  unfold f_X6_mayFollow
  rw [x_isSize, bd_go]
  by_cases h1 : y = 0
  · rw [if_pos h1, decide_eq_true h1]; rfl
  · rw [if_neg h1, decide_eq_false h1]
    by_cases h2 : x = 0
    · rw [if_pos h2, decide_eq_true h2]; rfl
    · rw [if_neg h2, decide_eq_false h2]
      cases inb y 2 5 <;> rfl
theorem sz_n0 {x : Int32} (h : inb x 2 5 = true) : ¬ x = 0 := fun w => by
  rw [w] at h
  exact absurd h (by decide)
theorem x_rs (cb : Bool) (tc tca tru tdf : Int32) (tsi tst tco twe trw : Nat → Int32) (x1 x2 x3 x4 : Int32) : f_X6_reset cb tc tca tru tdf tsi tst tco twe trw x1 x2 x3 x4 = if gsz x1 x2 x3 x4 = true then (bd9 (f_X4_clearTo tc tca tru tdf tsi tst tco twe trw x1 x2 x3 x4) fun w55_0 w55_1 w55_2 w55_3 w55_4 w55_5 w55_6 w55_7 w55_8 => (some (w55_1, false, w55_0, w55_1, w55_2, w55_3, w55_4, w55_5, w55_6, w55_7, w55_8))) else some ((-1 : Int32), cb, tc, tca, tru, tdf, tsi, tst, tco, twe, trw) := by
  unfold f_X6_reset gsz
  rw [x_isSize, bd_go, x_mayF, bd_go, x_mayF, bd_go, x_mayF, bd_go]
  cases h1 : inb x1 2 5 with
  | false => rfl
  | true =>
    rw [decide_eq_false (sz_n0 h1)]
    cases decide (x2 = 0) <;> cases inb x2 2 5 <;> cases decide (x3 = 0) <;> cases inb x3 2 5 <;> cases decide (x4 = 0) <;> cases inb x4 2 5 <;> rfl
theorem m_rs (mc : Int32) (msi mwe mco : Nat → Int32) (mru mst : Int32) (cb : Bool) (x1 x2 x3 x4 : Int32) : f_X7_reset mc msi mwe mco mru mst cb x1 x2 x3 x4 = if gsz x1 x2 x3 x4 = true then f_X7_reset_j73 msi mwe mco x1 x2 x3 x4 else some ((-1 : Int32), mc, msi, mwe, mco, mru, mst, cb) := by
  unfold f_X7_reset f_X7_reset_j18 f_X7_reset_j29 f_X7_reset_j42 gsz
  rw [m_isSize, bd_go, m_isSize, bd_go, m_isSize, bd_go, m_isSize, bd_go]
  cases h1 : inb x1 2 5 with
  | false => rfl
  | true =>
    by_cases h2 : x2 = 0 <;> by_cases h3 : x3 = 0 <;> by_cases h4 : x4 = 0 <;> simp only [h2, h3, h4, if_true, if_false, decide_true, decide_false, Bool.true_and, Bool.true_or, Bool.false_or, Bool.not_true, Bool.not_false, Bool.false_and, ite_self] <;> cases inb x2 2 5 <;> cases inb x3 2 5 <;> cases inb x4 2 5 <;> first | rfl | simp
def zz (a b c d : Nat) : Nat → Nat := fun i => if i = 0 then a else if i = 1 then b else if i = 2 then c else if i = 3 then d else 0
theorem gsz_z {x1 x2 x3 x4 : Int32} (h : gsz x1 x2 x3 x4 = true) : ∃ n z, ZOk n z ∧ x1 = nI (z 0) ∧ x2 = nI (z 1) ∧ x3 = nI (z 2) ∧ x4 = nI (z 3) ∧ (∀ (msi mwe mco : Nat → Int32), f_X7_reset_j73 msi mwe mco x1 x2 x3 x4 = f_X7_reset_j129 mwe mco (sz4 msi x1 x2 x3 x4) (nI n)) := by
  unfold gsz at h
  obtain ⟨h, h4⟩ := and_tt h
  obtain ⟨h, h3⟩ := and_tt h
  obtain ⟨h1, h2⟩ := and_tt h
  have val : ∀ {x : Int32}, inb x 2 5 = true → ∃ k, (2 ≤ k ∧ k ≤ 5) ∧ x = nI k := fun hx => by
    obtain ⟨j, a, b, c⟩ := inb_nI (a := 2) (b := 5) (by decide) hx (by decide)
    exact ⟨j, ⟨a, b⟩, c⟩
  have j73 : ∀ (msi mwe mco : Nat → Int32), f_X7_reset_j73 msi mwe mco x1 x2 x3 x4 = (if x2 = 0 then f_X7_reset_j129 mwe mco (sz4 msi x1 x2 x3 x4) 1 else if x3 = 0 then f_X7_reset_j129 mwe mco (sz4 msi x1 x2 x3 x4) 2 else if x4 = 0 then f_X7_reset_j129 mwe mco (sz4 msi x1 x2 x3 x4) 3 else f_X7_reset_j129 mwe mco (sz4 msi x1 x2 x3 x4) 4) := by
    intro msi mwe mco
    unfold f_X7_reset_j73
    rw [ix4_0, ix4_1, ix4_2, ix4_3]
    rfl
  obtain ⟨a, ha, rfl⟩ := val h1
  by_cases e2 : x2 = 0
  · rw [e2] at h3
    have e3 : x3 = 0 := by
      rcases or_tt h3 with w | w
      · exact of_decide_eq_true w
      · exact absurd w (by simp)
    rw [e3] at h4
    have e4 : x4 = 0 := by
      rcases or_tt h4 with w | w
      · exact of_decide_eq_true w
      · exact absurd w (by simp)
    refine ⟨1, zz a 0 0 0, ⟨by omega, fun c hc => ?_, fun c hc => ?_⟩, rfl, e2, e3, e4, fun msi mwe mco => ?_⟩
    · obtain rfl : c = 0 := by omega
      exact ha
    · unfold zz
      rw [if_neg (by omega)]
      split <;> (try split) <;> (try split) <;> rfl
    · rw [j73, if_pos e2]; rfl
  · have f2 : inb x2 2 5 = true := by
      rcases or_tt h2 with w | w
      · exact absurd (of_decide_eq_true w) e2
      · exact w
    obtain ⟨b, hb, rfl⟩ := val f2
    by_cases e3 : x3 = 0
    · rw [e3] at h4
      have e4 : x4 = 0 := by
        rcases or_tt h4 with w | w
        · exact of_decide_eq_true w
        · exact absurd w (by simp)
      refine ⟨2, zz a b 0 0, ⟨by omega, fun c hc => ?_, fun c hc => ?_⟩, rfl, rfl, e3, e4, fun msi mwe mco => ?_⟩
      · match c with
        | 0 => exact ha
        | 1 => exact hb
        | c + 2 => omega
      · unfold zz
        rw [if_neg (by omega), if_neg (by omega)]
        split <;> (try split) <;> rfl
      · rw [j73, if_neg e2, if_pos e3]; rfl
    · have f3 : inb x3 2 5 = true := by
        rcases or_tt h3 with w | w
        · exact absurd (of_decide_eq_true w) e3
        · exact (and_tt w).2
      obtain ⟨c, hc3, rfl⟩ := val f3
      by_cases e4 : x4 = 0
      · refine ⟨3, zz a b c 0, ⟨by omega, fun c hc => ?_, fun c hc => ?_⟩, rfl, rfl, rfl, e4, fun msi mwe mco => ?_⟩
        · match c with
          | 0 => exact ha
          | 1 => exact hb
          | 2 => exact hc3
          | c + 3 => omega
        · unfold zz
          rw [if_neg (by omega), if_neg (by omega), if_neg (by omega)]
          split <;> rfl
        · rw [j73, if_neg e2, if_neg e3, if_pos e4]; rfl
      · have f4 : inb x4 2 5 = true := by
          rcases or_tt h4 with w | w
          · exact absurd (of_decide_eq_true w) e4
          · exact (and_tt w).2
        obtain ⟨d, hd, rfl⟩ := val f4
        refine ⟨4, zz a b c d, ⟨by omega, fun c hc => ?_, fun c hc => ?_⟩, rfl, rfl, rfl, rfl, fun msi mwe mco => ?_⟩
        · match c with
          | 0 => exact ha
          | 1 => exact hb
          | 2 => exact hc3
          | 3 => exact hd
          | c + 4 => omega
        · unfold zz
          rw [if_neg (by omega), if_neg (by omega), if_neg (by omega), if_neg (by omega)]
        · rw [j73, if_neg e2, if_neg e3, if_neg e4]; rfl
section Z
variable {T : Tb} {tc tca tru tdf : Int32} {tsi tst tco twe tse tac trw : Nat → Int32} {mc mru mst : Int32} {msi mwe mco mse mac : Nat → Int32}
theorem sim_reset (hT : TOk T) (hX : XT T tc tca tru tdf tsi tst tco twe tse tac trw) (hM : MT T mc mru mst msi mwe mco mse mac) (cb : Bool) (x1 x2 x3 x4 : Int32) : ∃ r cb' tc' tca' tru' tdf' tsi' tst' tco' twe' trw' msi' mwe' mco' T', f_X6_reset cb tc tca tru tdf tsi tst tco twe trw x1 x2 x3 x4 = some (r, cb', tc', tca', tru', tdf', tsi', tst', tco', twe', trw') ∧ f_X7_reset mc msi mwe mco mru mst cb x1 x2 x3 x4 = some (r, tc', msi', mwe', mco', tru', tdf', cb') ∧ TOk T' ∧ XT T' tc' tca' tru' tdf' tsi' tst' tco' twe' tse tac trw' ∧ MT T' tc' tru' tdf' msi' mwe' mco' mse mac ∧ (cb' = true → cb = true ∧ T' = T) := by
  rw [x_rs, m_rs]
  cases h : gsz x1 x2 x3 x4 with
  | false =>
    rw [if_neg (by decide), if_neg (by decide)]
    obtain ⟨a1, a2, a3, a4⟩ := hM
    refine ⟨_, _, _, _, _, _, _, _, _, _, _, _, _, _, T, rfl, ?_, hT, hX, ⟨hX.1, hX.r, hX.2.2.2.1, a4⟩, fun w => ⟨w, rfl⟩⟩
    rw [a1, a2, a3, hX.n, hX.r, hX.2.2.2.1]
  | true =>
    obtain ⟨n, z, hz, e1, e2, e3, e4, hj⟩ := gsz_z h
    obtain ⟨tst', f1, f2⟩ := x_clear hz e1 e2 e3 e4 tc tca tru tdf tsi tst tco twe trw tse tac
    obtain ⟨g1, g2⟩ := m_j129 hz (sz4_r (f := msi) e1 e2 e3 e4) mwe mco mse mac
    rw [if_pos rfl, if_pos rfl, f1, bd9_go, hj, g1]
    exact ⟨_, _, _, _, _, _, _, _, _, _, _, _, _, _, rT n z, rfl, rfl, rT_ok hz, f2, g2, fun w => absurd w (by decide)⟩
end Z
