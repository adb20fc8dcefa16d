/-! changes of the table: one value, one cost, the default action; a rule less -/
theorem upd_s {f : Nat → Int32} {k : Nat} {x : Int32} : upd f k x k = x := pk_us
theorem upd_n {f : Nat → Int32} {k j : Nat} {x : Int32} (h : j ≠ k) : upd f k x j = f j := pk_un h
/-- the table but for its index -/
def XT0 (T : Tb) (tc tca tru tdf : Int32) (tsi tst tco twe tse tac : Nat → Int32) : Prop :=
  tc = nI (tn T) ∧ tca = nI (cas T) ∧ tru = nI (tr T) ∧ tdf = dI (td T) ∧ (∀ c, c < 4 → tsi c = nI (tz T c)) ∧ (∀ c, c < tn T → tst c = nI (str T c)) ∧ (∀ c, c < 4 → tco c = nI (tk T c)) ∧ (∀ i, i < 20 → twe i = nI (tw T i)) ∧ (∀ i, i < tr T * 4 → tse i = nI (ts T i)) ∧ (∀ r, r < tr T → tac r = nI (ta T r))
theorem XT0.up {T : Tb} {tc tca tru tdf : Int32} {tsi tst tco twe tse tac trw : Nat → Int32} (h : XT0 T tc tca tru tdf tsi tst tco twe tse tac) (h2 : ∀ c v, c < tn T → v < tz T c → trw (c * 5 + v) = nI (rwb T c v (tr T))) : XT T tc tca tru tdf tsi tst tco twe tse tac trw := ⟨h.1, h.2.1, h.2.2.1, h.2.2.2.1, h.2.2.2.2.1, h.2.2.2.2.2.1, h.2.2.2.2.2.2.1, h.2.2.2.2.2.2.2.1, h.2.2.2.2.2.2.2.2.1, h.2.2.2.2.2.2.2.2.2, h2⟩
theorem XT.dn {T : Tb} {tc tca tru tdf : Int32} {tsi tst tco twe tse tac trw : Nat → Int32} (h : XT T tc tca tru tdf tsi tst tco twe tse tac trw) : XT0 T tc tca tru tdf tsi tst tco twe tse tac := ⟨h.1, h.2.1, h.2.2.1, h.2.2.2.1, h.2.2.2.2.1, h.2.2.2.2.2.1, h.2.2.2.2.2.2.1, h.2.2.2.2.2.2.2.1, h.2.2.2.2.2.2.2.2.1, h.2.2.2.2.2.2.2.2.2.1⟩
/-- the index, with what is written of it -/
def wdx (T : Tb) (g : Nat → Int32) (c v : Nat) : Nat → Int32 := fun i => if (i / 5 < c ∧ i % 5 < tz T (i / 5)) ∨ (i / 5 = c ∧ i % 5 < v) then nI (rwb T (i / 5) (i % 5) (tr T)) else g i
theorem wdx_v {T : Tb} {g : Nat → Int32} {c v : Nat} (hv : v < 5) : upd (wdx T g c v) (c * 5 + v) (nI (rwb T c v (tr T))) = wdx T g c (v + 1) := by
  funext i
  by_cases e : i = c * 5 + v
  · subst e
    rw [upd_s]
    unfold wdx
    have h1 : (c * 5 + v) / 5 = c := by omega
    have h2 : (c * 5 + v) % 5 = v := by omega
    rw [h1, h2, if_pos (Or.inr ⟨rfl, Nat.lt_succ_self v⟩)]
  · rw [upd_n e]
    unfold wdx
    by_cases q : i / 5 = c
    · have h3 : (i % 5 < v) ↔ (i % 5 < v + 1) := by omega
      simp only [q, Nat.lt_irrefl, false_and, true_and, false_or, h3]
    · simp only [q, false_and, or_false]
theorem wdx_c {T : Tb} {g : Nat → Int32} {c : Nat} : wdx T g c (tz T c) = wdx T g (c + 1) 0 := by
  funext i
  unfold wdx
  by_cases q : i / 5 = c
  · have h1 : c < c + 1 := Nat.lt_succ_self c
    have h2 : ¬ c = c + 1 := by omega
    simp only [q, Nat.lt_irrefl, false_and, true_and, false_or, h1, h2, or_false]
  · have h1 : (i / 5 < c + 1) ↔ (i / 5 < c) := by omega
    have h2 : ¬ (i % 5 < 0) := Nat.not_lt_zero _
    simp only [q, false_and, or_false, h1, h2, and_false]
theorem wdx_in {T : Tb} {g : Nat → Int32} {n c v : Nat} (hz : tz T c ≤ 5) (hc : c < n) (hv : v < tz T c) : wdx T g n 0 (c * 5 + v) = nI (rwb T c v (tr T)) := by
  unfold wdx
  have h1 : (c * 5 + v) / 5 = c := by omega
  have h2 : (c * 5 + v) % 5 = v := by omega
  rw [h1, h2, if_pos (Or.inl ⟨hc, hv⟩)]
section X
variable {T : Tb} {tc tca tru tdf : Int32} {tsi tst tco twe tse tac trw : Nat → Int32}
theorem x_index (hT : TOk T) (h : XT0 T tc tca tru tdf tsi tst tco twe tse tac) (g : Nat → Int32) : f_X4_indexRules tc tru tsi tse g = some (wdx T g (tn T) 0) := by
  have h4 := hT.n4
  have h12 := hT.r12
  have e0 : wdx T g 0 0 = g := by
    funext i
    unfold wdx
    rw [if_neg (by omega)]
  unfold f_X4_indexRules
  rw [show ((0 : Int32), g) = (fun c => (nI c, wdx T g c 0)) 0 by show ((0 : Int32), g) = (nI 0, wdx T g 0 0); rw [e0]; rfl]
  refine wl_for (fun c => (nI c, wdx T g c 0)) (tn T) (fun c hc => ?_) ?_ (by omega)
  · show f_X4_indexRules_s2 tc tru tsi tse (nI c) (wdx T g c 0) = _
    have hz := hT.z5 c
    unfold f_X4_indexRules_s2
    rw [h.1, if_neg (nI_ge hc (by omega))]
    refine wl_for (fun v => (nI v, wdx T g c v)) (tz T c) (fun v hv => ?_) ?_ (by omega)
    · show f_X4_indexRules_s12 tru tsi tse (nI c) (nI v) (wdx T g c v) = _
      unfold f_X4_indexRules_s12
      rw [rd_nI (by omega) (by decide), h.2.2.2.2.1 c (by omega), if_neg (nI_ge hv (by omega))]
      refine wl_for (fun m => (nI (rwb T c v m), nI m)) (tr T) (fun m hm => ?_) ?_ (by omega)
      · show f_X4_indexRules_s27 tru tse (nI c) (nI v) (wdx T g c v) (nI (rwb T c v m)) (nI m) = _
        unfold f_X4_indexRules_s27
        rw [h.2.2.1, if_neg (nI_ge hm (by omega)), setOf_x (by omega), bd_go, nm_go, h.2.2.2.2.2.2.2.2.1 _ (by omega), sh_and _ (hT.s32 _) v (by omega), sh_b (by have := Nat.and_le_right (n := ts T (m * 4 + c) >>> v) (m := 1); omega) (by omega), fa_or, nI_1]
        rfl
      · show f_X4_indexRules_s27 tru tse (nI c) (nI v) (wdx T g c v) (nI (rwb T c v (tr T))) (nI (tr T)) = _
        unfold f_X4_indexRules_s27
        rw [h.2.2.1, if_pos (Int32.le_refl _), show (5 : Int32) = nI 5 from rfl, pk_mul, nI_add, ix_nI (by omega) (by decide), nI_clamp (by omega), wdx_v (by omega), nI_1]
    · show f_X4_indexRules_s12 tru tsi tse (nI c) (nI (tz T c)) (wdx T g c (tz T c)) = _
      unfold f_X4_indexRules_s12
      rw [rd_nI (by omega) (by decide), h.2.2.2.2.1 c (by omega), if_pos (Int32.le_refl _), nI_1, wdx_c]
  · show f_X4_indexRules_s2 tc tru tsi tse (nI (tn T)) (wdx T g (tn T) 0) = _
    unfold f_X4_indexRules_s2
    rw [h.1, if_pos (Int32.le_refl _)]
theorem x_index' (hT : TOk T) (h : XT0 T tc tca tru tdf tsi tst tco twe tse tac) (g : Nat → Int32) : ∃ g', f_X4_indexRules tc tru tsi tse g = some g' ∧ XT T tc tca tru tdf tsi tst tco twe tse tac g' := ⟨_, x_index hT h g, h.up (fun c _ hc hv => wdx_in (hT.z5 c) hc hv)⟩
end X
/-! a rule less -/
def shl {α : Type} (w : Nat) (S : Nat → α) (a b : Nat) : Nat → α := fun i => if a ≤ i ∧ i < b then S (i + w) else S i
theorem shl_0 {α : Type} {w : Nat} {S : Nat → α} {a : Nat} : shl w S a a = S := by
  funext i
  unfold shl
  rw [if_neg (by omega)]
theorem shl_s {S : Nat → Int32} {w a b : Nat} (h : a ≤ b) : upd (shl w S a b) b (S (b + w)) = shl w S a (b + 1) := by
  funext i
  by_cases e : i = b
  · subst e
    rw [upd_s]
    unfold shl
    rw [if_pos ⟨h, Nat.lt_succ_self i⟩]
  · rw [upd_n e]
    unfold shl
    have : (a ≤ i ∧ i < b) ↔ (a ≤ i ∧ i < b + 1) := by omega
    simp only [this]
theorem shl_out {α : Type} {S : Nat → α} {w a b i : Nat} (h : b ≤ i) : shl w S a b i = S i := by
  unfold shl
  rw [if_neg (by omega)]
theorem shl_cpy {S : Nat → Int32} {a b : Nat} (h : a ≤ b) : va_cpy (shl 4 S a b) (shl 4 S a b) (b + 4) b 4 = shl 4 S a (b + 4) := by
  funext i
  by_cases q : b ≤ i ∧ i < b + 4
  · rw [pk_cpy_in q.1 q.2, shl_out (by omega)]
    unfold shl
    rw [if_pos ⟨by omega, q.2⟩, show b + 4 + (i - b) = i + 4 by omega]
  · rw [pk_cpy_out (by omega)]
    unfold shl
    have : (a ≤ i ∧ i < b) ↔ (a ≤ i ∧ i < b + 4) := by omega
    simp only [this]
def dropT (T : Tb) (r : Nat) : Tb := (tn T, tz T, tw T, tk T, tr T - 1, (fun i => if r * 4 ≤ i then ts T (i + 4) else ts T i), (fun i => if r ≤ i then ta T (i + 1) else ta T i), td T)
theorem dropT_ok {T : Tb} (h : TOk T) {r : Nat} (hr : r < tr T) : TOk (dropT T r) := by
  refine ⟨h.1, h.2.1, h.2.2.1, h.2.2.2.1, h.2.2.2.2.1, h.2.2.2.2.2.1, ?_, ?_, ?_, ?_, h.d10⟩
  · show tr T - 1 ≤ 12
    have := h.r12
    omega
  · intro q c hq hc
    have hq : q < tr T - 1 := hq
    have hc4 := h.n4
    have hc : c < tn T := hc
    show 0 < (if r * 4 ≤ q * 4 + c then ts T (q * 4 + c + 4) else ts T (q * 4 + c)) ∧ (if r * 4 ≤ q * 4 + c then ts T (q * 4 + c + 4) else ts T (q * 4 + c)) < 2 ^ tz T c
    by_cases e : r * 4 ≤ q * 4 + c
    · rw [if_pos e, show q * 4 + c + 4 = (q + 1) * 4 + c by omega]
      exact h.s (by omega) hc
    · rw [if_neg e]
      exact h.s (by omega) hc
  · intro i
    show (if r * 4 ≤ i then ts T (i + 4) else ts T i) < 32
    by_cases e : r * 4 ≤ i
    · rw [if_pos e]; exact h.s32 _
    · rw [if_neg e]; exact h.s32 _
  · intro i
    show (if r ≤ i then ta T (i + 1) else ta T i) ≤ 9
    by_cases e : r ≤ i
    · rw [if_pos e]; exact h.a9 _
    · rw [if_neg e]; exact h.a9 _
section X
variable {T : Tb} {tc tca tru tdf : Int32} {tsi tst tco twe tse tac trw : Nat → Int32}
theorem x_move {S A : Nat → Int32} {f t : Nat} (hf : f < 12) (ht : t < 12) : f_X4_moveRule S A (nI f) (nI t) = some (va_cpy S S (f * 4) (t * 4) 4, upd A t (A f)) := by
  have e4 : (4 : Int32) = nI 4 := rfl
  unfold f_X4_moveRule cp
  rw [e4, pk_mul, pk_mul, nI_clamp (by omega), nI_clamp (by omega), nI_clamp (by omega), if_pos ⟨nI_pos (by omega), nI_pos (by omega), nI_pos (by decide), by omega, by omega⟩, rd_nI hf (by decide), ix_nI ht (by decide), nI_clamp (by omega)]
theorem x_drop0 (hT : TOk T) (h : XT0 T tc tca tru tdf tsi tst tco twe tse tac) {r : Nat} (hr : r < tr T) (trw : Nat → Int32) : ∃ tse' tac' trw', f_X4_dropRule tc tru tsi tse tac trw (nI r) = some (nI (tr T - 1), tse', tac', trw') ∧ XT (dropT T r) tc tca (nI (tr T - 1)) tdf tsi tst tco twe tse' tac' trw' := by
  have h12 := hT.r12
  have hX0 : XT0 (dropT T r) tc tca (nI (tr T - 1)) tdf tsi tst tco twe (shl 4 tse (r * 4) ((tr T - 1) * 4)) (shl 1 tac r (tr T - 1)) := by
    refine ⟨h.1, h.2.1, rfl, h.2.2.2.1, h.2.2.2.2.1, h.2.2.2.2.2.1, h.2.2.2.2.2.2.1, h.2.2.2.2.2.2.2.1, ?_, ?_⟩
    · intro i hi
      have hi : i < (tr T - 1) * 4 := hi
      show shl 4 tse (r * 4) ((tr T - 1) * 4) i = nI (if r * 4 ≤ i then ts T (i + 4) else ts T i)
      unfold shl
      by_cases e : r * 4 ≤ i
      · rw [if_pos ⟨e, hi⟩, if_pos e, h.2.2.2.2.2.2.2.2.1 _ (by omega)]
      · rw [if_neg (fun w => e w.1), if_neg e, h.2.2.2.2.2.2.2.2.1 _ (by omega)]
    · intro i hi
      have hi : i < tr T - 1 := hi
      show shl 1 tac r (tr T - 1) i = nI (if r ≤ i then ta T (i + 1) else ta T i)
      unfold shl
      by_cases e : r ≤ i
      · rw [if_pos ⟨e, hi⟩, if_pos e, h.2.2.2.2.2.2.2.2.2 _ (by omega)]
      · rw [if_neg (fun w => e w.1), if_neg e, h.2.2.2.2.2.2.2.2.2 _ (by omega)]
  obtain ⟨g', e1, e2⟩ := x_index' (dropT_ok hT hr) hX0 trw
  refine ⟨_, _, g', ?_, e2⟩
  unfold f_X4_dropRule
  rw [show ((nI r + (1 : Int32)), tse, tac) = (fun j => (nI (r + 1 + j), shl 4 tse (r * 4) ((r + j) * 4), shl 1 tac r (r + j))) 0 by show _ = (nI (r + 1), shl 4 tse (r * 4) (r * 4), shl 1 tac r r); rw [shl_0, shl_0, nI_1]]
  refine wl_for (fun j => (nI (r + 1 + j), shl 4 tse (r * 4) ((r + j) * 4), shl 1 tac r (r + j))) (tr T - 1 - r) (fun j hj => ?_) ?_ (by omega)
  · show f_X4_dropRule_s4 tc tru tsi trw (nI (r + 1 + j)) (shl 4 tse (r * 4) ((r + j) * 4)) (shl 1 tac r (r + j)) = _
    unfold f_X4_dropRule_s4
    rw [h.2.2.1, if_neg (nI_ge (by omega) (by omega)), show (1 : Int32) = nI 1 from rfl, pk_sub (by omega), show r + 1 + j - 1 = r + j by omega, x_move (by omega) (by omega), bd2_go, nI_add, show (r + 1 + j) * 4 = (r + j) * 4 + 4 by omega, shl_cpy (by omega), shl_out (show r + j ≤ r + 1 + j by omega), show r + 1 + j = r + j + 1 by omega, shl_s (by omega), show (r + (j + 1)) * 4 = (r + j) * 4 + 4 by omega, show r + 1 + (j + 1) = r + j + 1 + 1 by omega]
    rfl
  · show f_X4_dropRule_s4 tc tru tsi trw (nI (r + 1 + (tr T - 1 - r))) (shl 4 tse (r * 4) ((r + (tr T - 1 - r)) * 4)) (shl 1 tac r (r + (tr T - 1 - r))) = _
    unfold f_X4_dropRule_s4
    rw [show r + 1 + (tr T - 1 - r) = tr T by omega, show r + (tr T - 1 - r) = tr T - 1 by omega, h.2.2.1, if_pos (Int32.le_refl _), show (1 : Int32) = nI 1 from rfl, pk_sub (by omega), e1, bd_go]
theorem x_drop (hT : TOk T) (h : XT T tc tca tru tdf tsi tst tco twe tse tac trw) {r : Nat} (hr : r < tr T) : ∃ tse' tac' trw', f_X4_dropRule tc tru tsi tse tac trw (nI r) = some (nI (tr T - 1), tse', tac', trw') ∧ XT (dropT T r) tc tca (nI (tr T - 1)) tdf tsi tst tco twe tse' tac' trw' := x_drop0 hT h.dn hr trw
end X
section M
variable {T : Tb} {mc mru mst : Int32} {msi mwe mco mse mac : Nat → Int32}
theorem m_delrow {S A : Nat → Int32} {a v : Nat} (ha : a ≤ v * 4) (hv : v < 11) (z : Int32) : wl (fun q => f_X7_delete_s36 (nI v) A z q.1 q.2) 5000 ((0 : Int32), shl 4 S a (v * 4)) = some (.inl (nI (v + 1), shl 4 S a ((v + 1) * 4), upd A v z)) := by
  rw [show ((0 : Int32), shl 4 S a (v * 4)) = (fun c => (nI c, shl 4 S a (v * 4 + c))) 0 from rfl]
  refine wl_for (fun c => (nI c, shl 4 S a (v * 4 + c))) 4 (fun c hc => ?_) ?_ (by omega)
  · show f_X7_delete_s36 (nI v) A z (nI c) (shl 4 S a (v * 4 + c)) = _
    unfold f_X7_delete_s36
    rw [show (4 : Int32) = nI 4 from rfl, if_neg (nI_ge hc (by omega)), nI_1, pk_mul, pk_mul, nI_add, nI_add, rd_nI (by omega) (by decide), ix_nI (by omega) (by decide), nI_clamp (by omega), shl_out (by omega), show 4 * (v + 1) + c = (v * 4 + c) + 4 by omega, show 4 * v + c = v * 4 + c by omega, shl_s (by omega), nI_1]
    rfl
  · show f_X7_delete_s36 (nI v) A z (nI 4) (shl 4 S a (v * 4 + 4)) = _
    unfold f_X7_delete_s36
    rw [show (4 : Int32) = nI 4 from rfl, if_pos (Int32.le_refl _), nI_1, nI_clamp (by omega), show (v + 1) * 4 = v * 4 + 4 by omega]
theorem m_del (hT : TOk T) (h : MT T mc mru mst msi mwe mco mse mac) {r : Nat} (hr : r < tr T) (b : Bool) : ∃ mse' mac', f_X7_delete mru mse mac b (nI r) = some (nI (tr T - 1), mse', mac', false) ∧ MT (dropT T r) mc (nI (tr T - 1)) mst msi mwe mco mse' mac' := by
  have h12 := hT.r12
  refine ⟨shl 4 mse (r * 4) ((tr T - 1) * 4), shl 1 mac r (tr T - 1), ?_, h.1, rfl, h.2.2.1, h.2.2.2.1, h.2.2.2.2.1, h.2.2.2.2.2.1, ?_, ?_⟩
  · unfold f_X7_delete
    rw [show (nI r, mse, mac) = (fun j => (nI (r + j), shl 4 mse (r * 4) ((r + j) * 4), shl 1 mac r (r + j))) 0 by show _ = (nI r, shl 4 mse (r * 4) (r * 4), shl 1 mac r r); rw [shl_0, shl_0]]
    refine wl_for (fun j => (nI (r + j), shl 4 mse (r * 4) ((r + j) * 4), shl 1 mac r (r + j))) (tr T - 1 - r) (fun j hj => ?_) ?_ (by omega)
    · show f_X7_delete_s12 mru (nI (r + j)) (shl 4 mse (r * 4) ((r + j) * 4)) (shl 1 mac r (r + j)) = _
      unfold f_X7_delete_s12
      rw [h.r, show (1 : Int32) = nI 1 from rfl, pk_sub (by omega), if_neg (nI_ge (by omega) (by omega)), nI_add, rd_nI (by omega) (by decide), ix_nI (by omega) (by decide), m_delrow (by omega) (by omega), shl_out (by omega), shl_s (by omega)]
      rfl
    · show f_X7_delete_s12 mru (nI (r + (tr T - 1 - r))) (shl 4 mse (r * 4) ((r + (tr T - 1 - r)) * 4)) (shl 1 mac r (r + (tr T - 1 - r))) = _
      unfold f_X7_delete_s12
      rw [show r + (tr T - 1 - r) = tr T - 1 by omega, h.r, show (1 : Int32) = nI 1 from rfl, pk_sub (by omega), if_pos (Int32.le_refl _)]
  · intro i hi
    have hi : i < (tr T - 1) * 4 := hi
    show shl 4 mse (r * 4) ((tr T - 1) * 4) i = nI (if r * 4 ≤ i then ts T (i + 4) else ts T i)
    unfold shl
    by_cases e : r * 4 ≤ i
    · rw [if_pos ⟨e, hi⟩, if_pos e, h.s (by omega)]
    · rw [if_neg (fun w => e w.1), if_neg e, h.s (by omega)]
  · intro i hi
    have hi : i < tr T - 1 := hi
    show shl 1 mac r (tr T - 1) i = nI (if r ≤ i then ta T (i + 1) else ta T i)
    unfold shl
    by_cases e : r ≤ i
    · rw [if_pos ⟨e, hi⟩, if_pos e, h.a (by omega)]
    · rw [if_neg (fun w => e w.1), if_neg e, h.a (by omega)]
end M
/-! one cost, the default action, one weight -/
def tkT (T : Tb) (c k : Nat) : Tb := (tn T, tz T, tw T, (fun i => if i = c then k else tk T i), tr T, ts T, ta T, td T)
def tdT (T : Tb) (d : Nat) : Tb := (tn T, tz T, tw T, tk T, tr T, ts T, ta T, d)
def twT (T : Tb) (i w : Nat) : Tb := (tn T, tz T, (fun j => if j = i then w else tw T j), tk T, tr T, ts T, ta T, td T)
theorem tkT_ok {T : Tb} (h : TOk T) {c k : Nat} (h1 : 1 ≤ k) (h2 : k ≤ 9) : TOk (tkT T c k) := by
  refine ⟨h.1, h.2.1, h.2.2.1, h.2.2.2.1, h.2.2.2.2.1, ?_, h.r12, h.2.2.2.2.2.2.2.1, h.s32, h.a9, h.d10⟩
  intro i
  show 1 ≤ (if i = c then k else tk T i) ∧ (if i = c then k else tk T i) ≤ 9
  by_cases e : i = c
  · rw [if_pos e]; exact ⟨h1, h2⟩
  · rw [if_neg e]; exact h.k i
theorem tdT_ok {T : Tb} (h : TOk T) {d : Nat} (h1 : d ≤ 10) : TOk (tdT T d) := ⟨h.1, h.2.1, h.2.2.1, h.2.2.2.1, h.2.2.2.2.1, h.2.2.2.2.2.1, h.r12, h.2.2.2.2.2.2.2.1, h.s32, h.a9, h1⟩
section B
variable {T : Tb} {tc tca tru tdf : Int32} {tsi tst tco twe tse tac trw : Nat → Int32} {mc mru mst : Int32} {msi mwe mco mse mac : Nat → Int32}
theorem rwb_same {T T' : Tb} (h : ts T' = ts T) (c v : Nat) : ∀ m, rwb T' c v m = rwb T c v m
  | 0 => rfl
  | m + 1 => by rw [rwb, rwb, rwb_same h c v m, h]
theorem up_rel {f : Nat → Int32} {g : Nat → Nat} {n i v : Nat} (h : ∀ j, j < n → f j = nI (g j)) : ∀ j, j < n → upd f i (nI v) j = nI (if j = i then v else g j) := by
  intro j hj
  by_cases e : j = i
  · subst e; rw [upd_s, if_pos rfl]
  · rw [upd_n e, if_neg e, h j hj]
theorem sim_setCost (hT : TOk T) (hX : XT T tc tca tru tdf tsi tst tco twe tse tac trw) (hM : MT T mc mru mst msi mwe mco mse mac) (cb : Bool) (x1 x2 : Int32) : ∃ r cb' tco' mco' T', f_X6_setCost cb tc tco x1 x2 = some (r, cb', tco') ∧ f_X7_setCost mc mco cb x1 x2 = some (r, mco', cb') ∧ TOk T' ∧ XT T' tc tca tru tdf tsi tst tco' twe tse tac trw ∧ MT T' mc mru mst msi mwe mco' mse mac ∧ (cb' = true → cb = true ∧ T' = T) := by
  have h4 := hT.n4
  unfold f_X6_setCost f_X7_setCost
  rw [hX.n, x_hasC, bd_go, m_isCond hT hM, bd_go, ← hX.n]
  cases h1 : hasb (tn T) x1 with
  | false => exact ⟨_, _, _, _, T, rfl, rfl, hT, hX, hM, fun w => ⟨w, rfl⟩⟩
  | true =>
    obtain ⟨c, hc, rfl⟩ := hb_t (by omega) h1
    rw [if_pos rfl, if_pos rfl, m_in, bd_go]
    by_cases c1 : x2 < 1
    · rw [if_pos c1, if_neg (fun w => (inb_t w).1 c1)]
      exact ⟨_, _, _, _, T, rfl, rfl, hT, hX, hM, fun w => ⟨w, rfl⟩⟩
    · rw [if_neg c1]
      by_cases c2 : x2 ≤ 9
      · have hi : inb x2 1 9 = true := decide_eq_true ⟨c1, fun w => Int32.lt_irrefl (Int32.lt_of_lt_of_le w c2)⟩
        obtain ⟨k, hk1, hk9, rfl⟩ := inb_nI (a := 1) (b := 9) (by decide) hi (by decide)
        rw [if_pos c2, if_pos hi, rd_nI (by omega) (by decide), rd_nI (by omega) (by decide), nI_clamp (by omega), hX.k (by omega), hM.k (by omega)]
        exact ⟨_, _, _, _, tkT T c k, rfl, rfl, tkT_ok hT hk1 hk9, ⟨hX.1, hX.2.1, hX.2.2.1, hX.2.2.2.1, hX.2.2.2.2.1, hX.2.2.2.2.2.1, up_rel (fun j hj => hX.k hj), hX.2.2.2.2.2.2.2.1, hX.2.2.2.2.2.2.2.2.1, hX.2.2.2.2.2.2.2.2.2.1, fun c v hc hv => (hX.rw hc hv).trans (by rw [rwb_same (T := T) (T' := tkT T _ _) rfl]; rfl)⟩, ⟨hM.1, hM.2.1, hM.2.2.1, hM.2.2.2.1, hM.2.2.2.2.1, up_rel (fun j hj => hM.k hj), hM.2.2.2.2.2.2.1, hM.2.2.2.2.2.2.2⟩, fun w => absurd w (by decide)⟩
      · rw [if_neg c2, if_neg (fun w => (inb_t w).2 (Int32.not_le.mp c2))]
        exact ⟨_, _, _, _, T, rfl, rfl, hT, hX, hM, fun w => ⟨w, rfl⟩⟩
theorem inb_d {x : Int32} (h : inb x (-1) 9 = true) : ∃ d, d ≤ 10 ∧ x = dI d := by
  obtain ⟨h1, h2⟩ := inb_t h
  by_cases e : x < 0
  · refine ⟨0, by omega, ?_⟩
    rw [fa_lt] at h1 e
    have e1 : (-1 : Int32).toInt = -1 := rfl
    have e2 : (0 : Int32).toInt = 0 := rfl
    apply (fa_eq _ _).mpr
    show x.toInt = (-1 : Int32).toInt
    omega
  · obtain ⟨j, hj, rfl⟩ := nI_of e
    rw [show (9 : Int32) = nI 9 from rfl, nI_ltI (by decide) hj] at h2
    exact ⟨j + 1, by omega, rfl⟩
theorem sim_setDefault (hT : TOk T) (hX : XT T tc tca tru tdf tsi tst tco twe tse tac trw) (hM : MT T mc mru mst msi mwe mco mse mac) (cb : Bool) (x1 : Int32) : ∃ r cb' tdf' mst' T', f_X6_setDefault cb tdf x1 = some (r, cb', tdf') ∧ f_X7_setDefault mst cb x1 = some (r, mst', cb') ∧ TOk T' ∧ XT T' tc tca tru tdf' tsi tst tco twe tse tac trw ∧ MT T' mc mru mst' msi mwe mco mse mac ∧ (cb' = true → cb = true ∧ T' = T) := by
  unfold f_X6_setDefault f_X7_setDefault
  rw [x_isAct, bd_go, m_in, bd_go]
  cases h1 : inb x1 (-1) 9 with
  | false => exact ⟨_, _, _, _, T, rfl, rfl, hT, hX, hM, fun w => ⟨w, rfl⟩⟩
  | true =>
    obtain ⟨d, hd, rfl⟩ := inb_d h1
    rw [if_pos rfl, if_pos rfl, hX.d, hM.d, ans_dI hT.d10, bd_go, told_dI hT.d10, bd_go]
    exact ⟨_, _, _, _, tdT T d, rfl, rfl, tdT_ok hT hd, ⟨hX.1, hX.2.1, hX.2.2.1, rfl, hX.2.2.2.2.1, hX.2.2.2.2.2.1, hX.2.2.2.2.2.2.1, hX.2.2.2.2.2.2.2.1, hX.2.2.2.2.2.2.2.2.1, hX.2.2.2.2.2.2.2.2.2.1, fun c v hc hv => (hX.rw hc hv).trans (by rw [rwb_same (T := T) (T' := tdT T d) rfl]; rfl)⟩, ⟨hM.1, hM.2.1, rfl, hM.2.2.2.1, hM.2.2.2.2.1, hM.2.2.2.2.2.1, hM.2.2.2.2.2.2.1, hM.2.2.2.2.2.2.2⟩, fun w => absurd w (by decide)⟩
theorem x_hasV (hT : TOk T) (hX : XT T tc tca tru tdf tsi tst tco twe tse tac trw) {c : Nat} (hc : c < tn T) (x : Int32) : f_X4_hasValue tc tsi (nI c) x = some (hasb (tz T c) x) := by
  have h4 := hT.n4
  have hz := hT.z5 c
  unfold f_X4_hasValue
  rw [hX.n, x_hasC, bd_go, hb_nI (by omega) hc, if_pos rfl, rd_nI (by omega) (by decide), hX.z (by omega)]
  exact x_hasC (tz T c) x
theorem x_hasV_f (hX : XT T tc tca tru tdf tsi tst tco twe tse tac trw) {y : Int32} (h : hasb (tn T) y = false) (x : Int32) : f_X4_hasValue tc tsi y x = some false := by
  unfold f_X4_hasValue
  rw [hX.n, x_hasC, bd_go, h, if_neg (by decide)]
theorem twT_ok {T : Tb} (h : TOk T) {c v w : Nat} (hw : w ≤ 9) (hv : v < tz T c) (hp : 0 < wsm T c - tw T (c * 5 + v) + w) : TOk (twT T (c * 5 + v) w) := by
  refine ⟨h.1, h.2.1, h.2.2.1, ?_, ?_, h.2.2.2.2.2.1, h.r12, h.2.2.2.2.2.2.2.1, h.s32, h.a9, h.d10⟩
  · intro i
    show (if i = c * 5 + v then w else tw T i) ≤ 9
    by_cases e : i = c * 5 + v
    · rw [if_pos e]; exact hw
    · rw [if_neg e]; exact h.w9 i
  · intro c' hc'
    show 0 < fb_sm (fun u => if c' * 5 + u = c * 5 + v then w else tw T (c' * 5 + u)) (tz T c')
    have hz := h.z5 c
    have hz' := h.z5 c'
    by_cases e : c' = c
    · subst e
      have h1 := fb_sm_upd (fun u => tw T (c' * 5 + u)) w hv
      have h2 : fb_sm (fun u => if c' * 5 + u = c' * 5 + v then w else tw T (c' * 5 + u)) (tz T c') = fb_sm (fun k => if k = v then w else tw T (c' * 5 + k)) (tz T c') := fb_sm_cong (fun k hk => by
        by_cases q : k = v
        · subst q; rw [if_pos rfl, if_pos rfl]
        · rw [if_neg (by omega), if_neg q])
      have h3 : wsm T c' = fb_sm (fun u => tw T (c' * 5 + u)) (tz T c') := rfl
      rw [h2]
      have h4 : tw T (c' * 5 + v) ≤ fb_sm (fun u => tw T (c' * 5 + u)) (tz T c') := by
        have := fb_sm_part (fun u => tw T (c' * 5 + u)) hv
        omega
      have h1' : fb_sm (fun k => if k = v then w else tw T (c' * 5 + k)) (tz T c') + tw T (c' * 5 + v) = fb_sm (fun u => tw T (c' * 5 + u)) (tz T c') + w := h1
      omega
    · have h2 : fb_sm (fun u => if c' * 5 + u = c * 5 + v then w else tw T (c' * 5 + u)) (tz T c') = wsm T c' := fb_sm_cong (fun k hk => by rw [if_neg (by omega)])
      rw [h2]
      exact h.ws0 hc'
theorem sim_setWeight (hT : TOk T) (hX : XT T tc tca tru tdf tsi tst tco twe tse tac trw) (hM : MT T mc mru mst msi mwe mco mse mac) (cb : Bool) (x1 x2 x3 : Int32) : ∃ r cb' twe' mwe' T', f_X6_setWeight cb tc tsi twe x1 x2 x3 = some (r, cb', twe') ∧ f_X7_setWeight mc msi mwe cb x1 x2 x3 = some (r, mwe', cb') ∧ TOk T' ∧ XT T' tc tca tru tdf tsi tst tco twe' tse tac trw ∧ MT T' mc mru mst msi mwe' mco mse mac ∧ (cb' = true → cb = true ∧ T' = T) := by
  have h4 := hT.n4
  unfold f_X6_setWeight f_X7_setWeight
  rw [m_isCond hT hM, bd_go]
  cases h1 : hasb (tn T) x1 with
  | false =>
    rw [x_hasV_f hX h1, bd_go]
    exact ⟨_, _, _, _, T, rfl, rfl, hT, hX, hM, fun w => ⟨w, rfl⟩⟩
  | true =>
    obtain ⟨c, hc, rfl⟩ := hb_t (by omega) h1
    have hz := hT.z5 c
    rw [x_hasV hT hX hc, bd_go, if_pos rfl, rd_nI (by omega) (by decide), hM.z (by omega), m_in0 (by omega), bd_go]
    cases h2 : hasb (tz T c) x2 with
    | false => exact ⟨_, _, _, _, T, rfl, rfl, hT, hX, hM, fun w => ⟨w, rfl⟩⟩
    | true =>
      obtain ⟨v, hv, rfl⟩ := hb_t (by omega) h2
      have hwl : wsm T c ≤ 45 := wsm_le hT c (tz T c) hz
      have hw9 := hT.w9 (c * 5 + v)
      have hpart : tw T (c * 5 + v) ≤ wsm T c := by
        have := fb_sm_part (fun u => tw T (c * 5 + u)) hv
        have e : wsm T c = fb_sm (fun u => tw T (c * 5 + u)) (tz T c) := rfl
        omega
      rw [if_pos rfl, if_pos rfl, show (5 : Int32) = nI 5 from rfl, pk_mul, pk_mul, nI_add, nI_add, show 5 * c + v = c * 5 + v by omega, rd_nI (by omega) (by decide), rd_nI (by omega) (by decide), x_weightSum hT hX hc, bd_go, m_in, bd_go, hX.w (by omega), hM.w (by omega), nI_clamp (by omega)]
      have key : ∀ w, w ≤ 9 → 0 < wsm T c - tw T (c * 5 + v) + w → TOk (twT T (c * 5 + v) w) ∧ XT (twT T (c * 5 + v) w) tc tca tru tdf tsi tst tco (upd twe (c * 5 + v) (nI w)) tse tac trw ∧ MT (twT T (c * 5 + v) w) mc mru mst msi (upd mwe (c * 5 + v) (nI w)) mco mse mac := fun w hw hp => ⟨twT_ok hT hw hv hp, ⟨hX.1, hX.2.1, hX.2.2.1, hX.2.2.2.1, hX.2.2.2.2.1, hX.2.2.2.2.2.1, hX.2.2.2.2.2.2.1, up_rel (fun j hj => hX.w hj), hX.2.2.2.2.2.2.2.2.1, hX.2.2.2.2.2.2.2.2.2.1, fun c v hc hv => (hX.rw hc hv).trans (by rw [rwb_same (T := T) (T' := twT T _ _) rfl]; rfl)⟩, ⟨hM.1, hM.2.1, hM.2.2.1, hM.2.2.2.1, up_rel (fun j hj => hM.w hj), hM.2.2.2.2.2.1, hM.2.2.2.2.2.2.1, hM.2.2.2.2.2.2.2⟩⟩
      by_cases c1 : x3 < 0
      · rw [if_pos c1, if_pos c1, if_neg (fun w => (inb_t w).1 c1), ite_self]
        exact ⟨_, _, _, _, T, rfl, rfl, hT, hX, hM, fun w => ⟨w, rfl⟩⟩
      · rw [if_neg c1, if_neg c1]
        by_cases c2 : 9 < x3
        · rw [if_pos c2, if_pos c2, if_neg (fun w => (inb_t w).2 c2), ite_self]
          exact ⟨_, _, _, _, T, rfl, rfl, hT, hX, hM, fun w => ⟨w, rfl⟩⟩
        · rw [if_neg c2, if_neg c2]
          have hi : inb x3 0 9 = true := decide_eq_true ⟨c1, c2⟩
          obtain ⟨w, -, hw, rfl⟩ := inb_nI (a := 0) (b := 9) (by decide) hi (by decide)
          rw [if_pos hi, m_weightSum hT hM hc, bd_go, pk_sub hpart, nI_add, ite_self]
          by_cases d : wsm T c - tw T (c * 5 + v) + w = 0
          · rw [if_pos (show nI (wsm T c) = nI (tw T (c * 5 + v)) by rw [show wsm T c = tw T (c * 5 + v) by omega]), if_pos (show nI w = 0 by rw [show w = 0 by omega]; rfl), if_pos (by rw [d]; rfl)]
            exact ⟨_, _, _, _, T, rfl, rfl, hT, hX, hM, fun w => ⟨w, rfl⟩⟩
          · obtain ⟨k1, k2, k3⟩ := key w hw (by omega)
            rw [if_neg (fun q => d ((nI_0i (by omega)).mp q))]
            by_cases d1 : nI (wsm T c) = nI (tw T (c * 5 + v))
            · rw [if_pos d1]
              have d1' := (nI_eq (by omega) (by omega)).mp d1
              rw [if_neg (fun q => d (by have := (nI_0i (show w < 2 ^ 31 by omega)).mp q; omega))]
              exact ⟨_, _, _, _, _, rfl, rfl, k1, k2, k3, fun w => absurd w (by decide)⟩
            · rw [if_neg d1]
              exact ⟨_, _, _, _, _, rfl, rfl, k1, k2, k3, fun w => absurd w (by decide)⟩
end B
