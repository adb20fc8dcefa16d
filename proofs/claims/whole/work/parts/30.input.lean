/-! the input, and the rules that are read from it -/
def IR (L : Nat) (B : Nat → Nat) (il : Int32) (ib : Nat → Int32) (mty : Int32) (minp : Nat → Int32) : Prop := il = nI L ∧ mty = nI L ∧ L ≤ 40 ∧ (∀ i, i < L → B i < 128) ∧ (∀ i, i < L → ib i = nI (B i)) ∧ ∀ i, i < L → minp i = nI (B i)
theorem IR.zero {B : Nat → Nat} {ib minp : Nat → Int32} : IR 0 B 0 ib 0 minp := ⟨rfl, rfl, by omega, fun i hi => by omega, fun i hi => by omega, fun i hi => by omega⟩
theorem fault_neg {p : Nat} (hp : p ≤ 40) : ¬ (0 : Int32) ≤ (-1000 : Int32) - nI p := by
  rw [fa_le]
  have e : ((-1000 : Int32) - nI p).toInt = -1000 - (p : Int) := by
    rw [Int32.toInt_sub, nI_toInt (by omega), show (-1000 : Int32).toInt = -1000 from rfl, Int.bmod_eq_of_le (by omega) (by omega)]
  rw [e, show (0 : Int32).toInt = 0 from rfl]
  omega
section R
variable {T : Tb} {tc tca tru tdf : Int32} {tsi tst tco twe tse tac trw : Nat → Int32} {mc mru mst : Int32} {msi mwe mco mse mac : Nat → Int32}
/-- the text taken as the rule at place r, where that is a place and the table is not full -/
theorem x_take (hT : TOk T) (hX : XT T tc tca tru tdf tsi tst tco twe tse tac trw) (hM : MT T mc mru mst msi mwe mco mse mac) {L : Nat} {B : Nat → Nat} {il mty : Int32} {ib inp : Nat → Int32} (hI : IR L B il ib mty inp) (cb : Bool) (ra rst rc mra : Int32) (rs mr : Nat → Int32) : ∃ r0 : Int32, ∃ ra' rs' rst' rc' mr' mra', (∀ x1, x1 < 0 ∨ ¬ x1 ≤ nI (tr T) → f_X6_takeRule cb tc tru tsi tse tac trw il ib ra rs rst rc x1 = some ((-3 : Int32), cb, tru, tse, tac, trw, 0, ra', rs', rst', rc')) ∧ (∀ x1, ¬ x1 < 0 → x1 ≤ nI (tr T) → ¬ tr T < 12 → f_X6_takeRule cb tc tru tsi tse tac trw il ib ra rs rst rc x1 = some ((-4 : Int32), cb, tru, tse, tac, trw, 0, ra', rs', rst', rc')) ∧ ∀ r, r ≤ tr T → tr T < 12 → (∃ p, p ≤ 40 ∧ f_X6_takeRule cb tc tru tsi tse tac trw il ib ra rs rst rc (nI r) = some ((-1000 : Int32) - nI p, cb, tru, tse, tac, trw, 0, ra', rs', rst', rc') ∧ f_X7_readRule mc msi inp mr mra mty = some (nI p, mr', mra')) ∨ (∃ tse' tac' trw' mse' mac' T', f_X6_takeRule cb tc tru tsi tse tac trw il ib ra rs rst rc (nI r) = some (0, false, nI (tr T + 1), tse', tac', trw', 0, ra', rs', rst', rc') ∧ f_X7_readRule mc msi inp mr mra mty = some ((-6 : Int32), mr', mra') ∧ f_X7_insert mru mse mac cb mr' mra' (nI r) = some (nI (tr T + 1), mse', mac', false) ∧ TOk T' ∧ XT T' tc tca (nI (tr T + 1)) tdf tsi tst tco twe tse' tac' trw' ∧ MT T' mc (nI (tr T + 1)) mst msi mwe mco mse' mac') := by
  obtain ⟨rfl, rfl, hL, hB, h1, h2⟩ := hI
  have h12 := hT.r12
  obtain ⟨z, ra', rs', rst', rc', mr', mra', hz, key⟩ : ∃ z ra' rs' rst' rc' mr' mra', f_X2_read ra rs rst rc (nI L) ib tc tsi = some (z, ra', rs', rst', rc') ∧ ((∃ p, p ≤ 40 ∧ z = nI p ∧ f_X7_readRule mc msi inp mr mra (nI L) = some (nI p, mr', mra')) ∨ (∃ s' a', SOk T s' ∧ a' ≤ 9 ∧ z = (-1 : Int32) ∧ ra' = nI a' ∧ (∀ c, c < 4 → rs' c = nI (s' c)) ∧ f_X7_readRule mc msi inp mr mra (nI L) = some ((-6 : Int32), mr', mra') ∧ mra' = nI a' ∧ (∀ c, c < 4 → mr' c = nI (s' c)))) := by
    rcases p_read hT hX hM hL hB h1 h2 ra rst rc mra rs mr with ⟨p, ra', rs', rst', rc', mr', mra', k1, k2, k3⟩ | ⟨s', a', rs', rst', rc', mr', k1, k2, k3, k4, k5, k6⟩
    · exact ⟨_, _, _, _, _, _, _, k2, Or.inl ⟨p, k1, rfl, k3⟩⟩
    · exact ⟨_, _, _, _, _, _, _, k3, Or.inr ⟨s', a', k1, k2, rfl, rfl, k4, k5, rfl, k6⟩⟩
  have ht := hX.r
  refine ⟨z, ra', rs', rst', rc', mr', mra', fun x1 hx => ?_, fun x1 hx hx2 h => ?_, fun r hr h => ?_⟩
  · unfold f_X6_takeRule
    rw [hz, bd5_go]
    by_cases e : x1 < 0
    · rw [if_pos e]
    · rw [if_neg e, if_neg (by rw [ht]; exact hx.resolve_left e)]
  · unfold f_X6_takeRule
    rw [hz, bd5_go, if_neg hx, if_pos (by rw [ht]; exact hx2), if_neg (by rw [ht]; exact nI_nlt (b := 12) (by omega) (by omega))]
  · have e0 : f_X6_takeRule cb tc tru tsi tse tac trw (nI L) ib ra rs rst rc (nI r) = (if z < 0 then (bd4 (f_X4_putRule tc tru tsi tse tac trw ra' rs' (nI r)) fun w76_0 w76_1 w76_2 w76_3 => (some ((0 : Int32), false, w76_0, w76_1, w76_2, w76_3, (0 : Int32), ra', rs', rst', rc'))) else (some (((-1000 : Int32) - z), cb, tru, tse, tac, trw, (0 : Int32), ra', rs', rst', rc'))) := by
      unfold f_X6_takeRule
      rw [hz, bd5_go, if_neg (show ¬ nI r < (0 : Int32) from nI_nlt (b := 0) (by omega) (by omega)), if_pos (by rw [ht]; exact nI_le hr (by omega)), if_pos (by rw [ht]; exact nI_lt (b := 12) h (by omega))]
    rcases key with ⟨p, k1, k2, k3⟩ | ⟨s', a', k1, k2, k3, k4, k5, k6, k7, k8⟩
    · left
      refine ⟨p, k1, ?_, k3⟩
      rw [e0, k2, if_neg (show ¬ nI p < (0 : Int32) from nI_nlt (b := 0) (by omega) (by omega))]
    · right
      obtain ⟨t1, t2, t3, q1, q2⟩ := x_put hT hX k1 hr h k2 k5
      obtain ⟨m1, m2, g1, g2⟩ := m_put hT hM k1 hr h k2 k8 cb
      refine ⟨t1, t2, t3, m1, m2, _, ?_, k6, ?_, putT_ok hT k1 hr h k2, q2, g2⟩
      · rw [e0, k3, if_pos (by decide), k4, q1, bd4_go]
      · rw [k7]; exact g1
theorem sim_insertRule (hT : TOk T) (hX : XT T tc tca tru tdf tsi tst tco twe tse tac trw) (hM : MT T mc mru mst msi mwe mco mse mac) {L : Nat} {B : Nat → Nat} {il mty : Int32} {ib inp : Nat → Int32} (hI : IR L B il ib mty inp) (cb : Bool) (ra rst rc mra : Int32) (rs mr : Nat → Int32) (x1 : Int32) : ∃ r cb' tru' tse' tac' trw' mse' mac' T' ra' rs' rst' rc' mr' mra', f_X6_insertRule cb tc tru tsi tse tac trw il ib ra rs rst rc x1 = some (r, cb', tru', tse', tac', trw', 0, ra', rs', rst', rc') ∧ f_X7_insertRule mc msi mru mse mac cb inp mty mr mra x1 = some (r, tru', mse', mac', cb', 0, mr', mra') ∧ TOk T' ∧ XT T' tc tca tru' tdf tsi tst tco twe tse' tac' trw' ∧ MT T' mc tru' mst msi mwe mco mse' mac' ∧ (cb' = true → cb = true ∧ T' = T) := by
  obtain ⟨z, ra', rs', rst', rc', mr', mra', a1, a2, a3⟩ := x_take hT hX hM hI cb ra rst rc mra rs mr
  have h12 := hT.r12
  have hMr := hM.r
  have hXr := hX.r
  have hM2 : MT T mc tru mst msi mwe mco mse mac := by rw [hXr, ← hMr]; exact hM
  unfold f_X6_insertRule f_X7_insertRule f_X7_clearInput
  rw [bd2_go, m_in, bd_go, hMr]
  cases h1 : inb x1 0 (nI (tr T)) with
  | false =>
    rw [if_neg (by decide), a1 x1 (by
      by_cases w : x1 < 0
      · exact Or.inl w
      · right
        intro w2
        have : inb x1 0 (nI (tr T)) = true := decide_eq_true ⟨w, Int32.not_lt.mpr w2⟩
        rw [this] at h1
        exact absurd h1 (by decide)), bd11_go, if_neg (by decide)]
    exact ⟨_, _, _, _, _, _, _, _, T, _, _, _, _, _, _, rfl, by rw [hXr], hT, hX, hM2, fun w => ⟨w, rfl⟩⟩
  | true =>
    obtain ⟨r, _, hr, rfl⟩ := inb_nI (a := 0) (by omega) h1 (by omega)
    rw [if_pos rfl]
    by_cases h : tr T < 12
    · rw [if_neg (show ¬ nI (tr T) = (12 : Int32) from fun w => by have := (nI_eq (b := 12) (by omega) (by decide)).mp w; omega)]
      rcases a3 r hr h with ⟨p, k1, k2, k3⟩ | ⟨t1, t2, t3, m1, m2, T', k1, k2, k3, k4, k5, k6⟩
      · rw [k2, bd11_go, if_neg (fault_neg k1), k3, bd3_go, if_neg (nI_m6 (by omega))]
        exact ⟨_, _, _, _, _, _, _, _, T, _, _, _, _, _, _, rfl, by rw [hXr], hT, hX, hM2, fun w => ⟨w, rfl⟩⟩
      · rw [k1, bd11_go, if_pos (by decide), k2, bd3_go, if_pos rfl, ← hMr, k3, bd4_go]
        exact ⟨_, _, _, _, _, _, _, _, T', _, _, _, _, _, _, rfl, rfl, k4, k5, k6, fun w => absurd w (by decide)⟩
    · rw [if_pos (show nI (tr T) = (12 : Int32) by rw [show tr T = 12 by omega]; rfl), a2 (nI r) (nI_nlt (b := 0) (by omega) (by omega)) (nI_le hr (by omega)) h, bd11_go, if_neg (by decide)]
      exact ⟨_, _, _, _, _, _, _, _, T, _, _, _, _, _, _, rfl, by rw [hXr], hT, hX, hM2, fun w => ⟨w, rfl⟩⟩
theorem sim_addRule (hT : TOk T) (hX : XT T tc tca tru tdf tsi tst tco twe tse tac trw) (hM : MT T mc mru mst msi mwe mco mse mac) {L : Nat} {B : Nat → Nat} {il mty : Int32} {ib inp : Nat → Int32} (hI : IR L B il ib mty inp) (cb : Bool) (ra rst rc mra : Int32) (rs mr : Nat → Int32) : ∃ r cb' tru' tse' tac' trw' mse' mac' T' ra' rs' rst' rc' mr' mra', f_X6_addRule cb tc tru tsi tse tac trw il ib ra rs rst rc = some (r, cb', tru', tse', tac', trw', 0, ra', rs', rst', rc') ∧ f_X7_addRule mc msi mru mse mac cb inp mty mr mra = some (r, tru', mse', mac', cb', 0, mr', mra') ∧ TOk T' ∧ XT T' tc tca tru' tdf tsi tst tco twe tse' tac' trw' ∧ MT T' mc tru' mst msi mwe mco mse' mac' ∧ (cb' = true → cb = true ∧ T' = T) := by
  obtain ⟨z, ra', rs', rst', rc', mr', mra', a1, a2, a3⟩ := x_take hT hX hM hI cb ra rst rc mra rs mr
  have h12 := hT.r12
  have hMr := hM.r
  have hXr := hX.r
  have hM2 : MT T mc tru mst msi mwe mco mse mac := by rw [hXr, ← hMr]; exact hM
  unfold f_X6_addRule f_X7_addRule f_X7_clearInput
  rw [bd2_go, hMr]
  by_cases h : tr T < 12
  · rw [if_neg (show ¬ nI (tr T) = (12 : Int32) from fun w => by have := (nI_eq (b := 12) (by omega) (by decide)).mp w; omega)]
    rcases a3 (tr T) (Nat.le_refl _) h with ⟨p, k1, k2, k3⟩ | ⟨t1, t2, t3, m1, m2, T', k1, k2, k3, k4, k5, k6⟩
    · rw [← hXr] at k2
      rw [k2, bd11_go, if_neg (fault_neg k1), k3, bd3_go, if_neg (nI_m6 (by omega))]
      exact ⟨_, _, _, _, _, _, _, _, T, _, _, _, _, _, _, rfl, by rw [hXr], hT, hX, hM2, fun w => ⟨w, rfl⟩⟩
    · rw [← hXr] at k1
      rw [hMr] at k3
      rw [k1, bd11_go, if_pos (by decide), k2, bd3_go, if_pos rfl, k3, bd4_go]
      exact ⟨_, _, _, _, _, _, _, _, T', _, _, _, _, _, _, rfl, by rw [hXr, show (1 : Int32) = nI 1 from rfl, pk_sub (by omega), Nat.add_sub_cancel], k4, k5, k6, fun w => absurd w (by decide)⟩
  · rw [if_pos (show nI (tr T) = (12 : Int32) by rw [show tr T = 12 by omega]; rfl), a2 tru (by rw [hXr]; exact nI_nlt (b := 0) (by omega) (by omega)) (by rw [hXr]; exact Int32.le_refl _) h, bd11_go, if_neg (by decide)]
    exact ⟨_, _, _, _, _, _, _, _, T, _, _, _, _, _, _, rfl, by rw [hXr], hT, hX, hM2, fun w => ⟨w, rfl⟩⟩
end R
def apx (g : Nat → Int32) (L b k : Nat) : Nat → Int32 := fun j => if L ≤ j ∧ j < L + k then nI b else g j
theorem apx_s (g : Nat → Int32) (L b k : Nat) : upd (apx g L b k) (L + k) (nI b) = apx g L b (k + 1) := by
  funext j
  unfold upd apx
  by_cases e : j = L + k
  · rw [if_pos e, if_pos ⟨by omega, by omega⟩]
  · rw [if_neg e]
    by_cases e2 : L ≤ j ∧ j < L + k
    · rw [if_pos e2, if_pos ⟨e2.1, by omega⟩]
    · rw [if_neg e2, if_neg (fun w => e2 ⟨w.1, by omega⟩)]
theorem apx_0 (g : Nat → Int32) (L b : Nat) : apx g L b 0 = g := by
  funext j
  unfold apx
  rw [if_neg (by omega)]
theorem apx_r {g : Nat → Int32} {L b k : Nat} {B : Nat → Nat} (h : ∀ i, i < L → g i = nI (B i)) : ∀ i, i < L + k → apx g L b k i = nI (if L ≤ i then b else B i) := by
  intro i hi
  unfold apx
  by_cases e : L ≤ i
  · rw [if_pos ⟨e, hi⟩, if_pos e]
  · rw [if_neg (fun w => e w.1), if_neg e, h i (by omega)]
theorem sim_append {L : Nat} {B : Nat → Nat} {il mty : Int32} {ib inp : Nat → Int32} (hI : IR L B il ib mty inp) (x1 x2 : Int32) : ∃ r l' ib' inp' L' B', f_X6_append il ib x1 x2 = some (r, l', ib') ∧ f_X7_append inp mty x1 x2 = some (r, inp', l') ∧ IR L' B' l' ib' l' inp' := by
  have hI0 := hI
  obtain ⟨rfl, rfl, hL, hB, h1, h2⟩ := hI
  unfold f_X6_append f_X7_append
  rw [m_in, bd_go, m_in, bd_go]
  cases e1 : inb x1 0 127 with
  | false =>
    rw [if_neg (show ¬ false = true by decide)]
    have : (if x1 < 0 then (some ((-1 : Int32), nI L, ib)) else (if (127 : Int32) < x1 then (some ((-1 : Int32), nI L, ib)) else (if x2 < 1 then (some ((-1 : Int32), nI L, ib)) else (if x2 ≤ 40 then (if x2 ≤ ((40 : Int32) - nI L) then (bd2 (f_X0_add (nI L) ib x1 x2) fun w46_0 w46_1 => (some (w46_0, w46_0, w46_1))) else (some ((-4 : Int32), nI L, ib))) else (some ((-1 : Int32), nI L, ib)))))) = some ((-1 : Int32), nI L, ib) := by
      by_cases w : x1 < 0
      · rw [if_pos w]
      · by_cases w2 : (127 : Int32) < x1
        · rw [if_neg w, if_pos w2]
        · have : inb x1 0 127 = true := decide_eq_true ⟨w, w2⟩
          rw [this] at e1
          exact absurd e1 (by decide)
    rw [this]
    exact ⟨_, _, _, _, L, B, rfl, rfl, hI0⟩
  | true =>
    obtain ⟨w1, w2⟩ := inb_t e1
    obtain ⟨b, _, hb, rfl⟩ := inb_nI (a := 0) (b := 127) (by decide) e1 (by decide)
    rw [if_pos (show true = true from rfl), if_neg w1, if_neg w2]
    cases e2 : inb x2 1 40 with
    | false =>
      rw [if_neg (show ¬ false = true by decide)]
      by_cases u : x2 < 1
      · rw [if_pos u]
        exact ⟨_, _, _, _, L, B, rfl, rfl, hI0⟩
      · rw [if_neg u, if_neg (fun u2 => by
          have : inb x2 1 40 = true := decide_eq_true ⟨u, Int32.not_lt.mpr u2⟩
          rw [this] at e2
          exact absurd e2 (by decide))]
        exact ⟨_, _, _, _, L, B, rfl, rfl, hI0⟩
    | true =>
      obtain ⟨u1, u2⟩ := inb_t e2
      obtain ⟨m, hm1, hm, rfl⟩ := inb_nI (a := 1) (b := 40) (by decide) e2 (by decide)
      rw [if_pos (show true = true from rfl), if_neg u1, if_pos (Int32.not_lt.mp u2), nI_add, show (40 : Int32) = nI 40 from rfl, pk_sub hL]
      by_cases hlm : L + m ≤ 40
      · rw [if_pos (nI_le hlm (by omega)), if_pos (nI_le (by omega) (by omega))]
        have ex : f_X0_add (nI L) ib (nI b) (nI m) = some (nI (L + m), apx ib L b m) := by
          unfold f_X0_add
          rw [show ((0 : Int32), nI L, ib) = (fun k => (nI k, nI (L + k), apx ib L b k)) 0 by show _ = (nI 0, nI (L + 0), apx ib L b 0); rw [apx_0]; rfl]
          refine wl_for (fun k => (nI k, nI (L + k), apx ib L b k)) m (fun k hk => ?_) ?_ (by omega)
          · show f_X0_add_s2 (nI b) (nI m) (nI k) (nI (L + k)) (apx ib L b k) = _
            unfold f_X0_add_s2
            rw [if_neg (nI_ge hk (by omega)), show (40 : Int32) = nI 40 from rfl, if_neg (nI_ge (show L + k < 40 by omega) (by omega)), ix_nI (by omega) (by decide), nI_clamp (by omega), vp_nar_byte, fa_byte_small (by omega), fa_byte_small (by omega), apx_s, nI_1, nI_1, Nat.add_assoc]
          · show f_X0_add_s2 (nI b) (nI m) (nI m) (nI (L + m)) (apx ib L b m) = _
            unfold f_X0_add_s2
            rw [if_pos (Int32.le_refl _)]
        have em : wl (fun q => f_X7_append_s38 (nI b) (nI m) q.1 q.2.1 q.2.2) 5000 ((0 : Int32), inp, nI L) = some (nI (L + m), apx inp L b m, nI (L + m)) := by
          rw [show ((0 : Int32), inp, nI L) = (fun k => (nI k, apx inp L b k, nI (L + k))) 0 by show _ = (nI 0, apx inp L b 0, nI (L + 0)); rw [apx_0]; rfl]
          refine wl_for (fun k => (nI k, apx inp L b k, nI (L + k))) m (fun k hk => ?_) ?_ (by omega)
          · show f_X7_append_s38 (nI b) (nI m) (nI k) (apx inp L b k) (nI (L + k)) = _
            unfold f_X7_append_s38
            rw [if_neg (nI_ge hk (by omega)), ix_nI (by omega) (by decide), nI_clamp (by omega), apx_s, nI_1, nI_1, Nat.add_assoc]
          · show f_X7_append_s38 (nI b) (nI m) (nI m) (apx inp L b m) (nI (L + m)) = _
            unfold f_X7_append_s38
            rw [if_pos (Int32.le_refl _)]
        rw [ex, bd2_go, em]
        refine ⟨_, _, _, _, L + m, fun i => if L ≤ i then b else B i, rfl, rfl, rfl, rfl, hlm, fun i hi => ?_, apx_r h1, apx_r h2⟩
        show (if L ≤ i then b else B i) < 128
        by_cases e : L ≤ i
        · rw [if_pos e]; omega
        · rw [if_neg e]; exact hB i (by omega)
      · rw [if_neg (nI_ge (by omega) (by omega)), if_neg (nI_ge (by omega) (by omega))]
        exact ⟨_, _, _, _, L, B, rfl, rfl, hI0⟩
