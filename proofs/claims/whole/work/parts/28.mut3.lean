/-! mergeRules, a rule more -/
theorem wl_steps {σ α : Type} {f : σ → Option (σ ⊕ α)} (s : Nat → σ) (n : Nat) : ∀ j, (∀ i, i < j → f (s i) = some (.inl (s (i + 1)))) → wl f (n + j) (s 0) = wl f n (s j)
  | 0, _ => rfl
  | j + 1, h => by
    have h1 := wl_steps s (n + 1) j (fun i hi => h i (by omega))
    rw [show n + (j + 1) = n + 1 + j by omega, h1, wl_c (h j (by omega))]
section B
variable {T : Tb} {tc tca tru tdf : Int32} {tsi tst tco twe tse tac trw : Nat → Int32} {mc mru mst : Int32} {msi mwe mco mse mac : Nat → Int32}
theorem mgF_c {T : Tb} {m : Nat} (q : fmg T < tr T - 1) : mgF (m + 1 + 1) T = mgF (m + 1) (mgT T (fmg T)) := by
  show (if fmg T < tr T - 1 then mgF (m + 1) (mgT T (fmg T)) else T) = _
  rw [if_pos q]
theorem mgB_c {T : Tb} {b : Bool} {m : Nat} (q : fmg T < tr T - 1) : mgB (m + 1 + 1) T b = mgB (m + 1) (mgT T (fmg T)) false := by
  show (if fmg T < tr T - 1 then mgB (m + 1) (mgT T (fmg T)) false else b) = _
  rw [if_pos q]
theorem fmg_lt_iff : fmg T < tr T - 1 → fmg T + 1 < tr T := fun h => by omega
theorem x_mgs : ∀ (m i : Nat) (T : Tb) (b : Bool) (tru : Int32) (tse tac trw : Nat → Int32) (n : Nat), TOk T → tr T ≤ m + 1 → i + m ≤ 11 → m < n → XT T tc tca tru tdf tsi tst tco twe tse tac trw → ∃ tse' tac' trw', wl (fun q => f_X6_mergeRules_s2 tc tsi q.1 q.2.1 q.2.2.1 q.2.2.2.1 q.2.2.2.2.1 q.2.2.2.2.2) n (nI i, b, tru, tse, tac, trw) = some (nI (tr (mgF (m + 1) T)), mgB (m + 1) T b, nI (tr (mgF (m + 1) T)), tse', tac', trw') ∧ XT (mgF (m + 1) T) tc tca (nI (tr (mgF (m + 1) T))) tdf tsi tst tco twe tse' tac' trw' := by
  intro m
  induction m with
  | zero =>
    intro i T b tru tse tac trw n hT ht hi hn hX
    obtain ⟨n, rfl⟩ : ∃ k, n = k + 1 := ⟨n - 1, by omega⟩
    have q : ¬ fmg T < tr T - 1 := by omega
    have e := hX.r
    subst e
    rw [mgF, mgB, if_neg q, if_neg q]
    refine ⟨_, _, _, wl_r ?_, hX⟩
    show f_X6_mergeRules_s2 tc tsi (nI i) b (nI (tr T)) tse tac trw = _
    unfold f_X6_mergeRules_s2
    rw [show (12 : Int32) = nI 12 from rfl, if_neg (nI_ge (by omega) (by decide)), x_fmg hT hX, bd_go, if_neg q, if_neg (by decide)]
  | succ m ih =>
    intro i T b tru tse tac trw n hT ht hi hn hX
    obtain ⟨n, rfl⟩ : ∃ k, n = k + 1 := ⟨n - 1, by omega⟩
    have h12 := hT.r12
    by_cases q : fmg T < tr T - 1
    · obtain ⟨a1, a2, a3, e1, e2⟩ := x_merge hT hX (fmg_lt_iff q)
      have hs : f_X6_mergeRules_s2 tc tsi (nI i) b tru tse tac trw = some (.inl (nI (i + 1), false, nI (tr T - 1), a1, a2, a3)) := by
        unfold f_X6_mergeRules_s2
        rw [show (12 : Int32) = nI 12 from rfl, if_neg (nI_ge (by omega) (by decide)), x_fmg hT hX, bd_go, if_pos q, if_pos (nI_pos' (by omega)), e1, bd4_go, nI_1]
      obtain ⟨c1, c2, c3, f1, f2⟩ := ih (i + 1) (mgT T (fmg T)) false (nI (tr T - 1)) a1 a2 a3 n (mgT_ok hT (fmg_lt_iff q)) (by show tr T - 1 ≤ m + 1; omega) (by omega) (by omega) e2
      refine ⟨c1, c2, c3, ?_, ?_⟩
      · rw [wl_c (w := (nI (i + 1), false, nI (tr T - 1), a1, a2, a3)) hs, f1, mgF_c q, mgB_c q]
      · rw [mgF_c q]; exact f2
    · have e := hX.r
      subst e
      rw [mgF, mgB, if_neg q, if_neg q]
      refine ⟨_, _, _, wl_r ?_, hX⟩
      show f_X6_mergeRules_s2 tc tsi (nI i) b (nI (tr T)) tse tac trw = _
      unfold f_X6_mergeRules_s2
      rw [show (12 : Int32) = nI 12 from rfl, if_neg (nI_ge (by omega) (by decide)), x_fmg hT hX, bd_go, if_neg q, if_neg (by decide)]
theorem m_can (hT : TOk T) (hM : MT T mc mru mst msi mwe mco mse mac) {r : Nat} (hr : r + 1 < tr T) : f_X7_canMerge mc mse mac (nI r) = some (mrg T r) := by
  have h12 := hT.r12
  have h4 := hT.n4
  unfold f_X7_canMerge
  refine wl_for (fun c => (nI (dff T r c), nI c)) (tn T) (fun c hc => ?_) ?_ (by omega)
  · show f_X7_canMerge_s4 mc mse mac (nI r) (nI (dff T r c)) (nI c) = _
    have a1 := hT.s32 (r * 4 + c)
    have a2 := hT.s32 ((r + 1) * 4 + c)
    unfold f_X7_canMerge_s4
    rw [hM.n, if_neg (nI_ge hc (by omega)), show (4 : Int32) = nI 4 from rfl, nI_1, pk_mul, pk_mul, nI_add, nI_add, rd_nI (by omega) (by decide), rd_nI (by omega) (by decide), show 4 * r + c = r * 4 + c by omega, show 4 * (r + 1) + c = (r + 1) * 4 + c by omega, hM.s (by omega), hM.s (by omega), dff]
    by_cases q : ts T (r * 4 + c) = ts T ((r + 1) * 4 + c)
    · rw [if_pos (by rw [q]), if_pos q, nI_1, show (0 : Int32) = nI 0 from rfl, nI_add]
    · rw [if_neg (fun w => q ((nI_eq (by omega) (by omega)).mp w)), if_neg q, nI_1, nI_1]
  · show f_X7_canMerge_s4 mc mse mac (nI r) (nI (dff T r (tn T))) (nI (tn T)) = _
    have a1 := hT.a9 r
    have a2 := hT.a9 (r + 1)
    have hd := dff_le T r (tn T)
    unfold f_X7_canMerge_s4 mrg
    rw [hM.n, if_pos (Int32.le_refl _), rd_nI (by omega) (by decide), nI_1, rd_nI (by omega) (by decide), hM.a (by omega), hM.a (by omega)]
    by_cases q : ta T r = ta T (r + 1)
    · rw [if_pos (by rw [q]), decide_eq_true q, Bool.true_and, show (1 : Int32) = nI 1 from rfl]
      by_cases q2 : dff T r (tn T) ≤ 1
      · rw [if_neg (nI_nlt q2 (by decide)), decide_eq_true q2]
      · rw [if_pos (nI_lt (by omega) (by omega)), decide_eq_false q2]
    · rw [if_neg (fun w => q ((nI_eq (by omega) (by omega)).mp w)), decide_eq_false q, Bool.false_and]
theorem m_merge (hT : TOk T) (hM : MT T mc mru mst msi mwe mco mse mac) {r : Nat} (hr : r + 1 < tr T) (b : Bool) : ∃ mse' mac', wl (fun q => f_X7_mergeRules_s22 mc (nI r) mru mac b q.1 q.2) 5000 ((0 : Int32), mse) = some (.inl ((0 : Int32), nI (tr T - 1), mse', mac', false)) ∧ MT (mgT T r) mc (nI (tr T - 1)) mst msi mwe mco mse' mac' := by
  have h12 := hT.r12
  have h4 := hT.n4
  have hM0 : MT (uniT T r) mc mru mst msi mwe mco (uniF mse r (tn T)) mac := ⟨hM.1, hM.2.1, hM.2.2.1, hM.2.2.2.1, hM.2.2.2.2.1, hM.2.2.2.2.2.1, uni_rel rfl hr h4 (fun i hi => hM.s hi), hM.2.2.2.2.2.2.2⟩
  obtain ⟨a1, a2, e1, e2⟩ := m_del (uniT_ok hT hr) hM0 (show r + 1 < tr (uniT T r) from hr) b
  refine ⟨a1, a2, ?_, e2⟩
  rw [show ((0 : Int32), mse) = (fun c => (nI c, uniF mse r c)) 0 by show _ = (nI 0, uniF mse r 0); rw [uniF_0]; rfl]
  refine wl_for (fun c => (nI c, uniF mse r c)) (tn T) (fun c hc => ?_) ?_ (by omega)
  · show f_X7_mergeRules_s22 mc (nI r) mru mac b (nI c) (uniF mse r c) = _
    unfold f_X7_mergeRules_s22
    rw [hM.n, if_neg (nI_ge hc (by omega)), show (4 : Int32) = nI 4 from rfl, nI_1, pk_mul, pk_mul, nI_add, nI_add, rd_nI (by omega) (by decide), rd_nI (by omega) (by decide), nI_clamp (by omega), show 4 * r + c = r * 4 + c by omega, show 4 * (r + 1) + c = r * 4 + c + 4 by omega, uniF_o (by omega), uniF_o (by omega), uniF_s (by omega), nI_1]
  · show f_X7_mergeRules_s22 mc (nI r) mru mac b (nI (tn T)) (uniF mse r (tn T)) = _
    unfold f_X7_mergeRules_s22
    rw [hM.n, if_pos (Int32.le_refl _), nI_1, e1, bd4_go]
    rfl
theorem m_mgs : ∀ (m : Nat) (T : Tb) (b : Bool) (mru : Int32) (mse mac : Nat → Int32) (n : Nat), TOk T → tr T ≤ m + 1 → (m + 1) * 13 ≤ n → MT T mc mru mst msi mwe mco mse mac → ∃ mse' mac', wl (fun q => f_X7_mergeRules_s2 mc q.1 q.2.1 q.2.2.1 q.2.2.2.1 q.2.2.2.2) n ((0 : Int32), mru, mse, mac, b) = some (nI (tr (mgF (m + 1) T)), nI (tr (mgF (m + 1) T)), mse', mac', mgB (m + 1) T b) ∧ MT (mgF (m + 1) T) mc (nI (tr (mgF (m + 1) T))) mst msi mwe mco mse' mac' := by
  have scan : ∀ (T : Tb) (b : Bool) (mse mac : Nat → Int32), TOk T → MT T mc (nI (tr T)) mst msi mwe mco mse mac → ∀ i, i < fmg T → f_X7_mergeRules_s2 mc (nI i) (nI (tr T)) mse mac b = some (.inl (nI (i + 1), nI (tr T), mse, mac, b)) := by
    intro T b mse mac hT hM i hi
    have h12 := hT.r12
    have hle := fa_first_le (mrg T) (tr T - 1)
    have hi2 : i < tr T - 1 := Nat.lt_of_lt_of_le hi hle
    unfold f_X7_mergeRules_s2
    rw [nI_1, if_neg (nI_ge (by omega) (by omega)), m_can hT hM (by omega), bd_go, fa_first_no (mrg T) (tr T - 1) i hi, if_neg (by decide)]
  have last : ∀ (T : Tb) (b : Bool) (mse mac : Nat → Int32), TOk T → ¬ fmg T < tr T - 1 → f_X7_mergeRules_s2 mc (nI (fmg T)) (nI (tr T)) mse mac b = some (.inr (nI (tr T), nI (tr T), mse, mac, b)) := by
    intro T b mse mac hT q
    have h12 := hT.r12
    have hle : fmg T ≤ tr T - 1 := fa_first_le (mrg T) (tr T - 1)
    unfold f_X7_mergeRules_s2
    rw [nI_1, if_pos (nI_le (by omega) (by omega))]
  intro m
  induction m with
  | zero =>
    intro T b mru mse mac n hT ht hn hM
    have q : ¬ fmg T < tr T - 1 := by omega
    have e := hM.r
    subst e
    have h12 := hT.r12
    have hle : fmg T ≤ tr T - 1 := fa_first_le (mrg T) (tr T - 1)
    rw [mgF, mgB, if_neg q, if_neg q]
    refine ⟨_, _, ?_, hM⟩
    obtain ⟨n, rfl⟩ : ∃ k, n = k + 1 + fmg T := ⟨n - 1 - fmg T, by omega⟩
    rw [show ((0 : Int32), nI (tr T), mse, mac, b) = (fun i => (nI i, nI (tr T), mse, mac, b)) 0 from rfl, wl_steps (fun i => (nI i, nI (tr T), mse, mac, b)) (n + 1) (fmg T) (fun i hi => scan T b mse mac hT hM i hi)]
    exact wl_r (last T b mse mac hT q)
  | succ m ih =>
    intro T b mru mse mac n hT ht hn hM
    have e := hM.r
    subst e
    have h12 := hT.r12
    have hle : fmg T ≤ tr T - 1 := fa_first_le (mrg T) (tr T - 1)
    obtain ⟨n, rfl⟩ : ∃ k, n = k + 1 + fmg T := ⟨n - 1 - fmg T, by omega⟩
    rw [show ((0 : Int32), nI (tr T), mse, mac, b) = (fun i => (nI i, nI (tr T), mse, mac, b)) 0 from rfl, wl_steps (fun i => (nI i, nI (tr T), mse, mac, b)) (n + 1) (fmg T) (fun i hi => scan T b mse mac hT hM i hi)]
    by_cases q : fmg T < tr T - 1
    · obtain ⟨a1, a2, e1, e2⟩ := m_merge hT hM (fmg_lt_iff q) b
      have hs : f_X7_mergeRules_s2 mc (nI (fmg T)) (nI (tr T)) mse mac b = some (.inl ((0 : Int32), nI (tr T - 1), a1, a2, false)) := by
        unfold f_X7_mergeRules_s2
        rw [nI_1, if_neg (nI_ge (by omega) (by omega)), m_can hT hM (fmg_lt_iff q), bd_go, show mrg T (fmg T) = true from fa_first_yes (mrg T) (tr T - 1) q, if_pos rfl, e1]
      obtain ⟨c1, c2, f1, f2⟩ := ih (mgT T (fmg T)) false (nI (tr T - 1)) a1 a2 n (mgT_ok hT (fmg_lt_iff q)) (by show tr T - 1 ≤ m + 1; omega) (by omega) e2
      refine ⟨c1, c2, ?_, ?_⟩
      · rw [wl_c (w := ((0 : Int32), nI (tr T - 1), a1, a2, false)) hs, f1, mgF_c q, mgB_c q]
      · rw [mgF_c q]; exact f2
    · rw [mgF, mgB, if_neg q, if_neg q]
      exact ⟨_, _, wl_r (last T b mse mac hT q), hM⟩
theorem sim_mergeRules (hT : TOk T) (hX : XT T tc tca tru tdf tsi tst tco twe tse tac trw) (hM : MT T mc mru mst msi mwe mco mse mac) (cb : Bool) : ∃ r cb' tru' tse' tac' trw' mse' mac' T', f_X6_mergeRules cb tc tru tsi tse tac trw = some (r, cb', tru', tse', tac', trw') ∧ f_X7_mergeRules mc mru mse mac cb = some (r, tru', mse', mac', cb') ∧ TOk T' ∧ XT T' tc tca tru' tdf tsi tst tco twe tse' tac' trw' ∧ MT T' mc tru' mst msi mwe mco mse' mac' ∧ (cb' = true → cb = true ∧ T' = T) := by
  have h12 := hT.r12
  obtain ⟨a1, a2, a3, e1, e2⟩ := x_mgs (tc := tc) (tca := tca) (tdf := tdf) (tsi := tsi) (tst := tst) (tco := tco) (twe := twe) 11 0 T cb tru tse tac trw 5000 hT (by omega) (by omega) (by omega) hX
  obtain ⟨b1, b2, f1, f2⟩ := m_mgs (mc := mc) (mst := mst) (msi := msi) (mwe := mwe) (mco := mco) 11 T cb mru mse mac 5000 hT (by omega) (by omega) hM
  exact ⟨_, _, _, _, _, _, _, _, _, e1, f1, mgF_ok _ hT, e2, f2, fun w => mgB_t w⟩
end B
/-! a rule more -/
def shr {α : Type} (w : Nat) (S : Nat → α) (a b : Nat) : Nat → α := fun i => if a ≤ i ∧ i < b then S (i - w) else S i
theorem shr_0 {α : Type} {w : Nat} {S : Nat → α} {b : Nat} : shr w S b b = S := by
  funext i
  unfold shr
  rw [if_neg (by omega)]
theorem shr_o {α : Type} {w : Nat} {S : Nat → α} {a b i : Nat} (h : i < a) : shr w S a b i = S i := by
  unfold shr
  rw [if_neg (by omega)]
theorem shr_s {S : Nat → Int32} {w a b : Nat} (h : a < b) : upd (shr w S (a + 1) b) a (S (a - w)) = shr w S a b := by
  funext i
  by_cases e : i = a
  · subst e
    rw [upd_s]
    unfold shr
    rw [if_pos ⟨Nat.le_refl _, h⟩]
  · rw [upd_n e]
    unfold shr
    have : (a + 1 ≤ i ∧ i < b) ↔ (a ≤ i ∧ i < b) := by omega
    simp only [this]
theorem shr_cpy {S : Nat → Int32} {a b : Nat} (h : a + 4 ≤ b) (_h4 : 4 ≤ a) : va_cpy (shr 4 S (a + 4) b) (shr 4 S (a + 4) b) (a - 4) a 4 = shr 4 S a b := by
  funext i
  by_cases q : a ≤ i ∧ i < a + 4
  · rw [pk_cpy_in q.1 q.2, shr_o (by omega)]
    unfold shr
    rw [if_pos ⟨q.1, by omega⟩, show a - 4 + (i - a) = i - 4 by omega]
  · rw [pk_cpy_out (by omega)]
    unfold shr
    have : (a + 4 ≤ i ∧ i < b) ↔ (a ≤ i ∧ i < b) := by omega
    simp only [this]
def putT (T : Tb) (r : Nat) (s : Nat → Nat) (a : Nat) : Tb := (tn T, tz T, tw T, tk T, tr T + 1, (fun i => if i < r * 4 then ts T i else if i < r * 4 + 4 then s (i - r * 4) else ts T (i - 4)), (fun i => if i < r then ta T i else if i = r then a else ta T (i - 1)), td T)
/-- a rule's sets, as the text gives them -/
def SOk (T : Tb) (s : Nat → Nat) : Prop := (∀ c, c < tn T → 0 < s c ∧ s c < 2 ^ tz T c) ∧ ∀ c, s c < 32
theorem putT_ok {T : Tb} (h : TOk T) {r a : Nat} {s : Nat → Nat} (hs : SOk T s) (hr : r ≤ tr T) (h12 : tr T < 12) (ha : a ≤ 9) : TOk (putT T r s a) := by
  have h4 := h.n4
  refine ⟨h.1, h.2.1, h.2.2.1, h.2.2.2.1, h.2.2.2.2.1, h.2.2.2.2.2.1, ?_, ?_, ?_, ?_, h.d10⟩
  · show tr T + 1 ≤ 12
    omega
  · intro q c hq hc
    have hq : q < tr T + 1 := hq
    have hc : c < tn T := hc
    show 0 < (if q * 4 + c < r * 4 then ts T (q * 4 + c) else if q * 4 + c < r * 4 + 4 then s (q * 4 + c - r * 4) else ts T (q * 4 + c - 4)) ∧ (if q * 4 + c < r * 4 then ts T (q * 4 + c) else if q * 4 + c < r * 4 + 4 then s (q * 4 + c - r * 4) else ts T (q * 4 + c - 4)) < 2 ^ tz T c
    by_cases e : q * 4 + c < r * 4
    · rw [if_pos e]; exact h.s (by omega) hc
    · rw [if_neg e]
      by_cases e2 : q * 4 + c < r * 4 + 4
      · rw [if_pos e2, show q * 4 + c - r * 4 = c by omega]; exact hs.1 c hc
      · rw [if_neg e2, show q * 4 + c - 4 = (q - 1) * 4 + c by omega]; exact h.s (by omega) hc
  · intro i
    show (if i < r * 4 then ts T i else if i < r * 4 + 4 then s (i - r * 4) else ts T (i - 4)) < 32
    by_cases e : i < r * 4
    · rw [if_pos e]; exact h.s32 _
    · rw [if_neg e]
      by_cases e2 : i < r * 4 + 4
      · rw [if_pos e2]; exact hs.2 _
      · rw [if_neg e2]; exact h.s32 _
  · intro i
    show (if i < r then ta T i else if i = r then a else ta T (i - 1)) ≤ 9
    by_cases e : i < r
    · rw [if_pos e]; exact h.a9 _
    · rw [if_neg e]
      by_cases e2 : i = r
      · rw [if_pos e2]; exact ha
      · rw [if_neg e2]; exact h.a9 _
section B
variable {T : Tb} {tc tca tru tdf : Int32} {tsi tst tco twe tse tac trw : Nat → Int32} {mc mru mst : Int32} {msi mwe mco mse mac : Nat → Int32}
theorem put_sets {S Q : Nat → Int32} {s : Nat → Nat} {r : Nat} (a : Nat) (hr : r ≤ tr T) (h : ∀ i, i < tr T * 4 → S i = nI (ts T i)) (hq : ∀ c, c < 4 → Q c = nI (s c)) : ∀ i, i < tr (putT T r s a) * 4 → va_cpy Q (shr 4 S ((r + 1) * 4) ((tr T + 1) * 4)) 0 (r * 4) 4 i = nI (ts (putT T r s a) i) := by
  intro i hi
  have hi : i < (tr T + 1) * 4 := hi
  show _ = nI (if i < r * 4 then ts T i else if i < r * 4 + 4 then s (i - r * 4) else ts T (i - 4))
  by_cases e : i < r * 4
  · rw [if_pos e, pk_cpy_out (by omega), shr_o (by omega), h i (by omega)]
  · rw [if_neg e]
    by_cases e2 : i < r * 4 + 4
    · rw [if_pos e2, pk_cpy_in (by omega) e2, Nat.zero_add, hq _ (by omega)]
    · rw [if_neg e2, pk_cpy_out (by omega)]
      unfold shr
      rw [if_pos ⟨by omega, hi⟩, h _ (by omega)]
theorem put_acts {A : Nat → Int32} {s : Nat → Nat} {r a : Nat} (hr : r ≤ tr T) (h : ∀ i, i < tr T → A i = nI (ta T i)) : ∀ i, i < tr (putT T r s a) → upd (shr 1 A (r + 1) (tr T + 1)) r (nI a) i = nI (ta (putT T r s a) i) := by
  intro i hi
  have hi : i < tr T + 1 := hi
  show _ = nI (if i < r then ta T i else if i = r then a else ta T (i - 1))
  by_cases e : i < r
  · rw [if_pos e, upd_n (by omega), shr_o (by omega), h i (by omega)]
  · rw [if_neg e]
    by_cases e2 : i = r
    · subst e2; rw [if_pos rfl, upd_s]
    · rw [if_neg e2, upd_n e2]
      unfold shr
      rw [if_pos ⟨by omega, hi⟩, h _ (by omega)]
theorem x_put (hT : TOk T) (h : XT T tc tca tru tdf tsi tst tco twe tse tac trw) {r a : Nat} {s : Nat → Nat} {rse : Nat → Int32} (hs : SOk T s) (hr : r ≤ tr T) (h12 : tr T < 12) (ha : a ≤ 9) (hq : ∀ c, c < 4 → rse c = nI (s c)) : ∃ tse' tac' trw', f_X4_putRule tc tru tsi tse tac trw (nI a) rse (nI r) = some (nI (tr T + 1), tse', tac', trw') ∧ XT (putT T r s a) tc tca (nI (tr T + 1)) tdf tsi tst tco twe tse' tac' trw' := by
  have hX0 : XT0 (putT T r s a) tc tca (nI (tr T + 1)) tdf tsi tst tco twe (va_cpy rse (shr 4 tse ((r + 1) * 4) ((tr T + 1) * 4)) 0 (r * 4) 4) (upd (shr 1 tac (r + 1) (tr T + 1)) r (nI a)) := ⟨h.1, h.2.1, rfl, h.2.2.2.1, h.2.2.2.2.1, h.2.2.2.2.2.1, h.2.2.2.2.2.2.1, h.2.2.2.2.2.2.2.1, put_sets a hr (fun i hi => h.s hi) hq, put_acts hr (fun i hi => h.a hi)⟩
  obtain ⟨g', e1, e2⟩ := x_index' (putT_ok hT hs hr h12 ha) hX0 trw
  refine ⟨_, _, g', ?_, e2⟩
  unfold f_X4_putRule
  rw [h.r, show (nI (tr T), tse, tac) = (fun j => (nI (tr T - j), shr 4 tse ((tr T - j + 1) * 4) ((tr T + 1) * 4), shr 1 tac (tr T - j + 1) (tr T + 1))) 0 by show _ = (nI (tr T), shr 4 tse ((tr T + 1) * 4) ((tr T + 1) * 4), shr 1 tac (tr T + 1) (tr T + 1)); rw [shr_0, shr_0]]
  refine wl_for (fun j => (nI (tr T - j), shr 4 tse ((tr T - j + 1) * 4) ((tr T + 1) * 4), shr 1 tac (tr T - j + 1) (tr T + 1))) (tr T - r) (fun j hj => ?_) ?_ (by omega)
  · show f_X4_putRule_s5 tc (nI (tr T)) tsi trw (nI a) rse (nI r) (nI (tr T - j)) (shr 4 tse ((tr T - j + 1) * 4) ((tr T + 1) * 4)) (shr 1 tac (tr T - j + 1) (tr T + 1)) = _
    obtain ⟨v, hv⟩ : ∃ v, tr T - j = v + 1 := ⟨tr T - j - 1, by omega⟩
    have hv2 : tr T - (j + 1) = v := by omega
    unfold f_X4_putRule_s5
    rw [hv, hv2, if_neg (nI_ge (by omega) (by omega)), nI_d, show (1 : Int32) = nI 1 from rfl, pk_sub (by omega), show v + 1 - 1 = v by omega, x_move (by omega) (by omega), bd2_go, show (v + 1 + 1) * 4 = (v + 1) * 4 + 4 by omega, show v * 4 = (v + 1) * 4 - 4 by omega, shr_cpy (by omega) (by omega), shr_o (show v < v + 1 + 1 by omega), show tac v = tac (v + 1 - 1) from rfl, shr_s (by omega)]
  · show f_X4_putRule_s5 tc (nI (tr T)) tsi trw (nI a) rse (nI r) (nI (tr T - (tr T - r))) (shr 4 tse ((tr T - (tr T - r) + 1) * 4) ((tr T + 1) * 4)) (shr 1 tac (tr T - (tr T - r) + 1) (tr T + 1)) = _
    unfold f_X4_putRule_s5 cp
    rw [show tr T - (tr T - r) = r by omega, if_pos (Int32.le_refl _), show (4 : Int32) = nI 4 from rfl, show (0 : Int32) = nI 0 from rfl, pk_mul, nI_clamp (by omega), nI_clamp (by omega), nI_clamp (by omega), if_pos ⟨nI_pos (by omega), nI_pos (by omega), nI_pos (by omega), by omega, by omega⟩, ix_nI (by omega) (by decide), nI_clamp (by omega), nI_1, e1, bd_go]
theorem m_insrow {S A : Nat → Int32} {v b : Nat} (hv : v < 11) (hb : (v + 2) * 4 ≤ b) (z : Int32) : wl (fun q => f_X7_insert_s26 (nI (v + 1)) A z q.1 q.2) 5000 ((0 : Int32), shr 4 S ((v + 2) * 4) b) = some (.inl (nI v, shr 4 S ((v + 1) * 4) b, upd A (v + 1) z)) := by
  have e0 : ∀ c, c ≤ 4 → True := fun _ _ => trivial
  rw [show ((0 : Int32), shr 4 S ((v + 2) * 4) b) = (fun c => (nI c, fun i => if (v + 1) * 4 ≤ i ∧ i < (v + 1) * 4 + c then S (i - 4) else shr 4 S ((v + 2) * 4) b i)) 0 by
    show _ = (nI 0, fun i => if (v + 1) * 4 ≤ i ∧ i < (v + 1) * 4 + 0 then S (i - 4) else shr 4 S ((v + 2) * 4) b i)
    have : (fun i => if (v + 1) * 4 ≤ i ∧ i < (v + 1) * 4 + 0 then S (i - 4) else shr 4 S ((v + 2) * 4) b i) = shr 4 S ((v + 2) * 4) b := by
      funext i
      exact if_neg (by omega)
    rw [this]
    rfl]
  refine wl_for (fun c => (nI c, fun i => if (v + 1) * 4 ≤ i ∧ i < (v + 1) * 4 + c then S (i - 4) else shr 4 S ((v + 2) * 4) b i)) 4 (fun c hc => ?_) ?_ (by omega)
  · show f_X7_insert_s26 (nI (v + 1)) A z (nI c) (fun i => if (v + 1) * 4 ≤ i ∧ i < (v + 1) * 4 + c then S (i - 4) else shr 4 S ((v + 2) * 4) b i) = _
    unfold f_X7_insert_s26
    rw [show (4 : Int32) = nI 4 from rfl, if_neg (nI_ge hc (by omega)), show (1 : Int32) = nI 1 from rfl, pk_sub (by omega), show v + 1 - 1 = v by omega, pk_mul, pk_mul, nI_add, nI_add, rd_nI (by omega) (by decide), ix_nI (by omega) (by decide), nI_clamp (by omega), nI_add]
    have e : upd (fun i => if (v + 1) * 4 ≤ i ∧ i < (v + 1) * 4 + c then S (i - 4) else shr 4 S ((v + 2) * 4) b i) (4 * (v + 1) + c) (if (v + 1) * 4 ≤ 4 * v + c ∧ 4 * v + c < (v + 1) * 4 + c then S (4 * v + c - 4) else shr 4 S ((v + 2) * 4) b (4 * v + c)) = (fun i => if (v + 1) * 4 ≤ i ∧ i < (v + 1) * 4 + (c + 1) then S (i - 4) else shr 4 S ((v + 2) * 4) b i) := by
      funext i
      rw [if_neg (by omega), shr_o (by omega)]
      by_cases q : i = 4 * (v + 1) + c
      · subst q
        rw [upd_s, if_pos (by omega), show 4 * (v + 1) + c - 4 = 4 * v + c by omega]
      · rw [upd_n q]
        have : ((v + 1) * 4 ≤ i ∧ i < (v + 1) * 4 + c) ↔ ((v + 1) * 4 ≤ i ∧ i < (v + 1) * 4 + (c + 1)) := by omega
        simp only [this]
    rw [e]
  · show f_X7_insert_s26 (nI (v + 1)) A z (nI 4) (fun i => if (v + 1) * 4 ≤ i ∧ i < (v + 1) * 4 + 4 then S (i - 4) else shr 4 S ((v + 2) * 4) b i) = _
    unfold f_X7_insert_s26
    have e : (fun i => if (v + 1) * 4 ≤ i ∧ i < (v + 1) * 4 + 4 then S (i - 4) else shr 4 S ((v + 2) * 4) b i) = shr 4 S ((v + 1) * 4) b := by
      funext i
      unfold shr
      by_cases q : (v + 1) * 4 ≤ i ∧ i < (v + 1) * 4 + 4
      · rw [if_pos q, if_pos (by omega)]
      · rw [if_neg q]
        have : ((v + 2) * 4 ≤ i ∧ i < b) ↔ ((v + 1) * 4 ≤ i ∧ i < b) := by omega
        simp only [this]
    rw [show (4 : Int32) = nI 4 from rfl, if_pos (Int32.le_refl _), nI_d, nI_clamp (by omega), e]
theorem m_put (hT : TOk T) (h : MT T mc mru mst msi mwe mco mse mac) {r a : Nat} {s : Nat → Nat} {rse : Nat → Int32} (_hs : SOk T s) (hr : r ≤ tr T) (h12 : tr T < 12) (_ha : a ≤ 9) (hq : ∀ c, c < 4 → rse c = nI (s c)) (b : Bool) : ∃ mse' mac', f_X7_insert mru mse mac b rse (nI a) (nI r) = some (nI (tr T + 1), mse', mac', false) ∧ MT (putT T r s a) mc (nI (tr T + 1)) mst msi mwe mco mse' mac' := by
  refine ⟨va_cpy rse (shr 4 mse ((r + 1) * 4) ((tr T + 1) * 4)) 0 (r * 4) 4, upd (shr 1 mac (r + 1) (tr T + 1)) r (nI a), ?_, h.1, rfl, h.2.2.1, h.2.2.2.1, h.2.2.2.2.1, h.2.2.2.2.2.1, put_sets a hr (fun i hi => h.s hi) hq, put_acts hr (fun i hi => h.a hi)⟩
  unfold f_X7_insert
  rw [h.r, show (nI (tr T), mse, mac) = (fun j => (nI (tr T - j), shr 4 mse ((tr T - j + 1) * 4) ((tr T + 1) * 4), shr 1 mac (tr T - j + 1) (tr T + 1))) 0 by show _ = (nI (tr T), shr 4 mse ((tr T + 1) * 4) ((tr T + 1) * 4), shr 1 mac (tr T + 1) (tr T + 1)); rw [shr_0, shr_0]]
  refine wl_for (fun j => (nI (tr T - j), shr 4 mse ((tr T - j + 1) * 4) ((tr T + 1) * 4), shr 1 mac (tr T - j + 1) (tr T + 1))) (tr T - r) (fun j hj => ?_) ?_ (by omega)
  · show f_X7_insert_s5 (nI (tr T)) rse (nI a) (nI r) (nI (tr T - j)) (shr 4 mse ((tr T - j + 1) * 4) ((tr T + 1) * 4)) (shr 1 mac (tr T - j + 1) (tr T + 1)) = _
    obtain ⟨v, hv⟩ : ∃ v, tr T - j = v + 1 := ⟨tr T - j - 1, by omega⟩
    have hv2 : tr T - (j + 1) = v := by omega
    unfold f_X7_insert_s5
    rw [hv, hv2, if_neg (nI_ge (by omega) (by omega)), show (1 : Int32) = nI 1 from rfl, pk_sub (by omega), show v + 1 - 1 = v by omega, rd_nI (by omega) (by decide), ix_nI (by omega) (by decide), m_insrow (by omega) (by omega), shr_o (show v < v + 1 + 1 by omega), show mac v = mac (v + 1 - 1) from rfl, shr_s (by omega)]
  · show f_X7_insert_s5 (nI (tr T)) rse (nI a) (nI r) (nI (tr T - (tr T - r))) (shr 4 mse ((tr T - (tr T - r) + 1) * 4) ((tr T + 1) * 4)) (shr 1 mac (tr T - (tr T - r) + 1) (tr T + 1)) = _
    unfold f_X7_insert_s5
    rw [show tr T - (tr T - r) = r by omega, if_pos (Int32.le_refl _), ix_nI (by omega) (by decide)]
    generalize shr 4 mse ((r + 1) * 4) ((tr T + 1) * 4) = S
    generalize shr 1 mac (r + 1) (tr T + 1) = A
    rw [show ((0 : Int32), S) = (fun c => (nI c, va_cpy rse S 0 (r * 4) c)) 0 by
      show _ = (nI 0, va_cpy rse S 0 (r * 4) 0)
      have : va_cpy rse S 0 (r * 4) 0 = S := by
        funext i
        exact pk_cpy_out (by omega)
      rw [this]
      rfl]
    refine wl_for (fun c => (nI c, va_cpy rse S 0 (r * 4) c)) 4 (fun c hc => ?_) ?_ (by omega)
    · show f_X7_insert_s77 (nI (tr T)) rse (nI a) (nI r) A (nI c) (va_cpy rse S 0 (r * 4) c) = _
      unfold f_X7_insert_s77
      rw [show (4 : Int32) = nI 4 from rfl, if_neg (nI_ge hc (by omega)), rd_nI hc (by decide), pk_mul, nI_add, ix_nI (by omega) (by decide), nI_clamp (by omega), nI_1]
      have e : upd (va_cpy rse S 0 (r * 4) c) (4 * r + c) (rse c) = va_cpy rse S 0 (r * 4) (c + 1) := by
        funext i
        by_cases q : i = 4 * r + c
        · subst q
          rw [upd_s, pk_cpy_in (by omega) (by omega), show 0 + (4 * r + c - r * 4) = c by omega]
        · rw [upd_n q]
          by_cases q2 : r * 4 ≤ i ∧ i < r * 4 + c
          · rw [pk_cpy_in q2.1 q2.2, pk_cpy_in q2.1 (by omega)]
          · rw [pk_cpy_out (by omega), pk_cpy_out (by omega)]
      rw [e]
    · show f_X7_insert_s77 (nI (tr T)) rse (nI a) (nI r) A (nI 4) (va_cpy rse S 0 (r * 4) 4) = _
      unfold f_X7_insert_s77
      rw [show (4 : Int32) = nI 4 from rfl, if_pos (Int32.le_refl _), nI_1, nI_clamp (by omega)]
end B
