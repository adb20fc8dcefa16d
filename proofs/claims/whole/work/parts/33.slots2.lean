/-! copies between slots, and the actions in a slot -/
theorem rng_sub {a b : Nat} (ha : a < 2 ^ 31) (hb : b < 2 ^ 31) : (nI a - nI b).toInt = (a : Int) - b := by
  rw [Int32.toInt_sub, nI_toInt ha, nI_toInt hb, Int.bmod_eq_of_le (by omega) (by omega)]
def rok (n p m : Nat) : Bool := decide (p + m ≤ n)
theorem x_range {n p m : Nat} (hn : n ≤ 700) (hp : p < 2 ^ 31) (hm : m < 2 ^ 31) : f_X3_hasRange (nI n) (nI p) (nI m) = some (rok n p m) := by
  unfold f_X3_hasRange rok
  rw [if_neg (nI_pos hp), if_neg (nI_pos hm)]
  by_cases e : n < p
  · rw [if_pos (nI_lt e hp), decide_eq_false (by omega)]
  · rw [if_neg (nI_nlt (by omega) (by omega)), pk_sub (by omega)]
    by_cases e2 : n - p < m
    · rw [if_pos (nI_lt e2 hm), decide_eq_false (by omega)]
    · rw [if_neg (nI_nlt (by omega) (by omega)), decide_eq_true (by omega)]
theorem x_range0 {n : Int32} {p m : Int32} (h : p < 0 ∨ m < 0) : f_X3_hasRange n p m = some false := by
  unfold f_X3_hasRange
  by_cases e : p < 0
  · rw [if_pos e]
  · rw [if_neg e, if_pos (h.resolve_left e)]
theorem x_range1 (n p m : Int32) : ∃ b, f_X3_hasRange n p m = some b := by
  unfold f_X3_hasRange
  by_cases e : p < 0
  · rw [if_pos e]; exact ⟨_, rfl⟩
  · rw [if_neg e]
    by_cases e2 : m < 0
    · rw [if_pos e2]; exact ⟨_, rfl⟩
    · rw [if_neg e2]
      by_cases e3 : n < p
      · rw [if_pos e3]; exact ⟨_, rfl⟩
      · rw [if_neg e3]
        by_cases e4 : n - p < m
        · rw [if_pos e4]; exact ⟨_, rfl⟩
        · rw [if_neg e4]; exact ⟨_, rfl⟩
def mvd (mv it : Nat → Int64) (a k : Nat) : Nat → Int64 := fun i => if i < k then it (a + i) else mv i
def mvt (it mv : Nat → Int64) (b k : Nat) : Nat → Int64 := fun i => if b ≤ i ∧ i < b + k then mv (i - b) else it i
theorem m_move (it mv : Nat → Int64) {a p b q m : Nat} (ha : a < 4) (hb : b < 4) (hp : p + m ≤ 700) (hq : q + m ≤ 700) : wl (fun s => f_X7_copyElements_s114 it (nI a) (nI p) (nI b) (nI q) (nI m) s.1 s.2) 5000 ((0 : Int32), mv) = some (nI m, mvt it (mvd mv it (700 * a + p) m) (700 * b + q) m, mvd mv it (700 * a + p) m) := by
  have e0 : mv = mvd mv it (700 * a + p) 0 := by
    funext i
    unfold mvd
    rw [if_neg (by omega)]
  rw [show ((0 : Int32), mv) = (fun k => (nI k, mvd mv it (700 * a + p) k)) 0 by show _ = (nI 0, mvd mv it (700 * a + p) 0); rw [← e0]; rfl]
  refine wl_for (fun k => (nI k, mvd mv it (700 * a + p) k)) m (fun k hk => ?_) ?_ (by omega)
  · show f_X7_copyElements_s114 it (nI a) (nI p) (nI b) (nI q) (nI m) (nI k) (mvd mv it (700 * a + p) k) = _
    unfold f_X7_copyElements_s114
    rw [if_neg (nI_ge hk (by omega)), show (700 : Int32) = nI 700 from rfl, pk_mul, nI_add, nI_add, rd_nI (by omega) (by decide), ix_nI (by omega) (by decide), nI_clamp (by omega), nI_1]
    have : vp_updL (mvd mv it (700 * a + p) k) k (it (700 * a + p + k)) = mvd mv it (700 * a + p) (k + 1) := by
      funext i
      unfold vp_updL mvd
      by_cases e : i = k
      · rw [if_pos e, if_pos (by omega), e]
      · rw [if_neg e]
        by_cases e2 : i < k
        · rw [if_pos e2, if_pos (by omega)]
        · rw [if_neg e2, if_neg (by omega)]
    rw [this]
  · show f_X7_copyElements_s114 it (nI a) (nI p) (nI b) (nI q) (nI m) (nI m) (mvd mv it (700 * a + p) m) = _
    unfold f_X7_copyElements_s114
    rw [if_pos (Int32.le_refl _)]
    generalize mvd mv it (700 * a + p) m = mm
    have e1 : it = mvt it mm (700 * b + q) 0 := by
      funext i
      unfold mvt
      rw [if_neg (by omega)]
    rw [show ((0 : Int32), it) = (fun k => (nI k, mvt it mm (700 * b + q) k)) 0 by show _ = (nI 0, mvt it mm (700 * b + q) 0); rw [← e1]; rfl]
    refine wl_for (fun k => (nI k, mvt it mm (700 * b + q) k)) m (fun k hk => ?_) ?_ (by omega)
    · show f_X7_copyElements_s152 (nI b) (nI q) (nI m) mm (nI k) (mvt it mm (700 * b + q) k) = _
      unfold f_X7_copyElements_s152
      rw [if_neg (nI_ge hk (by omega)), rd_nI (by omega) (by decide), show (700 : Int32) = nI 700 from rfl, pk_mul, nI_add, nI_add, ix_nI (by omega) (by decide), nI_clamp (by omega), nI_1]
      have : vp_updL (mvt it mm (700 * b + q) k) (700 * b + q + k) (mm k) = mvt it mm (700 * b + q) (k + 1) := by
        funext i
        unfold vp_updL mvt
        by_cases e : i = 700 * b + q + k
        · rw [if_pos e, if_pos ⟨by omega, by omega⟩, show i - (700 * b + q) = k by omega]
        · rw [if_neg e]
          by_cases e2 : 700 * b + q ≤ i ∧ i < 700 * b + q + k
          · rw [if_pos e2, if_pos ⟨e2.1, by omega⟩]
          · rw [if_neg e2, if_neg (fun w => e2 ⟨w.1, by omega⟩)]
      rw [this]
    · show f_X7_copyElements_s152 (nI b) (nI q) (nI m) mm (nI m) (mvt it mm (700 * b + q) m) = _
      unfold f_X7_copyElements_s152
      rw [if_pos (Int32.le_refl _)]
section L
variable {u : Nat → Bool} {t z : Nat → Int32} {e : Nat → Nat → Int64} {mt ml : Nat → Int32} {it : Nat → Int64}
theorem SL_copy (h : SL u t z e mt ml it) {a b p q m : Nat} (ha : a < 4) (hb : b < 4) (hua : u a = true) (hp : p + m ≤ 700) (hq : q + m ≤ 700) (mv : Nat → Int64) : SL u t z (upf e b (va_cpy (e a) (e b) p q m)) mt ml (mvt it (mvd mv it (700 * a + p) m) (700 * b + q) m) := by
  obtain ⟨_, _, _, _, _, _, _, _, b7⟩ := (h a ha).1 hua
  intro k hk
  have hh := h k hk
  refine ⟨fun hu => ?_, hh.2⟩
  obtain ⟨ty, sz, a1, a2, a3, a4, a5, a6, a7⟩ := hh.1 hu
  refine ⟨ty, sz, a1, a2, a3, a4, a5, a6, fun l hl => ?_⟩
  by_cases w : k = b
  · subst w
    rw [upf_e]
    unfold va_cpy mvt
    by_cases w2 : q ≤ l ∧ l < q + m
    · rw [if_pos w2, if_pos ⟨by omega, by omega⟩]
      unfold mvd
      rw [if_pos (by omega), b7 _ (by omega), show 700 * a + p + (700 * k + l - (700 * k + q)) = 700 * a + (p + (l - q)) by omega]
    · rw [if_neg w2, if_neg (fun w3 => w2 ⟨by omega, by omega⟩)]
      exact a7 l hl
  · rw [upf_n _ _ w]
    unfold mvt
    rw [if_neg (by omega)]
    exact a7 l hl
theorem x_copyE (u : Nat → Bool) (t z : Nat → Int32) (e : Nat → Nat → Int64) {a b : Nat} (ha : a < 4) (hb : b < 4) (x2 x4 x5 : Int32) : f_X6_copyElements (u 0) (t 0) (z 0) (e 0) (u 1) (t 1) (z 1) (e 1) (u 2) (t 2) (z 2) (e 2) (u 3) (t 3) (z 3) (e 3) (nI a) x2 (nI b) x4 x5 = (if u a = true then (if u b = true then (if t a = t b then (Option.bind (f_X3_hasRange (z a) x2 x5) fun z72 => (if z72 = true then (Option.bind (f_X3_hasRange (z b) x4 x5) fun z84 => (if z84 = true then (cp 700 700 x2 x4 x5 (some (x5, upf e b (va_cpy (e a) (e b) x2.toNatClampNeg x4.toNatClampNeg x5.toNatClampNeg) 0, upf e b (va_cpy (e a) (e b) x2.toNatClampNeg x4.toNatClampNeg x5.toNatClampNeg) 1, upf e b (va_cpy (e a) (e b) x2.toNatClampNeg x4.toNatClampNeg x5.toNatClampNeg) 2, upf e b (va_cpy (e a) (e b) x2.toNatClampNeg x4.toNatClampNeg x5.toNatClampNeg) 3))) else (some ((-13 : Int32), e 0, e 1, e 2, e 3)))) else (some ((-13 : Int32), e 0, e 1, e 2, e 3)))) else (some ((-12 : Int32), e 0, e 1, e 2, e 3))) else (some ((-11 : Int32), e 0, e 1, e 2, e 3))) else (some ((-11 : Int32), e 0, e 1, e 2, e 3))) := by
  unfold f_X6_copyElements
  rw [x_isSlot, bd_go, hb_nI (by decide) ha, if_pos rfl, x_isSlot, bd_go, hb_nI (by decide) hb, if_pos rfl, ix_nI ha (by decide), ix_nI hb (by decide)]
  rcases four ha with rfl | rfl | rfl | rfl
  · rw [if_pos (show nI 0 = (0 : Int32) from rfl)]
    rcases four hb with rfl | rfl | rfl | rfl
    · rw [if_pos (show nI 0 = (0 : Int32) from rfl)]; cases u 0 <;> rfl
    · rw [if_neg (show ¬ nI 1 = (0 : Int32) by decide), if_pos (show nI 1 = (1 : Int32) from rfl)]; rfl
    · rw [if_neg (show ¬ nI 2 = (0 : Int32) by decide), if_neg (show ¬ nI 2 = (1 : Int32) by decide), if_pos (show nI 2 = (2 : Int32) from rfl)]; rfl
    · rw [if_neg (show ¬ nI 3 = (0 : Int32) by decide), if_neg (show ¬ nI 3 = (1 : Int32) by decide), if_neg (show ¬ nI 3 = (2 : Int32) by decide)]; rfl
  · rw [if_neg (show ¬ nI 1 = (0 : Int32) by decide), if_pos (show nI 1 = (1 : Int32) from rfl)]
    rcases four hb with rfl | rfl | rfl | rfl
    · rw [if_pos (show nI 0 = (0 : Int32) from rfl)]; rfl
    · rw [if_neg (show ¬ nI 1 = (0 : Int32) by decide), if_pos (show nI 1 = (1 : Int32) from rfl)]; cases u 1 <;> rfl
    · rw [if_neg (show ¬ nI 2 = (0 : Int32) by decide), if_neg (show ¬ nI 2 = (1 : Int32) by decide), if_pos (show nI 2 = (2 : Int32) from rfl)]; rfl
    · rw [if_neg (show ¬ nI 3 = (0 : Int32) by decide), if_neg (show ¬ nI 3 = (1 : Int32) by decide), if_neg (show ¬ nI 3 = (2 : Int32) by decide)]; rfl
  · rw [if_neg (show ¬ nI 2 = (0 : Int32) by decide), if_neg (show ¬ nI 2 = (1 : Int32) by decide), if_pos (show nI 2 = (2 : Int32) from rfl)]
    rcases four hb with rfl | rfl | rfl | rfl
    · rw [if_pos (show nI 0 = (0 : Int32) from rfl)]; rfl
    · rw [if_neg (show ¬ nI 1 = (0 : Int32) by decide), if_pos (show nI 1 = (1 : Int32) from rfl)]; rfl
    · rw [if_neg (show ¬ nI 2 = (0 : Int32) by decide), if_neg (show ¬ nI 2 = (1 : Int32) by decide), if_pos (show nI 2 = (2 : Int32) from rfl)]; cases u 2 <;> rfl
    · rw [if_neg (show ¬ nI 3 = (0 : Int32) by decide), if_neg (show ¬ nI 3 = (1 : Int32) by decide), if_neg (show ¬ nI 3 = (2 : Int32) by decide)]; rfl
  · rw [if_neg (show ¬ nI 3 = (0 : Int32) by decide), if_neg (show ¬ nI 3 = (1 : Int32) by decide), if_neg (show ¬ nI 3 = (2 : Int32) by decide)]
    rcases four hb with rfl | rfl | rfl | rfl
    · rw [if_pos (show nI 0 = (0 : Int32) from rfl)]; rfl
    · rw [if_neg (show ¬ nI 1 = (0 : Int32) by decide), if_pos (show nI 1 = (1 : Int32) from rfl)]; rfl
    · rw [if_neg (show ¬ nI 2 = (0 : Int32) by decide), if_neg (show ¬ nI 2 = (1 : Int32) by decide), if_pos (show nI 2 = (2 : Int32) from rfl)]; rfl
    · rw [if_neg (show ¬ nI 3 = (0 : Int32) by decide), if_neg (show ¬ nI 3 = (1 : Int32) by decide), if_neg (show ¬ nI 3 = (2 : Int32) by decide)]; cases u 3 <;> rfl
theorem SL_t (h : SL u t z e mt ml it) {a b : Nat} (ha : a < 4) (hb : b < 4) (hua : u a = true) (hub : u b = true) : t a = t b ↔ mt a = mt b := by
  obtain ⟨_, _, _, _, a3, a4, _⟩ := (h a ha).1 hua
  obtain ⟨_, _, _, _, b3, b4, _⟩ := (h b hb).1 hub
  rw [a3, b3, a4, b4]
theorem sim_copyElements (h : SL u t z e mt ml it) (mv : Nat → Int64) (x1 x2 x3 x4 x5 : Int32) : ∃ r e' it' mv', f_X6_copyElements (u 0) (t 0) (z 0) (e 0) (u 1) (t 1) (z 1) (e 1) (u 2) (t 2) (z 2) (e 2) (u 3) (t 3) (z 3) (e 3) x1 x2 x3 x4 x5 = some (r, e' 0, e' 1, e' 2, e' 3) ∧ f_X7_copyElements mt ml it mv x1 x2 x3 x4 x5 = some (r, it', mv') ∧ SL u t z e' mt ml it' := by
  cases h1 : hasb 4 x1 with
  | false =>
    exact ⟨-1, e, it, mv, by unfold f_X6_copyElements; rw [x_isSlot, h1, bd_go, if_neg (by decide)], by unfold f_X7_copyElements; rw [m_isSlot, h1, bd_go, if_neg (by decide)], h⟩
  | true =>
    cases h3 : hasb 4 x3 with
    | false =>
      exact ⟨-1, e, it, mv, by unfold f_X6_copyElements; rw [x_isSlot, h1, bd_go, if_pos rfl, x_isSlot, h3, bd_go, if_neg (by decide)], by unfold f_X7_copyElements; rw [m_isSlot, h1, bd_go, if_pos rfl, m_isSlot, h3, bd_go, if_neg (by decide)], h⟩
    | true =>
      obtain ⟨a, ha, rfl⟩ := hb_t (by decide) h1
      obtain ⟨b, hb, rfl⟩ := hb_t (by decide) h3
      have hA := h a ha
      have hB := h b hb
      unfold f_X7_copyElements
      rw [x_copyE u t z e ha hb, m_isSlot, h1, bd_go, if_pos rfl, m_isSlot, h3, bd_go, if_pos rfl, rd_nI ha (by decide), rd_nI hb (by decide), nI_clamp (by omega), nI_clamp (by omega), nm_go, nm_go]
      cases hua : u a with
      | false =>
        rw [if_neg (by decide), if_pos (by rw [hA.2 hua]; decide)]
        exact ⟨_, e, it, mv, rfl, rfl, h⟩
      | true =>
        obtain ⟨ta', sa, a1, a2, a3, a4, a5, a6, a7⟩ := hA.1 hua
        rw [if_pos rfl, if_neg (show ¬ mt a < 0 by rw [a4]; exact nI_pos (by omega))]
        cases hub : u b with
        | false =>
          rw [if_neg (show ¬ false = true by decide), if_neg (fun w => by have := hB.mt0.mp w; rw [hub] at this; exact absurd this (by decide))]
          exact ⟨_, e, it, mv, rfl, rfl, h⟩
        | true =>
          obtain ⟨tb', sb, b1, b2, b3, b4, b5, b6, b7⟩ := hB.1 hub
          rw [if_pos rfl, if_pos (hB.mt0.mpr hub)]
          by_cases ht : t a = t b
          · rw [if_pos ht, if_pos ((SL_t h ha hb hua hub).mp ht)]
            by_cases c2 : x2 < 0
            · rw [if_pos c2, x_range0 (Or.inl c2), bd_go, if_neg (by decide)]
              exact ⟨_, e, it, mv, rfl, rfl, h⟩
            · rw [if_neg c2]
              by_cases c4 : x4 < 0
              · obtain ⟨bb, hbb⟩ := x_range1 (z a) x2 x5
                rw [if_pos c4, hbb, bd_go, x_range0 (Or.inl c4), bd_go, if_neg (show ¬ false = true by decide)]
                cases bb with
                | false => rw [if_neg (by decide)]; exact ⟨_, e, it, mv, rfl, rfl, h⟩
                | true => rw [if_pos rfl]; exact ⟨_, e, it, mv, rfl, rfl, h⟩
              · rw [if_neg c4]
                by_cases c5 : x5 < 0
                · rw [if_pos c5, x_range0 (Or.inr c5), bd_go, if_neg (by decide)]
                  exact ⟨_, e, it, mv, rfl, rfl, h⟩
                · rw [if_neg c5]
                  obtain ⟨p, hp, rfl⟩ := nI_of c2
                  obtain ⟨q, hq, rfl⟩ := nI_of c4
                  obtain ⟨m, hm, rfl⟩ := nI_of c5
                  rw [a5, b5, a6, b6, x_range a2 hp hm, bd_go, x_range b2 hq hm, bd_go]
                  by_cases r1 : p + m ≤ sa
                  · rw [if_pos (show rok sa p m = true from decide_eq_true r1), if_neg (show ¬ nI sa - nI p < nI m by rw [fa_lt, rng_sub (by omega) hp, nI_toInt hm]; omega)]
                    by_cases r2 : q + m ≤ sb
                    · rw [if_pos (show rok sb q m = true from decide_eq_true r2), if_pos (show nI m ≤ nI sb - nI q by rw [fa_le, rng_sub (by omega) hq, nI_toInt hm]; omega), m_move it mv ha hb (by omega) (by omega), nI_clamp hp, nI_clamp hq, nI_clamp hm]
                      have ec : ∀ k : Option (Int32 × (Nat → Int64) × (Nat → Int64) × (Nat → Int64) × (Nat → Int64)), cp 700 700 (nI p) (nI q) (nI m) k = k := fun k => if_pos ⟨c2, c4, c5, by rw [nI_clamp hp, nI_clamp hm]; omega, by rw [nI_clamp hq, nI_clamp hm]; omega⟩
                      rw [ec]
                      exact ⟨_, _, _, _, rfl, rfl, SL_copy h ha hb hua (by omega) (by omega) mv⟩
                    · rw [if_neg (show ¬ rok sb q m = true from fun w => r2 (of_decide_eq_true w)), if_neg (show ¬ nI m ≤ nI sb - nI q by rw [fa_le, rng_sub (by omega) hq, nI_toInt hm]; omega)]
                      exact ⟨_, e, it, mv, rfl, rfl, h⟩
                  · rw [if_neg (show ¬ rok sa p m = true from fun w => r1 (of_decide_eq_true w)), if_pos (show nI sa - nI p < nI m by rw [fa_lt, rng_sub (by omega) hp, nI_toInt hm]; omega)]
                    exact ⟨_, e, it, mv, rfl, rfl, h⟩
          · rw [if_neg ht, if_neg (fun w => ht ((SL_t h ha hb hua hub).mpr w))]
            exact ⟨_, e, it, mv, rfl, rfl, h⟩
end L
theorem actc_10 {T : Tb} (hT : TOk T) (k : Nat) : actc T k ≤ 10 := by
  unfold actc
  by_cases h : fst T k < tr T
  · rw [if_pos h]; have := hT.a9 (fst T k); omega
  · rw [if_neg h]; exact hT.d10
theorem nar_dI : ∀ {d : Nat}, d ≤ 10 → f_X3_narrow 1 (dI d).toInt64 = some (dI d).toInt64 := by
  intro d h
  have : d = 0 ∨ d = 1 ∨ d = 2 ∨ d = 3 ∨ d = 4 ∨ d = 5 ∨ d = 6 ∨ d = 7 ∨ d = 8 ∨ d = 9 ∨ d = 10 := by omega
  rcases this with rfl | rfl | rfl | rfl | rfl | rfl | rfl | rfl | rfl | rfl | rfl <;> rfl
def sto (T : Tb) (f : Nat → Int64) (k : Nat) : Nat → Int64 := fun i => if i < k then (dI (actc T i)).toInt64 else f i
theorem sto_0 (T : Tb) (f : Nat → Int64) : sto T f 0 = f := by
  funext i
  unfold sto
  rw [if_neg (by omega)]
theorem sto_s (T : Tb) (f : Nat → Int64) (k : Nat) : vp_updL (sto T f k) k (dI (actc T k)).toInt64 = sto T f (k + 1) := by
  funext i
  unfold vp_updL sto
  by_cases e : i = k
  · rw [if_pos e, if_pos (by omega), e]
  · rw [if_neg e]
    by_cases e2 : i < k
    · rw [if_pos e2, if_pos (by omega)]
    · rw [if_neg e2, if_neg (by omega)]
def stm (T : Tb) (f : Nat → Int64) (j k : Nat) : Nat → Int64 := fun i => if 700 * j ≤ i ∧ i < 700 * j + k then (dI (actc T (i - 700 * j))).toInt64 else f i
theorem stm_0 (T : Tb) (f : Nat → Int64) (j : Nat) : stm T f j 0 = f := by
  funext i
  unfold stm
  rw [if_neg (by omega)]
theorem stm_s (T : Tb) (f : Nat → Int64) (j k : Nat) : vp_updL (stm T f j k) (700 * j + k) (dI (actc T k)).toInt64 = stm T f j (k + 1) := by
  funext i
  unfold vp_updL stm
  by_cases e : i = 700 * j + k
  · rw [if_pos e, if_pos ⟨by omega, by omega⟩, show i - 700 * j = k by omega]
  · rw [if_neg e]
    by_cases e2 : 700 * j ≤ i ∧ i < 700 * j + k
    · rw [if_pos e2, if_pos ⟨e2.1, by omega⟩]
    · rw [if_neg e2, if_neg (fun w => e2 ⟨w.1, by omega⟩)]
section A
variable {T : Tb} {tc tca tru tdf : Int32} {tsi tst tco twe tse tac trw : Nat → Int32} {mc mru mst : Int32} {msi mwe mco mse mac : Nat → Int32} {u : Nat → Bool} {t z : Nat → Int32} {e : Nat → Nat → Int64} {mt ml : Nat → Int32} {it : Nat → Int64}
theorem x_store (hT : TOk T) (hX : XT T tc tca tru tdf tsi tst tco twe tse tac trw) (u : Nat → Bool) (t z : Nat → Int32) (e : Nat → Nat → Int64) {j : Nat} (hj : j < 4) : f_X6_storeActions tc tca tru tdf tsi tst tac trw (u 0) (t 0) (z 0) (e 0) (u 1) (t 1) (z 1) (e 1) (u 2) (t 2) (z 2) (e 2) (u 3) (t 3) (z 3) (e 3) (nI j) = some (nI (cas T), upf u j true 0, upf t j 1 0, upf z j (nI (cas T)) 0, upf e j (sto T (fil 700 0 (e j)) (cas T)) 0, upf u j true 1, upf t j 1 1, upf z j (nI (cas T)) 1, upf e j (sto T (fil 700 0 (e j)) (cas T)) 1, upf u j true 2, upf t j 1 2, upf z j (nI (cas T)) 2, upf e j (sto T (fil 700 0 (e j)) (cas T)) 2, upf u j true 3, upf t j 1 3, upf z j (nI (cas T)) 3, upf e j (sto T (fil 700 0 (e j)) (cas T)) 3) := by
  have hc := cas_le hT
  unfold f_X6_storeActions f_X3_fillWith
  rw [x_isSlot, bd_go, hb_nI (by decide) hj, if_pos rfl, ix_nI hj (by decide), hX.ca]
  have pt : ∀ (f : Nat → Int64) (k : Nat), k < cas T → f_X3_put 1 (sto T f k) (nI k) (dI (actc T k)).toInt64 = some (sto T f (k + 1)) := by
    intro f k hk
    unfold f_X3_put
    rw [nar_dI (actc_10 hT k), bd_go, ix_nI (by omega) (by decide), nI_clamp (by omega), sto_s]
  have ac : ∀ k, k < cas T → f_X4_actionFor tc tru tdf tsi tst tac trw (nI k) = some (dI (actc T k)) := fun k hk => x_action hT hX (by omega)
  rcases four hj with rfl | rfl | rfl | rfl
  · rw [if_pos (show nI 0 = (0 : Int32) from rfl), bd4_go]
    rw [show ((0 : Int32), fil 700 (0 : Int64) (e 0), e 1, e 2, e 3) = (fun k => (nI k, sto T (fil 700 0 (e 0)) k, e 1, e 2, e 3)) 0 by show _ = (nI 0, sto T (fil 700 0 (e 0)) 0, e 1, e 2, e 3); rw [sto_0]; rfl]
    refine wl_for (fun k => (nI k, sto T (fil 700 0 (e 0)) k, e 1, e 2, e 3)) (cas T) (fun k hk => ?_) ?_ (by omega)
    · show f_X6_storeActions_s30 tc (nI (cas T)) tru tdf tsi tst tac trw (u 1) (t 1) (z 1) (u 2) (t 2) (z 2) (u 3) (t 3) (z 3) true 1 (nI (cas T)) (nI k) (sto T (fil 700 0 (e 0)) k) (e 1) (e 2) (e 3) = _
      unfold f_X6_storeActions_s30
      rw [if_neg (nI_ge hk (by omega)), ac k hk, bd_go, pt _ k hk, bd_go, nI_1]
    · show f_X6_storeActions_s30 tc (nI (cas T)) tru tdf tsi tst tac trw (u 1) (t 1) (z 1) (u 2) (t 2) (z 2) (u 3) (t 3) (z 3) true 1 (nI (cas T)) (nI (cas T)) (sto T (fil 700 0 (e 0)) (cas T)) (e 1) (e 2) (e 3) = _
      unfold f_X6_storeActions_s30
      rw [if_pos (Int32.le_refl _)]
      rfl
  · rw [if_neg (show ¬ nI 1 = (0 : Int32) by decide), if_pos (show nI 1 = (1 : Int32) from rfl), bd4_go]
    rw [show ((0 : Int32), e 0, fil 700 (0 : Int64) (e 1), e 2, e 3) = (fun k => (nI k, e 0, sto T (fil 700 0 (e 1)) k, e 2, e 3)) 0 by show _ = (nI 0, e 0, sto T (fil 700 0 (e 1)) 0, e 2, e 3); rw [sto_0]; rfl]
    refine wl_for (fun k => (nI k, e 0, sto T (fil 700 0 (e 1)) k, e 2, e 3)) (cas T) (fun k hk => ?_) ?_ (by omega)
    · show f_X6_storeActions_s30_2 tc (nI (cas T)) tru tdf tsi tst tac trw (u 0) (t 0) (z 0) (u 2) (t 2) (z 2) (u 3) (t 3) (z 3) true 1 (nI (cas T)) (nI k) (e 0) (sto T (fil 700 0 (e 1)) k) (e 2) (e 3) = _
      unfold f_X6_storeActions_s30_2
      rw [if_neg (nI_ge hk (by omega)), ac k hk, bd_go, pt _ k hk, bd_go, nI_1]
    · show f_X6_storeActions_s30_2 tc (nI (cas T)) tru tdf tsi tst tac trw (u 0) (t 0) (z 0) (u 2) (t 2) (z 2) (u 3) (t 3) (z 3) true 1 (nI (cas T)) (nI (cas T)) (e 0) (sto T (fil 700 0 (e 1)) (cas T)) (e 2) (e 3) = _
      unfold f_X6_storeActions_s30_2
      rw [if_pos (Int32.le_refl _)]
      rfl
  · rw [if_neg (show ¬ nI 2 = (0 : Int32) by decide), if_neg (show ¬ nI 2 = (1 : Int32) by decide), if_pos (show nI 2 = (2 : Int32) from rfl), bd4_go]
    rw [show ((0 : Int32), e 0, e 1, fil 700 (0 : Int64) (e 2), e 3) = (fun k => (nI k, e 0, e 1, sto T (fil 700 0 (e 2)) k, e 3)) 0 by show _ = (nI 0, e 0, e 1, sto T (fil 700 0 (e 2)) 0, e 3); rw [sto_0]; rfl]
    refine wl_for (fun k => (nI k, e 0, e 1, sto T (fil 700 0 (e 2)) k, e 3)) (cas T) (fun k hk => ?_) ?_ (by omega)
    · show f_X6_storeActions_s30_3 tc (nI (cas T)) tru tdf tsi tst tac trw (u 0) (t 0) (z 0) (u 1) (t 1) (z 1) (u 3) (t 3) (z 3) true 1 (nI (cas T)) (nI k) (e 0) (e 1) (sto T (fil 700 0 (e 2)) k) (e 3) = _
      unfold f_X6_storeActions_s30_3
      rw [if_neg (nI_ge hk (by omega)), ac k hk, bd_go, pt _ k hk, bd_go, nI_1]
    · show f_X6_storeActions_s30_3 tc (nI (cas T)) tru tdf tsi tst tac trw (u 0) (t 0) (z 0) (u 1) (t 1) (z 1) (u 3) (t 3) (z 3) true 1 (nI (cas T)) (nI (cas T)) (e 0) (e 1) (sto T (fil 700 0 (e 2)) (cas T)) (e 3) = _
      unfold f_X6_storeActions_s30_3
      rw [if_pos (Int32.le_refl _)]
      rfl
  · rw [if_neg (show ¬ nI 3 = (0 : Int32) by decide), if_neg (show ¬ nI 3 = (1 : Int32) by decide), if_neg (show ¬ nI 3 = (2 : Int32) by decide), bd4_go]
    rw [show ((0 : Int32), e 0, e 1, e 2, fil 700 (0 : Int64) (e 3)) = (fun k => (nI k, e 0, e 1, e 2, sto T (fil 700 0 (e 3)) k)) 0 by show _ = (nI 0, e 0, e 1, e 2, sto T (fil 700 0 (e 3)) 0); rw [sto_0]; rfl]
    refine wl_for (fun k => (nI k, e 0, e 1, e 2, sto T (fil 700 0 (e 3)) k)) (cas T) (fun k hk => ?_) ?_ (by omega)
    · show f_X6_storeActions_s30_4 tc (nI (cas T)) tru tdf tsi tst tac trw (u 0) (t 0) (z 0) (u 1) (t 1) (z 1) (u 2) (t 2) (z 2) true 1 (nI (cas T)) (nI k) (e 0) (e 1) (e 2) (sto T (fil 700 0 (e 3)) k) = _
      unfold f_X6_storeActions_s30_4
      rw [if_neg (nI_ge hk (by omega)), ac k hk, bd_go, pt _ k hk, bd_go, nI_1]
    · show f_X6_storeActions_s30_4 tc (nI (cas T)) tru tdf tsi tst tac trw (u 0) (t 0) (z 0) (u 1) (t 1) (z 1) (u 2) (t 2) (z 2) true 1 (nI (cas T)) (nI (cas T)) (e 0) (e 1) (e 2) (sto T (fil 700 0 (e 3)) (cas T)) = _
      unfold f_X6_storeActions_s30_4
      rw [if_pos (Int32.le_refl _)]
      rfl
theorem m_store (hT : TOk T) (hM : MT T mc mru mst msi mwe mco mse mac) (mt ml : Nat → Int32) (it : Nat → Int64) {j : Nat} (hj : j < 4) : f_X7_storeActions mc msi mru mse mac mst mt ml it (nI j) = some (nI (cas T), upd mt j 1, upd ml j (nI (cas T)), stm T (lyI it j 700) j (cas T)) := by
  have hc := cas_le hT
  unfold f_X7_storeActions
  rw [m_isSlot, bd_go, hb_nI (by decide) hj, if_pos rfl, m_cases hT hM, bd_go, m_lay mt ml it hj, bd3_go]
  generalize lyI it j 700 = g
  rw [show ((0 : Int32), g) = (fun k => (nI k, stm T g j k)) 0 by show _ = (nI 0, stm T g j 0); rw [stm_0]; rfl]
  refine wl_for (fun k => (nI k, stm T g j k)) (cas T) (fun k hk => ?_) ?_ (by omega)
  · show f_X7_storeActions_s23 mc msi mru mse mac mst (nI j) (nI (cas T)) (upd mt j 1) (upd ml j (nI (cas T))) (nI k) (stm T g j k) = _
    unfold f_X7_storeActions_s23
    rw [if_neg (nI_ge hk (by omega)), m_action hT hM (by omega), bd_go, show (700 : Int32) = nI 700 from rfl, pk_mul, nI_add, ix_nI (by omega) (by decide), nI_clamp (by omega), stm_s, nI_1]
  · show f_X7_storeActions_s23 mc msi mru mse mac mst (nI j) (nI (cas T)) (upd mt j 1) (upd ml j (nI (cas T))) (nI (cas T)) (stm T g j (cas T)) = _
    unfold f_X7_storeActions_s23
    rw [if_pos (Int32.le_refl _)]
theorem SL_store {u : Nat → Bool} {t z : Nat → Int32} {e : Nat → Nat → Int64} {mt ml : Nat → Int32} {it : Nat → Int64} {j : Nat} {f : Nat → Int64} (h : SL u t z (upf e j f) mt ml it) (hj : j < 4) (T : Tb) {m : Nat} (hm : m ≤ 700) : SL u t z (upf e j (sto T f m)) mt ml (stm T it j m) := by
  intro k hk
  have hh := h k hk
  refine ⟨fun hu => ?_, hh.2⟩
  obtain ⟨ty, sz, a1, a2, a3, a4, a5, a6, a7⟩ := hh.1 hu
  refine ⟨ty, sz, a1, a2, a3, a4, a5, a6, fun l hl => ?_⟩
  have a8 := a7 l hl
  by_cases w : k = j
  · subst w
    rw [upf_e] at a8 ⊢
    unfold sto stm
    by_cases w2 : l < m
    · rw [if_pos w2, if_pos ⟨by omega, by omega⟩, show 700 * k + l - 700 * k = l by omega]
    · rw [if_neg w2, if_neg (by omega)]
      exact a8
  · rw [upf_n _ _ w] at a8 ⊢
    unfold stm
    rw [if_neg (by omega)]
    exact a8
theorem sim_storeActions (hT : TOk T) (hX : XT T tc tca tru tdf tsi tst tco twe tse tac trw) (hM : MT T mc mru mst msi mwe mco mse mac) (h : SL u t z e mt ml it) (x1 : Int32) : ∃ r u' t' z' e' mt' ml' it', f_X6_storeActions tc tca tru tdf tsi tst tac trw (u 0) (t 0) (z 0) (e 0) (u 1) (t 1) (z 1) (e 1) (u 2) (t 2) (z 2) (e 2) (u 3) (t 3) (z 3) (e 3) x1 = some (r, u' 0, t' 0, z' 0, e' 0, u' 1, t' 1, z' 1, e' 1, u' 2, t' 2, z' 2, e' 2, u' 3, t' 3, z' 3, e' 3) ∧ f_X7_storeActions mc msi mru mse mac mst mt ml it x1 = some (r, mt', ml', it') ∧ SL u' t' z' e' mt' ml' it' := by
  have hc := cas_le hT
  cases h1 : hasb 4 x1 with
  | false =>
    exact ⟨-1, u, t, z, e, mt, ml, it, by unfold f_X6_storeActions; rw [x_isSlot, h1, bd_go, if_neg (by decide)], by unfold f_X7_storeActions; rw [m_isSlot, h1, bd_go, if_neg (by decide)], h⟩
  | true =>
    obtain ⟨j, hj, rfl⟩ := hb_t (by decide) h1
    exact ⟨_, _, _, _, _, _, _, _, x_store hT hX u t z e hj, m_store hT hM mt ml it hj, SL_store (SL_lay h hj (ty := 1) (by decide) (show cas T ≤ 700 by omega)) hj T (by omega)⟩
theorem x_comp (u : Nat → Bool) (t z : Nat → Int32) (e : Nat → Nat → Int64) {j : Nat} (hj : j < 4) : f_X6_compareActions tc tca tru tdf tsi tst tac trw (u 0) (t 0) (z 0) (e 0) (u 1) (t 1) (z 1) (e 1) (u 2) (t 2) (z 2) (e 2) (u 3) (t 3) (z 3) (e 3) (nI j) = (if u j = true then (if t j = 1 then (wl (fun q => f_X6_compareActions_s39 tc tca tru tdf tsi tst tac trw (z j) (e j) q) 5000 0) else (some (-12 : Int32))) else (some (-11 : Int32))) := by
  unfold f_X6_compareActions
  rw [x_isSlot, bd_go, hb_nI (by decide) hj, if_pos rfl, ix_nI hj (by decide)]
  rcases four hj with rfl | rfl | rfl | rfl
  · rw [if_pos (show nI 0 = (0 : Int32) from rfl)]
  · rw [if_neg (show ¬ nI 1 = (0 : Int32) by decide), if_pos (show nI 1 = (1 : Int32) from rfl)]; rfl
  · rw [if_neg (show ¬ nI 2 = (0 : Int32) by decide), if_neg (show ¬ nI 2 = (1 : Int32) by decide), if_pos (show nI 2 = (2 : Int32) from rfl)]; rfl
  · rw [if_neg (show ¬ nI 3 = (0 : Int32) by decide), if_neg (show ¬ nI 3 = (1 : Int32) by decide), if_neg (show ¬ nI 3 = (2 : Int32) by decide)]; rfl
theorem eq_compareActions (hT : TOk T) (hX : XT T tc tca tru tdf tsi tst tco twe tse tac trw) (hM : MT T mc mru mst msi mwe mco mse mac) (h : SL u t z e mt ml it) (x1 : Int32) : ∃ r, f_X6_compareActions tc tca tru tdf tsi tst tac trw (u 0) (t 0) (z 0) (e 0) (u 1) (t 1) (z 1) (e 1) (u 2) (t 2) (z 2) (e 2) (u 3) (t 3) (z 3) (e 3) x1 = some r ∧ f_X7_compareActions mc msi mru mse mac mst mt ml it x1 = some r := by
  have hc := cas_le hT
  cases h1 : hasb 4 x1 with
  | false =>
    exact ⟨-1, by unfold f_X6_compareActions; rw [x_isSlot, h1, bd_go, if_neg (by decide)], by unfold f_X7_compareActions; rw [m_isSlot, h1, bd_go, if_neg (by decide)]⟩
  | true =>
    obtain ⟨j, hj, rfl⟩ := hb_t (by decide) h1
    have hh := h j hj
    unfold f_X7_compareActions
    rw [x_comp u t z e hj, m_isSlot, h1, bd_go, if_pos rfl, rd_nI hj (by decide)]
    cases hu : u j with
    | false =>
      rw [if_neg (by decide), if_neg (fun w => by have := hh.mt0.mp w; rw [hu] at this; exact absurd this (by decide))]
      exact ⟨_, rfl, rfl⟩
    | true =>
      obtain ⟨ty, sz, a1, a2, a3, a4, a5, a6, a7⟩ := hh.1 hu
      rw [if_pos rfl, if_pos (hh.mt0.mpr hu), a3, a4]
      by_cases ht : nI ty = (1 : Int32)
      · rw [if_pos ht, if_pos ht, m_cases hT hM, bd_go, hX.ca, a5]
        have key : ∀ (m k n : Nat), k + m = cas T → m < n → ∃ r, wl (fun q => f_X6_compareActions_s39 tc (nI (cas T)) tru tdf tsi tst tac trw (nI sz) (e j) q) n (nI k) = some r ∧ wl (fun q => f_X7_compareActions_s41 mc msi mru mse mac mst ml it (nI j) (nI (cas T)) q) n (nI k) = some r := by
          intro m
          induction m with
          | zero =>
            intro k n hk hn
            obtain rfl : k = cas T := by omega
            obtain ⟨n, rfl⟩ : ∃ k, n = k + 1 := ⟨n - 1, by omega⟩
            refine ⟨-6, wl_r ?_, wl_r ?_⟩
            · unfold f_X6_compareActions_s39
              rw [if_pos (Int32.le_refl _)]
            · unfold f_X7_compareActions_s41
              rw [if_pos (Int32.le_refl _)]
          | succ m ih =>
            intro k n hk hn
            obtain ⟨n, rfl⟩ : ∃ k, n = k + 1 := ⟨n - 1, by omega⟩
            have sx : f_X6_compareActions_s39 tc (nI (cas T)) tru tdf tsi tst tac trw (nI sz) (e j) (nI k) = if k < sz then (if (lg_cmp (e j k) (dI (actc T k)).toInt64) = 0 then some (.inl (nI (k + 1))) else some (.inr (nI k))) else some (.inr (-13)) := by
              unfold f_X6_compareActions_s39
              rw [if_neg (nI_ge (show k < cas T by omega) (by omega)), x_hasI, bd_go]
              by_cases w : k < sz
              · rw [hb_nI (by omega) w, if_pos rfl, if_pos w, rd_nI (by omega) (by decide), x_action hT hX (by omega), bd_go, nI_1]
              · rw [if_neg w, if_neg (fun q => by obtain ⟨j', h1, h2⟩ := hb_t (by omega) q; have := (nI_eq (by omega) (by omega)).mp h2; omega)]
            have sm : f_X7_compareActions_s41 mc msi mru mse mac mst ml it (nI j) (nI (cas T)) (nI k) = if k < sz then (if (lg_cmp (e j k) (dI (actc T k)).toInt64) = 0 then some (.inl (nI (k + 1))) else some (.inr (nI k))) else some (.inr (-13)) := by
              unfold f_X7_compareActions_s41
              rw [if_neg (nI_ge (show k < cas T by omega) (by omega)), nI_clamp (by omega), nm_go, a6]
              by_cases w : k < sz
              · rw [if_pos (nI_lt w (by omega)), if_pos w, show (700 : Int32) = nI 700 from rfl, pk_mul, nI_add, rd_nI (by omega) (by decide), ← a7 k (by omega), m_action hT hM (by omega), bd_go, nI_1]
              · rw [if_neg w, if_neg (nI_nlt (by omega) (by omega))]
            by_cases w : k < sz
            · rw [if_pos w] at sx sm
              by_cases w2 : lg_cmp (e j k) (dI (actc T k)).toInt64 = 0
              · rw [if_pos w2] at sx sm
                rw [wl_c (w := nI (k + 1)) sx, wl_c (w := nI (k + 1)) sm]
                exact ih (k + 1) n (by omega) (by omega)
              · rw [if_neg w2] at sx sm
                exact ⟨_, wl_r sx, wl_r sm⟩
            · rw [if_neg w] at sx sm
              exact ⟨_, wl_r sx, wl_r sm⟩
        exact key (cas T) 0 5000 (by omega) (by omega)
      · rw [if_neg ht, if_neg ht]
        exact ⟨_, rfl, rfl⟩
end A
