/-! the four slots -/
def upf {α : Type} (f : Nat → α) (j : Nat) (v : α) : Nat → α := fun i => if i = j then v else f i
def pk4 {α : Type} (a b c d : α) : Nat → α := fun i => if i = 0 then a else if i = 1 then b else if i = 2 then c else d
def SR (u : Bool) (t z : Int32) (e : Nat → Int64) (mt ml : Int32) (j : Nat) (it : Nat → Int64) : Prop := (u = true → ∃ ty sz, ty ≤ 3 ∧ sz ≤ 700 ∧ t = nI ty ∧ mt = nI ty ∧ z = nI sz ∧ ml = nI sz ∧ ∀ i, i < 700 → e i = it (700 * j + i)) ∧ (u = false → mt = -1)
def SL (u : Nat → Bool) (t z : Nat → Int32) (e : Nat → Nat → Int64) (mt ml : Nat → Int32) (it : Nat → Int64) : Prop := ∀ j, j < 4 → SR (u j) (t j) (z j) (e j) (mt j) (ml j) j it
theorem four {j : Nat} (h : j < 4) : j = 0 ∨ j = 1 ∨ j = 2 ∨ j = 3 := by omega
theorem upf_e {α : Type} (f : Nat → α) (j : Nat) (v : α) : upf f j v j = v := if_pos rfl
theorem upf_n {α : Type} (f : Nat → α) {j i : Nat} (v : α) (h : ¬ i = j) : upf f j v i = f i := if_neg h
theorem x_isSlot (x : Int32) : f_X6_isSlot x = some (hasb 4 x) := by
  unfold f_X6_isSlot hasb
  by_cases q : x < 0
  · rw [if_pos q, decide_eq_false (fun w => w.1 q)]
  · rw [if_neg q]
    by_cases q2 : (4 : Int32) ≤ x
    · rw [if_pos q2, decide_eq_false (fun w => w.2 q2)]
    · rw [if_neg q2, decide_eq_true ⟨q, q2⟩]
theorem m_isSlot (x : Int32) : f_X7_isSlot x = some (hasb 4 x) := by
  unfold f_X7_isSlot
  rw [show (3 : Int32) = nI 4 - (1 : Int32) from rfl, m_in0 (by decide), bd_go]
theorem x_hasI (n : Nat) (x : Int32) : f_X3_hasIndex (nI n) x = some (hasb n x) := x_hasC n x
theorem nar_eq (t : Int32) (x : Int64) : f_X3_narrow t x = f_X7_narrowed t x := rfl
theorem nar_some (t : Int32) (x : Int64) : ∃ y, f_X7_narrowed t x = some y := by
  unfold f_X7_narrowed
  by_cases h0 : t = 0
  · rw [if_pos h0]
    by_cases h1 : lg_cmp x (0 : Int64) = 0
    · rw [if_pos h1]; exact ⟨_, rfl⟩
    · rw [if_neg h1]; exact ⟨_, rfl⟩
  · rw [if_neg h0]
    by_cases h1 : t = 1
    · rw [if_pos h1]; exact ⟨_, rfl⟩
    · rw [if_neg h1]
      by_cases h2 : t = 2
      · rw [if_pos h2]; exact ⟨_, rfl⟩
      · rw [if_neg h2]; exact ⟨_, rfl⟩
def lyI (it : Nat → Int64) (j k : Nat) : Nat → Int64 := fun i => if 700 * j ≤ i ∧ i < 700 * j + k then 0 else it i
theorem m_lay (mt ml : Nat → Int32) (it : Nat → Int64) {j : Nat} (hj : j < 4) (x2 x3 : Int32) : f_X7_lay mt ml it (nI j) x2 x3 = some (upd mt j x2, upd ml j x3, lyI it j 700) := by
  unfold f_X7_lay
  rw [ix_nI hj (by decide)]
  have e0 : it = lyI it j 0 := by
    funext i
    unfold lyI
    rw [if_neg (by omega)]
  rw [show ((0 : Int32), it) = (fun k => (nI k, lyI it j k)) 0 by show _ = (nI 0, lyI it j 0); rw [← e0]; rfl]
  refine wl_for (fun k => (nI k, lyI it j k)) 700 (fun k hk => ?_) ?_ (by omega)
  · show f_X7_lay_s17 mt ml (nI j) x2 x3 (nI k) (lyI it j k) = _
    unfold f_X7_lay_s17
    rw [if_neg (show ¬ (700 : Int32) ≤ nI k from nI_ge (b := 700) hk (by omega)), show (700 : Int32) = nI 700 from rfl, pk_mul, nI_add, ix_nI (by omega) (by decide), nI_clamp (by omega), nI_1]
    have : vp_updL (lyI it j k) (700 * j + k) 0 = lyI it j (k + 1) := by
      funext i
      unfold vp_updL lyI
      by_cases e : i = 700 * j + k
      · rw [if_pos e, if_pos ⟨by omega, by omega⟩]
      · rw [if_neg e]
        by_cases e2 : 700 * j ≤ i ∧ i < 700 * j + k
        · rw [if_pos e2, if_pos ⟨e2.1, by omega⟩]
        · rw [if_neg e2, if_neg (fun w => e2 ⟨w.1, by omega⟩)]
    rw [this]
  · show f_X7_lay_s17 mt ml (nI j) x2 x3 (nI 700) (lyI it j 700) = _
    unfold f_X7_lay_s17
    rw [if_pos (show (700 : Int32) ≤ nI 700 by decide), nI_clamp (by omega)]
section L
variable {u : Nat → Bool} {t z : Nat → Int32} {e : Nat → Nat → Int64} {mt ml : Nat → Int32} {it : Nat → Int64}
theorem SL_lay (h : SL u t z e mt ml it) {j ty sz : Nat} (hj : j < 4) (hty : ty ≤ 3) (hsz : sz ≤ 700) : SL (upf u j true) (upf t j (nI ty)) (upf z j (nI sz)) (upf e j (fil 700 0 (e j))) (upd mt j (nI ty)) (upd ml j (nI sz)) (lyI it j 700) := by
  intro i hi
  by_cases q : i = j
  · subst q
    rw [upf_e, upf_e, upf_e, upf_e]
    refine ⟨fun _ => ⟨ty, sz, hty, hsz, rfl, if_pos rfl, rfl, if_pos rfl, fun k hk => ?_⟩, fun w => absurd w (by decide)⟩
    unfold fil lyI
    rw [if_pos hk, if_pos ⟨by omega, by omega⟩]
  · rw [upf_n _ _ q, upf_n _ _ q, upf_n _ _ q, upf_n _ _ q]
    have hh := h i hi
    refine ⟨fun hu => ?_, fun hu => ?_⟩
    · obtain ⟨ty', sz', a1, a2, a3, a4, a5, a6, a7⟩ := hh.1 hu
      refine ⟨ty', sz', a1, a2, a3, (if_neg q).trans a4, a5, (if_neg q).trans a6, fun k hk => ?_⟩
      unfold lyI
      rw [if_neg (by omega)]
      exact a7 k hk
    · exact (if_neg q).trans (hh.2 hu)
theorem x_alloc (u : Nat → Bool) (t z : Nat → Int32) (e : Nat → Nat → Int64) {j : Nat} (hj : j < 4) {x2 x3 : Int32} (h2 : ¬ x2 < 0) (h3 : ¬ (3 : Int32) < x2) (h4 : x3 ≤ 700) (h5 : 0 ≤ x3) : f_X6_allocate (u 0) (t 0) (z 0) (e 0) (u 1) (t 1) (z 1) (e 1) (u 2) (t 2) (z 2) (e 2) (u 3) (t 3) (z 3) (e 3) (nI j) x2 x3 = some (x3, upf u j true 0, upf t j x2 0, upf z j x3 0, upf e j (fil 700 0 (e j)) 0, upf u j true 1, upf t j x2 1, upf z j x3 1, upf e j (fil 700 0 (e j)) 1, upf u j true 2, upf t j x2 2, upf z j x3 2, upf e j (fil 700 0 (e j)) 2, upf u j true 3, upf t j x2 3, upf z j x3 3, upf e j (fil 700 0 (e j)) 3) := by
  unfold f_X6_allocate
  rw [x_isSlot, bd_go, hb_nI (by decide) hj, if_pos rfl, if_neg h2, if_neg h3, if_pos h4, if_pos h5, ix_nI hj (by decide)]
  rcases four hj with rfl | rfl | rfl | rfl
  · rw [if_pos (show nI 0 = (0 : Int32) from rfl)]; rfl
  · rw [if_neg (show ¬ nI 1 = (0 : Int32) by decide), if_pos (show nI 1 = (1 : Int32) from rfl)]; rfl
  · rw [if_neg (show ¬ nI 2 = (0 : Int32) by decide), if_neg (show ¬ nI 2 = (1 : Int32) by decide), if_pos (show nI 2 = (2 : Int32) from rfl)]; rfl
  · rw [if_neg (show ¬ nI 3 = (0 : Int32) by decide), if_neg (show ¬ nI 3 = (1 : Int32) by decide), if_neg (show ¬ nI 3 = (2 : Int32) by decide)]; rfl
theorem sim_allocate (h : SL u t z e mt ml it) (x1 x2 x3 : Int32) : ∃ r u' t' z' e' mt' ml' it', f_X6_allocate (u 0) (t 0) (z 0) (e 0) (u 1) (t 1) (z 1) (e 1) (u 2) (t 2) (z 2) (e 2) (u 3) (t 3) (z 3) (e 3) x1 x2 x3 = some (r, u' 0, t' 0, z' 0, e' 0, u' 1, t' 1, z' 1, e' 1, u' 2, t' 2, z' 2, e' 2, u' 3, t' 3, z' 3, e' 3) ∧ f_X7_allocate mt ml it x1 x2 x3 = some (r, mt', ml', it') ∧ SL u' t' z' e' mt' ml' it' := by
  have stay : ∀ r : Int32, f_X6_allocate (u 0) (t 0) (z 0) (e 0) (u 1) (t 1) (z 1) (e 1) (u 2) (t 2) (z 2) (e 2) (u 3) (t 3) (z 3) (e 3) x1 x2 x3 = some (r, u 0, t 0, z 0, e 0, u 1, t 1, z 1, e 1, u 2, t 2, z 2, e 2, u 3, t 3, z 3, e 3) → f_X7_allocate mt ml it x1 x2 x3 = some (r, mt, ml, it) → ∃ r u' t' z' e' mt' ml' it', f_X6_allocate (u 0) (t 0) (z 0) (e 0) (u 1) (t 1) (z 1) (e 1) (u 2) (t 2) (z 2) (e 2) (u 3) (t 3) (z 3) (e 3) x1 x2 x3 = some (r, u' 0, t' 0, z' 0, e' 0, u' 1, t' 1, z' 1, e' 1, u' 2, t' 2, z' 2, e' 2, u' 3, t' 3, z' 3, e' 3) ∧ f_X7_allocate mt ml it x1 x2 x3 = some (r, mt', ml', it') ∧ SL u' t' z' e' mt' ml' it' := fun r a b => ⟨r, u, t, z, e, mt, ml, it, a, b, h⟩
  have ex : f_X6_isSlot x1 = some (hasb 4 x1) := x_isSlot x1
  have em : f_X7_isSlot x1 = some (hasb 4 x1) := m_isSlot x1
  cases h1 : hasb 4 x1 with
  | false =>
    rw [h1] at ex em
    exact stay (-1) (by unfold f_X6_allocate; rw [ex, bd_go, if_neg (by decide)]) (by unfold f_X7_allocate; rw [em, bd_go, if_neg (by decide)])
  | true =>
    rw [h1] at ex em
    obtain ⟨j, hj, rfl⟩ := hb_t (by decide) h1
    cases h2 : inb x2 0 3 with
    | false =>
      refine stay (-1) ?_ (by unfold f_X7_allocate; rw [em, bd_go, if_pos rfl, m_in, h2, bd_go, if_neg (by decide)])
      unfold f_X6_allocate
      rw [ex, bd_go, if_pos rfl]
      by_cases w1 : x2 < 0
      · rw [if_pos w1]
      · rw [if_neg w1, if_pos (show (3 : Int32) < x2 from Decidable.byContradiction fun w2 => by
          have : inb x2 0 3 = true := decide_eq_true ⟨w1, w2⟩
          rw [this] at h2
          exact absurd h2 (by decide))]
    | true =>
      obtain ⟨w1, w2⟩ := inb_t h2
      by_cases h3 : x3 ≤ 700
      · by_cases h4 : 0 ≤ x3
        · obtain ⟨ty, _, hty, rfl⟩ := inb_nI (a := 0) (b := 3) (by decide) h2 (by decide)
          obtain ⟨sz, _, hsz, rfl⟩ := inb_nI (x := x3) (a := 0) (b := 700) (by decide) (decide_eq_true ⟨Int32.not_lt.mpr h4, Int32.not_lt.mpr h3⟩) (by decide)
          refine ⟨_, _, _, _, _, _, _, _, x_alloc u t z e hj w1 w2 h3 h4, ?_, SL_lay h hj hty hsz⟩
          unfold f_X7_allocate
          rw [em, bd_go, if_pos rfl, m_in, h2, bd_go, if_pos rfl, if_pos h3, if_pos h4, m_lay mt ml it hj, bd3_go]
        · exact stay (-14) (by unfold f_X6_allocate; rw [ex, bd_go, if_pos rfl, if_neg w1, if_neg w2, if_pos h3, if_neg h4]) (by unfold f_X7_allocate; rw [em, bd_go, if_pos rfl, m_in, h2, bd_go, if_pos rfl, if_pos h3, if_neg h4])
      · exact stay (-1) (by unfold f_X6_allocate; rw [ex, bd_go, if_pos rfl, if_neg w1, if_neg w2, if_neg h3]) (by unfold f_X7_allocate; rw [em, bd_go, if_pos rfl, m_in, h2, bd_go, if_pos rfl, if_neg h3])
theorem x_rel (u : Nat → Bool) {j : Nat} (hj : j < 4) : f_X6_release (u 0) (u 1) (u 2) (u 3) (nI j) = some ((if u j = true then (1 : Int32) else 0), upf u j false 0, upf u j false 1, upf u j false 2, upf u j false 3) := by
  unfold f_X6_release
  rw [x_isSlot, bd_go, hb_nI (by decide) hj, if_pos rfl, ix_nI hj (by decide)]
  rcases four hj with rfl | rfl | rfl | rfl
  · rw [if_pos (show nI 0 = (0 : Int32) from rfl)]; cases u 0 <;> rfl
  · rw [if_neg (show ¬ nI 1 = (0 : Int32) by decide), if_pos (show nI 1 = (1 : Int32) from rfl)]; cases u 1 <;> rfl
  · rw [if_neg (show ¬ nI 2 = (0 : Int32) by decide), if_neg (show ¬ nI 2 = (1 : Int32) by decide), if_pos (show nI 2 = (2 : Int32) from rfl)]; cases u 2 <;> rfl
  · rw [if_neg (show ¬ nI 3 = (0 : Int32) by decide), if_neg (show ¬ nI 3 = (1 : Int32) by decide), if_neg (show ¬ nI 3 = (2 : Int32) by decide)]; cases u 3 <;> rfl
theorem SR.mt0 {u : Bool} {t z : Int32} {e : Nat → Int64} {m l : Int32} {j : Nat} {it : Nat → Int64} (h : SR u t z e m l j it) : (0 ≤ m) ↔ u = true := by
  cases u with
  | true =>
    obtain ⟨ty, sz, a1, a2, a3, a4, _⟩ := h.1 rfl
    rw [a4]
    exact ⟨fun _ => rfl, fun _ => nI_pos' (by omega)⟩
  | false =>
    rw [h.2 rfl]
    exact ⟨fun w => absurd w (by decide), fun w => absurd w (by decide)⟩
theorem sim_release (h : SL u t z e mt ml it) (x1 : Int32) : ∃ r u' mt', f_X6_release (u 0) (u 1) (u 2) (u 3) x1 = some (r, u' 0, u' 1, u' 2, u' 3) ∧ f_X7_release mt x1 = some (r, mt') ∧ SL u' t z e mt' ml it := by
  have ex : f_X6_isSlot x1 = some (hasb 4 x1) := x_isSlot x1
  have em : f_X7_isSlot x1 = some (hasb 4 x1) := m_isSlot x1
  cases h1 : hasb 4 x1 with
  | false =>
    rw [h1] at ex em
    exact ⟨-1, u, mt, by unfold f_X6_release; rw [ex, bd_go, if_neg (by decide)], by unfold f_X7_release; rw [em, bd_go, if_neg (by decide)], h⟩
  | true =>
    rw [h1] at ex em
    obtain ⟨j, hj, rfl⟩ := hb_t (by decide) h1
    refine ⟨_, _, upd mt j (-1), x_rel u hj, ?_, fun i hi => ?_⟩
    · unfold f_X7_release
      rw [em, bd_go, if_pos rfl, rd_nI hj (by decide), nI_clamp (by omega)]
      by_cases q : u j = true
      · rw [if_pos ((h j hj).mt0.mpr q), if_pos q]
      · rw [if_neg (fun w => q ((h j hj).mt0.mp w)), if_neg q]
    · by_cases q : i = j
      · subst q
        rw [upf_e]
        exact ⟨fun w => absurd w (by decide), fun _ => if_pos rfl⟩
      · rw [upf_n _ _ q]
        have e : upd mt j (-1) i = mt i := if_neg q
        rw [e]
        exact h i hi
theorem x_putE (u : Nat → Bool) (t z : Nat → Int32) (e : Nat → Nat → Int64) {j : Nat} (hj : j < 4) (x2 : Int32) (x3 : Int64) : f_X6_putElement (u 0) (t 0) (z 0) (e 0) (u 1) (t 1) (z 1) (e 1) (u 2) (t 2) (z 2) (e 2) (u 3) (t 3) (z 3) (e 3) (nI j) x2 x3 = (if u j = true then (Option.bind (f_X3_hasIndex (z j) x2) fun z31 => (if z31 = true then (Option.bind (f_X3_put (t j) (e j) x2 x3) fun w48_0 => (some ((1 : Int32), upf e j w48_0 0, upf e j w48_0 1, upf e j w48_0 2, upf e j w48_0 3))) else (some ((-13 : Int32), e 0, e 1, e 2, e 3)))) else (some ((-11 : Int32), e 0, e 1, e 2, e 3))) := by
  unfold f_X6_putElement
  rw [x_isSlot, bd_go, hb_nI (by decide) hj, if_pos rfl, ix_nI hj (by decide)]
  rcases four hj with rfl | rfl | rfl | rfl
  · rw [if_pos (show nI 0 = (0 : Int32) from rfl)]; rfl
  · rw [if_neg (show ¬ nI 1 = (0 : Int32) by decide), if_pos (show nI 1 = (1 : Int32) from rfl)]; rfl
  · rw [if_neg (show ¬ nI 2 = (0 : Int32) by decide), if_neg (show ¬ nI 2 = (1 : Int32) by decide), if_pos (show nI 2 = (2 : Int32) from rfl)]; rfl
  · rw [if_neg (show ¬ nI 3 = (0 : Int32) by decide), if_neg (show ¬ nI 3 = (1 : Int32) by decide), if_neg (show ¬ nI 3 = (2 : Int32) by decide)]; rfl
theorem SL_put (h : SL u t z e mt ml it) {j i : Nat} (hj : j < 4) (hi : i < 700) (y : Int64) : SL u t z (upf e j (vp_updL (e j) i y)) mt ml (vp_updL it (700 * j + i) y) := by
  intro k hk
  have hh := h k hk
  refine ⟨fun hu => ?_, hh.2⟩
  obtain ⟨ty, sz, a1, a2, a3, a4, a5, a6, a7⟩ := hh.1 hu
  refine ⟨ty, sz, a1, a2, a3, a4, a5, a6, fun l hl => ?_⟩
  by_cases q : k = j
  · subst q
    rw [upf_e]
    unfold vp_updL
    by_cases q2 : l = i
    · rw [if_pos q2, if_pos (by omega)]
    · rw [if_neg q2, if_neg (by omega)]
      exact a7 l hl
  · rw [upf_n _ _ q]
    unfold vp_updL
    rw [if_neg (by omega)]
    exact a7 l hl
theorem sim_putElement (h : SL u t z e mt ml it) (x1 x2 : Int32) (x3 : Int64) : ∃ r e' it', f_X6_putElement (u 0) (t 0) (z 0) (e 0) (u 1) (t 1) (z 1) (e 1) (u 2) (t 2) (z 2) (e 2) (u 3) (t 3) (z 3) (e 3) x1 x2 x3 = some (r, e' 0, e' 1, e' 2, e' 3) ∧ f_X7_putElement mt ml it x1 x2 x3 = some (r, it') ∧ SL u t z e' mt ml it' := by
  have ex : f_X6_isSlot x1 = some (hasb 4 x1) := x_isSlot x1
  have em : f_X7_isSlot x1 = some (hasb 4 x1) := m_isSlot x1
  cases h1 : hasb 4 x1 with
  | false =>
    rw [h1] at ex em
    exact ⟨-1, e, it, by unfold f_X6_putElement; rw [ex, bd_go, if_neg (by decide)], by unfold f_X7_putElement; rw [em, bd_go, if_neg (by decide)], h⟩
  | true =>
    rw [h1] at ex em
    obtain ⟨j, hj, rfl⟩ := hb_t (by decide) h1
    have hh := h j hj
    unfold f_X7_putElement
    rw [x_putE u t z e hj, em, bd_go, if_pos rfl, rd_nI hj (by decide), nI_clamp (by omega), nm_go]
    cases hu : u j with
    | false =>
      rw [if_neg (by decide), if_neg (fun w => by have := hh.mt0.mp w; rw [hu] at this; exact absurd this (by decide))]
      exact ⟨_, e, it, rfl, rfl, h⟩
    | true =>
      obtain ⟨ty, sz, a1, a2, a3, a4, a5, a6, a7⟩ := hh.1 hu
      rw [if_pos rfl, if_pos (hh.mt0.mpr hu), a5, a6, x_hasI, bd_go, m_in0 (by omega), bd_go]
      cases h2 : hasb sz x2 with
      | false =>
        rw [if_neg (by decide), if_neg (by decide)]
        exact ⟨_, e, it, rfl, rfl, h⟩
      | true =>
        obtain ⟨i, hi, rfl⟩ := hb_t (by omega) h2
        obtain ⟨y, hy⟩ := nar_some (nI ty) x3
        rw [if_pos rfl, if_pos rfl, a4, hy, bd_go]
        unfold f_X3_put
        rw [a3, nar_eq, hy, bd_go, ix_nI (by omega) (by decide), bd_go, show (700 : Int32) = nI 700 from rfl, pk_mul, nI_add, ix_nI (by omega) (by decide), nI_clamp (by omega), nI_clamp (by omega)]
        exact ⟨_, _, _, rfl, rfl, SL_put h hj (by omega) y⟩
theorem x_elem (u : Nat → Bool) (z : Nat → Int32) (e : Nat → Nat → Int64) {j : Nat} (hj : j < 4) (x2 : Int32) : f_X6_element (u 0) (z 0) (e 0) (u 1) (z 1) (e 1) (u 2) (z 2) (e 2) (u 3) (z 3) (e 3) (nI j) x2 = (if u j = true then (Option.bind (f_X3_hasIndex (z j) x2) fun z26 => (if z26 = true then (rd 700 (e j) x2 fun z46 => (some z46)) else (some (-9223372036854775808 : Int64)))) else (some (-9223372036854775808 : Int64))) := by
  unfold f_X6_element
  rw [x_isSlot, bd_go, hb_nI (by decide) hj, if_pos rfl, ix_nI hj (by decide)]
  rcases four hj with rfl | rfl | rfl | rfl
  · rw [if_pos (show nI 0 = (0 : Int32) from rfl)]
  · rw [if_neg (show ¬ nI 1 = (0 : Int32) by decide), if_pos (show nI 1 = (1 : Int32) from rfl)]
  · rw [if_neg (show ¬ nI 2 = (0 : Int32) by decide), if_neg (show ¬ nI 2 = (1 : Int32) by decide), if_pos (show nI 2 = (2 : Int32) from rfl)]
  · rw [if_neg (show ¬ nI 3 = (0 : Int32) by decide), if_neg (show ¬ nI 3 = (1 : Int32) by decide), if_neg (show ¬ nI 3 = (2 : Int32) by decide)]
theorem eq_element (h : SL u t z e mt ml it) (x1 x2 : Int32) : ∃ r, f_X6_element (u 0) (z 0) (e 0) (u 1) (z 1) (e 1) (u 2) (z 2) (e 2) (u 3) (z 3) (e 3) x1 x2 = some r ∧ f_X7_element mt ml it x1 x2 = some r := by
  have ex : f_X6_isSlot x1 = some (hasb 4 x1) := x_isSlot x1
  have em : f_X7_isSlot x1 = some (hasb 4 x1) := m_isSlot x1
  cases h1 : hasb 4 x1 with
  | false =>
    rw [h1] at ex em
    exact ⟨-9223372036854775808, by unfold f_X6_element; rw [ex, bd_go, if_neg (by decide)], by unfold f_X7_element; rw [em, bd_go, if_neg (by decide)]⟩
  | true =>
    rw [h1] at ex em
    obtain ⟨j, hj, rfl⟩ := hb_t (by decide) h1
    have hh := h j hj
    unfold f_X7_element
    rw [x_elem u z e hj, em, bd_go, if_pos rfl, rd_nI hj (by decide), nI_clamp (by omega), nm_go]
    cases hu : u j with
    | false =>
      rw [if_neg (by decide), if_pos (by rw [hh.2 hu]; decide)]
      exact ⟨_, rfl, rfl⟩
    | true =>
      obtain ⟨ty, sz, a1, a2, a3, a4, a5, a6, a7⟩ := hh.1 hu
      rw [if_pos rfl, if_neg (by rw [a4]; exact nI_pos (by omega)), a5, a6, x_hasI, bd_go, m_in0 (by omega), bd_go]
      cases h2 : hasb sz x2 with
      | false =>
        rw [if_neg (by decide), if_neg (by decide)]
        exact ⟨_, rfl, rfl⟩
      | true =>
        obtain ⟨i, hi, rfl⟩ := hb_t (by omega) h2
        rw [if_pos rfl, if_pos rfl, rd_nI (by omega) (by decide), show (700 : Int32) = nI 700 from rfl, pk_mul, nI_add, rd_nI (by omega) (by decide), a7 i (by omega)]
        exact ⟨_, rfl, rfl⟩
end L
