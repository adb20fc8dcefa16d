/-! the children of a node -/
section C
variable {T : Tb} {tc tca tru tdf : Int32} {tsi tst tco twe tse tac trw : Nat → Int32} {mc mru mst : Int32} {msi mwe mco mse mac : Nat → Int32} {ec ew : Int32} {ex : Int64} {et ea ee ed : Nat → Int32} {mno : Int32} {mq ma mz md mp : Nat → Int32} {mex : Int64}
/-- the place of child v of the node at i, which stands for the part d -/
def cpo (T : Tb) (i m : Nat) (d : Nat → Nat) (dep sp v : Nat) : Nat := i + 1 + (cat (fun v => nd T m (upf d (bst T d) v) (dep + 1) (sp + tk T (bst T d))) v).length
theorem cpo_s (T : Tb) (i m : Nat) (d : Nat → Nat) (dep sp v : Nat) : cpo T i m d dep sp (v + 1) = cpo T i m d dep sp v + (nd T m (upf d (bst T d) v) (dep + 1) (sp + tk T (bst T d))).length := by
  unfold cpo
  rw [cat, List.length_append, Nat.add_assoc (i + 1)]
theorem cpo_in (hT : TOk T) {i m dep sp : Nat} {d : Nat → Nat} (hoc : oc T d (tn T) = m + 1) (hS : Sv T d = 11) (h : SEG T (TL T) i (m + 1) d dep sp) {v : Nat} (hv : v < tz T (bst T d)) : cpo T i m d dep sp v < (TL T).length ∧ (TL T)[cpo T i m d dep sp v]? = some (hdq T (upf d (bst T d) v) (dep + 1) (sp + tk T (bst T d))) ∧ (hdq T (upf d (bst T d) v) (dep + 1) (sp + tk T (bst T d))).2.2.1 = (nd T m (upf d (bst T d) v) (dep + 1) (sp + tk T (bst T d))).length := by
  obtain ⟨b1, b2, b3⟩ := bst_lt hT hS
  have ho : oc T (upf d (bst T d) v) (tn T) = m := by have := oc_upf b2 hv (tn T) b1; omega
  have hc := seg_child hS h hv
  have hg := seg_get hT ho hc
  refine ⟨?_, hg, hdq_len hT _ _ ho⟩
  rcases Nat.lt_or_ge (cpo T i m d dep sp v) (TL T).length with w | w
  · exact w
  · have : (TL T)[cpo T i m d dep sp v]? = none := List.getElem?_eq_none w
    unfold cpo at this
    rw [hg] at this
    cases this
theorem x_branch (hT : TOk T) (hA : XA et ea ee ed 0 (TL T)) {i m dep sp : Nat} {d : Nat → Nat} (hoc : oc T d (tn T) = m + 1) (hS : Sv T d = 11) (h : SEG T (TL T) i (m + 1) d dep sp) {v : Nat} (hv : v < tz T (bst T d)) : f_X5_branch (nI (TL T).length) ee (nI i) (nI v) = some (nI (cpo T i m d dep sp v)) := by
  have hb := TL_b hT
  have hz5 := hT.z5 (bst T d)
  unfold f_X5_branch
  rw [nI_1]
  refine wl_for (fun w => (nI (cpo T i m d dep sp w), nI w)) v (fun w hw => ?_) ?_ (by omega)
  · show f_X5_branch_s7 (nI (TL T).length) ee (nI v) (nI (cpo T i m d dep sp w)) (nI w) = some (.inl (nI (cpo T i m d dep sp (w + 1)), nI (w + 1)))
    obtain ⟨c1, c2, c3⟩ := cpo_in hT hoc hS h (show w < tz T (bst T d) by omega)
    have a := (hA _ _ c2).2.2.1
    rw [Nat.zero_add, c3] at a
    unfold f_X5_branch_s7
    rw [if_neg (nI_ge hw (by omega)), if_neg (nI_ge c1 (by omega)), rd_nI (by omega) (by decide), a, nI_add, nI_1, cpo_s]
  · show f_X5_branch_s7 (nI (TL T).length) ee (nI v) (nI (cpo T i m d dep sp v)) (nI v) = _
    unfold f_X5_branch_s7
    rw [if_pos (Int32.le_refl _)]
theorem m_branch (hT : TOk T) (hA : MA mq ma mz md mp 0 (TL T)) {i m dep sp : Nat} {d : Nat → Nat} (hoc : oc T d (tn T) = m + 1) (hS : Sv T d = 11) (h : SEG T (TL T) i (m + 1) d dep sp) {v : Nat} (hv : v < tz T (bst T d)) : f_X7_childOf mz (nI i) (nI v) = some (nI (cpo T i m d dep sp v)) := by
  have hb := TL_b hT
  have hz5 := hT.z5 (bst T d)
  unfold f_X7_childOf
  rw [nI_1]
  refine wl_for (fun w => (nI (cpo T i m d dep sp w), nI w)) v (fun w hw => ?_) ?_ (by omega)
  · show f_X7_childOf_s7 mz (nI v) (nI (cpo T i m d dep sp w)) (nI w) = some (.inl (nI (cpo T i m d dep sp (w + 1)), nI (w + 1)))
    obtain ⟨c1, c2, c3⟩ := cpo_in hT hoc hS h (show w < tz T (bst T d) by omega)
    have a := (hA _ _ c2).2.2.1
    rw [Nat.zero_add, c3] at a
    unfold f_X7_childOf_s7
    rw [if_neg (nI_ge hw (by omega)), rd_nI (by omega) (by decide), a, nI_add, nI_1, cpo_s]
  · show f_X7_childOf_s7 mz (nI v) (nI (cpo T i m d dep sp v)) (nI v) = _
    unfold f_X7_childOf_s7
    rw [if_pos (Int32.le_refl _)]
theorem hdq_t {d : Nat → Nat} (hS : Sv T d = 11) (dep sp : Nat) : (hdq T d dep sp).1 = bst T d + 1 := by
  unfold hdq
  rw [if_pos hS]
theorem hdq_l {d : Nat → Nat} (hS : ¬ Sv T d = 11) (dep sp : Nat) : (hdq T d dep sp).1 = 0 := by
  unfold hdq
  rw [if_neg hS]
theorem oc_suc (hT : TOk T) {d : Nat → Nat} (hS : Sv T d = 11) : ∃ m, oc T d (tn T) = m + 1 := by
  have hf := Sv_mix hT hS
  have hp := oc_pos (fo_open hf) (tn T) hf
  exact ⟨oc T d (tn T) - 1, by omega⟩
theorem eq_child (hT : TOk T) (hX : XT T tc tca tru tdf tsi tst tco twe tse tac trw) (hM : MT T mc mru mst msi mwe mco mse mac) (cb : Bool) (h : cb = true → TR T ec ew ex et ea ee ed mno mq ma mz md mp mex) (x1 x2 : Int32) : ∃ r, f_X6_child cb tc tsi ec et ee x1 x2 = some r ∧ f_X7_child msi cb mno mq mz x1 x2 = some r := by
  have h4 := hT.n4
  unfold f_X6_child f_X7_child
  cases cb with
  | false => exact ⟨_, rfl, rfl⟩
  | true =>
    obtain ⟨r1, r2, r3, r4, r5, r6⟩ := h rfl
    have hb := TL_b hT
    rw [if_pos rfl, if_pos rfl, r1, r2, x_hasN, bd_go, m_isNode (by omega), bd_go]
    cases h1 : hasb (TL T).length x1 with
    | false => exact ⟨_, rfl, rfl⟩
    | true =>
      obtain ⟨i, hi, rfl⟩ := hb_t (by omega) h1
      obtain ⟨m, d, dep, sp, g1, g2, g3, g4⟩ := TL_seg hT hi
      have hq := seg_get hT g1 g4
      have a := (r5 i _ hq).1
      have b := (r6 i _ hq).1
      rw [Nat.zero_add] at a b
      rw [if_pos rfl, if_pos rfl, rd_nI (by omega) (by decide), rd_nI (by omega) (by decide), a, b]
      by_cases hS : Sv T d = 11
      · obtain ⟨b1, b2, b3⟩ := bst_lt hT hS
        have hz5 := hT.z5 (bst T d)
        obtain ⟨k, hk⟩ := oc_suc hT hS
        obtain rfl : m = k + 1 := by omega
        rw [hdq_t hS]
        rw [show dI (bst T d + 1) = nI (bst T d) from rfl, show d6 (bst T d + 1) = nI (bst T d) from if_neg (by omega), x_hasV hT hX b1, bd_go, if_neg (nI_m6 (by omega)), rd_nI (by omega) (by decide), hM.z (by omega), m_in0 (by omega), bd_go]
        cases h2 : hasb (tz T (bst T d)) x2 with
        | false => exact ⟨_, rfl, rfl⟩
        | true =>
          obtain ⟨v, hv, rfl⟩ := hb_t (by omega) h2
          rw [if_pos rfl, if_pos rfl, x_branch hT r5 hk hS g4 hv, bd_go, m_branch hT r6 hk hS g4 hv, bd_go]
          exact ⟨_, rfl, rfl⟩
      · rw [hdq_l hS, show d6 0 = (-6 : Int32) from rfl, if_pos rfl]
        have : f_X4_hasValue tc tsi (dI 0) x2 = some false := by
          unfold f_X4_hasValue
          rw [hX.n, x_hasC, bd_go, show hasb (tn T) (dI 0) = false from decide_eq_false (fun w => w.1 (by decide)), if_neg (by decide)]
        rw [this, bd_go]
        exact ⟨_, rfl, rfl⟩
end C
