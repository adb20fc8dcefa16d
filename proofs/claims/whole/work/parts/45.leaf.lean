/-! the leaf of a case -/
section C
variable {T : Tb} {tc tca tru tdf : Int32} {tsi tst tco twe tse tac trw : Nat → Int32} {mc mru mst : Int32} {msi mwe mco mse mac : Nat → Int32} {ec ew : Int32} {ex : Int64} {et ea ee ed : Nat → Int32} {mno : Int32} {mq ma mz md mp : Nat → Int32} {mex : Int64}
theorem walk (hT : TOk T) (hX : XT T tc tca tru tdf tsi tst tco twe tse tac trw) (hM : MT T mc mru mst msi mwe mco mse mac) (hA : XA et ea ee ed 0 (TL T)) (hB : MA mq ma mz md mp 0 (TL T)) {k : Nat} (hk : k < 2 ^ 31) : ∀ (m : Nat) (d : Nat → Nat) (i s dep sp n n' : Nat), oc T d (tn T) = m → i < (TL T).length → SEG T (TL T) i m d dep sp → m + s ≤ 4 → m < n → m < n' → ∃ j, wl (fun q => f_X5_leafFor_s5 (nI (TL T).length) et ee tsi tst (nI k) q.1 q.2) n (nI i, nI s) = some (nI j) ∧ wl (fun q => f_X7_leafOf_s23 mc msi mq mz (nI k) q) n' (nI i) = some (nI j) := by
  have h4 := hT.n4
  have hb := TL_b hT
  intro m
  induction m with
  | zero =>
    intro d i s dep sp n n' hoc hi hs hms hn hn'
    obtain ⟨n, rfl⟩ : ∃ g, n = g + 1 := ⟨n - 1, by omega⟩
    obtain ⟨n', rfl⟩ : ∃ g, n' = g + 1 := ⟨n' - 1, by omega⟩
    have hS : ¬ Sv T d = 11 := fun w => by
      have hf := Sv_mix hT w
      have := oc_pos (fo_open hf) (tn T) hf
      omega
    have hq := seg_get hT hoc hs
    have a := (hA i _ hq).1
    have b := (hB i _ hq).1
    rw [Nat.zero_add, hdq_l hS] at a b
    refine ⟨i, wl_r ?_, wl_r ?_⟩
    · show f_X5_leafFor_s5 (nI (TL T).length) et ee tsi tst (nI k) (nI i) (nI s) = _
      unfold f_X5_leafFor_s5
      by_cases w : 4 ≤ s
      · rw [if_pos (show (4 : Int32) ≤ nI s from nI_le (a := 4) w (by omega))]
      · rw [if_neg (show ¬ (4 : Int32) ≤ nI s from nI_ge (b := 4) (by omega) (by omega)), x_hasN, bd_go, hb_nI (by omega) hi, if_pos rfl, rd_nI (by omega) (by decide), a, if_pos (show dI 0 = (-1 : Int32) from rfl)]
    · unfold f_X7_leafOf_s23
      rw [rd_nI (by omega) (by decide), b, if_pos (show d6 0 = (-6 : Int32) from rfl)]
  | succ m ih =>
    intro d i s dep sp n n' hoc hi hs hms hn hn'
    obtain ⟨n, rfl⟩ : ∃ g, n = g + 1 := ⟨n - 1, by omega⟩
    obtain ⟨n', rfl⟩ : ∃ g, n' = g + 1 := ⟨n' - 1, by omega⟩
    have hq := seg_get hT hoc hs
    have a := (hA i _ hq).1
    have b := (hB i _ hq).1
    by_cases hS : Sv T d = 11
    · obtain ⟨b1, b2, b3⟩ := bst_lt hT hS
      rw [Nat.zero_add, hdq_t hS] at a b
      rw [show dI (bst T d + 1) = nI (bst T d) from rfl] at a
      rw [show d6 (bst T d + 1) = nI (bst T d) from if_neg (by omega)] at b
      have hv := dig_lt hT b1 k
      obtain ⟨c1, c2, c3⟩ := cpo_in hT hoc hS hs hv
      have sx : f_X5_leafFor_s5 (nI (TL T).length) et ee tsi tst (nI k) (nI i) (nI s) = some (.inl (nI (cpo T i m d dep sp (dig T k (bst T d))), nI (s + 1))) := by
        unfold f_X5_leafFor_s5
        rw [if_neg (show ¬ (4 : Int32) ≤ nI s from nI_ge (b := 4) (by omega) (by omega)), x_hasN, bd_go, hb_nI (by omega) hi, if_pos rfl, rd_nI (by omega) (by decide), a, if_neg (nI_m1 (by omega)), x_dig hT hX hk b1, bd_go, x_branch hT hA hoc hS hs hv, bd_go, nI_1]
      have sm : f_X7_leafOf_s23 mc msi mq mz (nI k) (nI i) = some (.inl (nI (cpo T i m d dep sp (dig T k (bst T d))))) := by
        unfold f_X7_leafOf_s23
        rw [rd_nI (by omega) (by decide), b, if_neg (nI_m6 (by omega)), m_value hT hM hk b1, bd_go, m_branch hT hB hoc hS hs hv, bd_go]
      rw [wl_c (w := (nI (cpo T i m d dep sp (dig T k (bst T d))), nI (s + 1))) sx, wl_c (w := nI (cpo T i m d dep sp (dig T k (bst T d)))) sm]
      exact ih (upf d (bst T d) (dig T k (bst T d))) _ (s + 1) (dep + 1) (sp + tk T (bst T d)) n n' (by have := oc_upf b2 hv (tn T) b1; omega) c1 (seg_child hS hs hv) (by omega) (by omega) (by omega)
    · rw [Nat.zero_add, hdq_l hS] at a b
      refine ⟨i, wl_r ?_, wl_r ?_⟩
      · show f_X5_leafFor_s5 (nI (TL T).length) et ee tsi tst (nI k) (nI i) (nI s) = _
        unfold f_X5_leafFor_s5
        rw [if_neg (show ¬ (4 : Int32) ≤ nI s from nI_ge (b := 4) (by omega) (by omega)), x_hasN, bd_go, hb_nI (by omega) hi, if_pos rfl, rd_nI (by omega) (by decide), a, if_pos (show dI 0 = (-1 : Int32) from rfl)]
      · unfold f_X7_leafOf_s23
        rw [rd_nI (by omega) (by decide), b, if_pos (show d6 0 = (-6 : Int32) from rfl)]
theorem eq_leafOf (hT : TOk T) (hX : XT T tc tca tru tdf tsi tst tco twe tse tac trw) (hM : MT T mc mru mst msi mwe mco mse mac) (cb : Bool) (h : cb = true → TR T ec ew ex et ea ee ed mno mq ma mz md mp mex) (x1 : Int32) : ∃ r, f_X6_leafOf cb tca tsi tst ec et ee x1 = some r ∧ f_X7_leafOf mc msi cb mq mz x1 = some r := by
  have hc := cas_le hT
  have hb := TL_b hT
  unfold f_X6_leafOf f_X7_leafOf
  cases cb with
  | false => exact ⟨_, rfl, rfl⟩
  | true =>
    obtain ⟨r1, r2, r3, r4, r5, r6⟩ := h rfl
    rw [if_pos rfl, if_pos rfl, hX.ca, x_hasK, bd_go, m_isCase hT hM, bd_go]
    cases h1 : hasb (cas T) x1 with
    | false => exact ⟨_, rfl, rfl⟩
    | true =>
      obtain ⟨k, hk, rfl⟩ := hb_t (by omega) h1
      have h4 := oc_4 hT (rot T)
      obtain ⟨j, e1, e2⟩ := walk hT hX hM r5 r6 (show k < 2 ^ 31 by omega) (oc T (rot T) (tn T)) (rot T) 0 0 0 0 5000 5000 rfl (by omega) ⟨[], by rw [List.append_nil, List.drop_zero]; rfl⟩ (by omega) (by omega) (by omega)
      rw [if_pos rfl, if_pos rfl, r1]
      unfold f_X5_leafFor
      have e1' : wl (fun q => f_X5_leafFor_s5 (nI (TL T).length) et ee tsi tst (nI k) q.1 q.2) 5000 ((0 : Int32), (0 : Int32)) = some (nI j) := e1
      have e2' : wl (fun q => f_X7_leafOf_s23 mc msi mq mz (nI k) q) 5000 (0 : Int32) = some (nI j) := e2
      rw [e1', bd_go, e2']
      exact ⟨_, rfl, rfl⟩
end C
