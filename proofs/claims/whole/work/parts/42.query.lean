/-! what is asked of the tree -/
def TL (T : Tb) : List Nd := nd T (oc T (rot T) (tn T)) (rot T) 0 0
theorem TL_len {T : Tb} (hT : TOk T) : (TL T).length = Rv T (rot T) % 1024 := nd_len hT _ _ _ _ rfl
theorem TL_b {T : Tb} (hT : TOk T) : 1 ≤ (TL T).length ∧ (TL T).length ≤ 781 := by
  rw [TL_len hT]
  exact ⟨(Rv_b hT _ _ rfl).2.2, Rv_mod hT _⟩
theorem cat_get {f : Nat → List Nd} {q : Nd} : ∀ (n i : Nat), (cat f n)[i]? = some q → ∃ (v j : Nat), v < n ∧ (f v)[j]? = some q
  | 0, i, h => by
    rw [cat, List.getElem?_nil] at h
    cases h
  | n + 1, i, h => by
    rw [cat] at h
    rcases Nat.lt_or_ge i (cat f n).length with w | w
    · rw [List.getElem?_append_left w] at h
      obtain ⟨v, j, h1, h2⟩ := cat_get n i h
      exact ⟨v, j, by omega, h2⟩
    · rw [List.getElem?_append_right w] at h
      exact ⟨n, _, by omega, h⟩
theorem nd_bd {T : Tb} (hT : TOk T) : ∀ (m : Nat) (d : Nat → Nat) (dep sp i : Nat) (q : Nd), oc T d (tn T) = m → sp + 9 * m ≤ 36 → (nd T m d dep sp)[i]? = some q → q.1 ≤ 4 ∧ q.2.1 ≤ 10 ∧ q.2.2.2.2 ≤ 36 := by
  have h4 := hT.n4
  intro m
  have leaf : ∀ (d : Nat → Nat) (dep sp i : Nat) (q : Nd), sp ≤ 36 → ¬ Sv T d = 11 → [((0 : Nat), Sv T d, (1 : Nat), dep, sp)][i]? = some q → q.1 ≤ 4 ∧ q.2.1 ≤ 10 ∧ q.2.2.2.2 ≤ 36 := by
    intro d dep sp i q hsp hS h
    have := Sv_le hT d
    cases i with
    | zero => cases h; exact ⟨by show 0 ≤ 4; omega, by show Sv T d ≤ 10; omega, hsp⟩
    | succ i => rw [List.getElem?_cons_succ, List.getElem?_nil] at h; cases h
  induction m with
  | zero =>
    intro d dep sp i q hoc hsp h
    have hS : ¬ Sv T d = 11 := fun w => by
      have hf := Sv_mix hT w
      have := oc_pos (fo_open hf) (tn T) hf
      omega
    exact leaf d dep sp i q (by omega) hS h
  | succ m ih =>
    intro d dep sp i q hoc hsp h
    have hkc := (hT.k (bst T d)).2
    by_cases hS : Sv T d = 11
    · rw [nd, if_pos hS] at h
      cases i with
      | zero =>
        rw [List.getElem?_cons_zero] at h
        cases h
        have := (bst_lt hT hS).1
        exact ⟨by show bst T d + 1 ≤ 4; omega, by show 0 ≤ 10; omega, by show sp ≤ 36; omega⟩
      | succ i =>
        rw [List.getElem?_cons_succ] at h
        obtain ⟨v, j, h1, h2⟩ := cat_get _ _ h
        obtain ⟨b1, b2, _⟩ := bst_lt hT hS
        exact ih _ _ _ _ _ (by have := oc_upf b2 h1 (tn T) b1; omega) (by omega) h2
    · rw [nd_leaf hS] at h
      exact leaf d dep sp i q (by omega) hS h
theorem TL_bd {T : Tb} (hT : TOk T) {i : Nat} {q : Nd} (h : (TL T)[i]? = some q) : q.1 ≤ 4 ∧ q.2.1 ≤ 10 ∧ q.2.2.2.2 ≤ 36 := nd_bd hT _ _ _ _ _ _ rfl (by have := oc_4 hT (rot T); omega) h
theorem TL_get {T : Tb} {i : Nat} (h : i < (TL T).length) : ∃ q, (TL T)[i]? = some q := ⟨(TL T)[i], List.getElem?_eq_getElem h⟩
def TR (T : Tb) (ec ew : Int32) (ex : Int64) (et ea ee ed : Nat → Int32) (mn : Int32) (mq ma mz md mp : Nat → Int32) (mex : Int64) : Prop := ec = nI (TL T).length ∧ mn = nI (TL T).length ∧ ew = nI (mx 0 (TL T)) ∧ ex = mex ∧ XA et ea ee ed 0 (TL T) ∧ MA mq ma mz md mp 0 (TL T)
theorem d6_of {c : Nat} (h : c ≤ 4) : (if dI c = (-1 : Int32) then (-6 : Int32) else dI c) = d6 c := by
  have : c = 0 ∨ c = 1 ∨ c = 2 ∨ c = 3 ∨ c = 4 := by omega
  rcases this with rfl | rfl | rfl | rfl | rfl <;> decide
section Q
variable {T : Tb} {ec ew : Int32} {ex : Int64} {et ea ee ed : Nat → Int32} {mno : Int32} {mq ma mz md mp : Nat → Int32} {mex : Int64}
theorem eq_expectedCost (cb : Bool) (h : cb = true → ex = mex) : ∃ r, f_X6_expectedCost cb ex = some r ∧ f_X7_expectedCost cb mex = some r := by
  unfold f_X6_expectedCost f_X7_expectedCost
  cases cb with
  | false => exact ⟨_, rfl, rfl⟩
  | true => exact ⟨_, rfl, by rw [h rfl]; rfl⟩
theorem x_hasN (n : Nat) (x : Int32) : f_X5_hasNode (nI n) x = some (hasb n x) := x_hasC n x
theorem m_isNode {n : Nat} (hn : n < 2 ^ 30) (x : Int32) : f_X7_isNode (nI n) x = some (hasb n x) := by
  unfold f_X7_isNode
  rw [m_in0 hn, bd_go]
theorem eq_node (hT : TOk T) (cb : Bool) (h : cb = true → TR T ec ew ex et ea ee ed mno mq ma mz md mp mex) (x1 x2 : Int32) : ∃ r, f_X6_node cb ec et ea ee ed x1 x2 = some r ∧ f_X7_node cb mno mq ma mz md x1 x2 = some r := by
  unfold f_X6_node f_X7_node
  cases cb with
  | false => exact ⟨_, rfl, rfl⟩
  | true =>
    obtain ⟨r1, r2, r3, r4, r5, r6⟩ := h rfl
    have hb := TL_b hT
    rw [if_pos rfl, if_pos rfl, r1, r2, x_hasN, bd_go, m_isNode (by omega), bd_go]
    cases h1 : hasb (TL T).length x1 with
    | false => exact ⟨_, rfl, rfl⟩
    | true =>
      obtain ⟨i, hi, rfl⟩ := hb_t (by omega) h1
      obtain ⟨q, hq⟩ := TL_get hi
      obtain ⟨b1, b2, b3⟩ := TL_bd hT hq
      have a := r5 i q hq
      have b := r6 i q hq
      rw [Nat.zero_add] at a b
      obtain ⟨a1, a2, a3, a4⟩ := a
      obtain ⟨c1, c2, c3, c4, c5⟩ := b
      rw [if_pos rfl, if_pos rfl]
      by_cases w0 : x2 = 0
      · rw [if_pos w0, if_pos w0, rd_nI (by omega) (by decide), rd_nI (by omega) (by decide), a1, c1, ← d6_of b1]
        by_cases w : dI q.1 = -1
        · rw [if_pos w, if_pos w]; exact ⟨_, rfl, rfl⟩
        · rw [if_neg w, if_neg w]; exact ⟨_, rfl, rfl⟩
      · rw [if_neg w0, if_neg w0]
        by_cases w1 : x2 = 1
        · rw [if_pos w1, if_pos w1, rd_nI (by omega) (by decide), rd_nI (by omega) (by decide), a2, c2, ans_dI b2, bd_go]
          exact ⟨_, rfl, rfl⟩
        · rw [if_neg w1, if_neg w1]
          by_cases w2 : x2 = 2
          · rw [if_pos w2, if_pos w2, rd_nI (by omega) (by decide), rd_nI (by omega) (by decide), a3, c3]
            exact ⟨_, rfl, rfl⟩
          · rw [if_neg w2, if_neg w2]
            by_cases w3 : x2 = 3
            · rw [if_pos w3, if_pos w3, rd_nI (by omega) (by decide), rd_nI (by omega) (by decide), a4, c4]
              exact ⟨_, rfl, rfl⟩
            · rw [if_neg w3, if_neg w3]
              exact ⟨_, rfl, rfl⟩
theorem mx_take {L : List Nd} {i : Nat} {q : Nd} (h : L[i]? = some q) : mx 0 (L.take (i + 1)) = if mx 0 (L.take i) < q.2.2.2.2 then q.2.2.2.2 else mx 0 (L.take i) := by
  rw [List.take_succ, h, mx_app]
  rfl
theorem mx_take36 {T : Tb} (hT : TOk T) : ∀ i, i ≤ (TL T).length → mx 0 ((TL T).take i) ≤ 36
  | 0, _ => Nat.zero_le _
  | i + 1, h => by
    obtain ⟨q, hq⟩ := TL_get (T := T) (i := i) (by omega)
    have := mx_take36 hT i (by omega)
    have := (TL_bd hT hq).2.2
    rw [mx_take hq]
    split <;> omega
theorem eq_worstCost (hT : TOk T) (cb : Bool) (h : cb = true → TR T ec ew ex et ea ee ed mno mq ma mz md mp mex) {N : Nat} (hN : N ≤ 781) (hm : mno = nI N) : ∃ r, f_X6_worstCost cb ew = some r ∧ f_X7_worstCost cb mno mp = some r := by
  unfold f_X6_worstCost f_X7_worstCost
  cases cb with
  | false =>
    refine ⟨-7, rfl, ?_⟩
    subst hm
    obtain ⟨a, h1, rfl⟩ := wl_dn (f := fun q : Int32 × Int32 => f_X7_worstCost_s4 false (nI N) mp q.1 q.2) (fun i (q : Int32 × Int32) => q.2 = nI i) N (P := fun a => a = -7) (fun i q hi hq => by
      obtain ⟨q1, q2⟩ := q
      replace hq : q2 = nI i := hq
      subst hq
      refine ⟨(if q1 < mp i then mp i else q1, nI (i + 1)), ?_, rfl⟩
      show f_X7_worstCost_s4 false (nI N) mp q1 (nI i) = _
      unfold f_X7_worstCost_s4
      rw [if_neg (nI_ge hi (by omega)), rd_nI (by omega) (by decide), nm_go, nI_1]) (fun q hq => by
      obtain ⟨q1, q2⟩ := q
      replace hq : q2 = nI N := hq
      subst hq
      refine ⟨-7, ?_, rfl⟩
      show f_X7_worstCost_s4 false (nI N) mp q1 (nI N) = _
      unfold f_X7_worstCost_s4
      rw [if_pos (Int32.le_refl _), if_neg (by decide)]) (n := 5000) (by omega) ((0 : Int32), (0 : Int32)) rfl
    exact h1
  | true =>
    obtain ⟨r1, r2, r3, r4, r5, r6⟩ := h rfl
    have hb := TL_b hT
    refine ⟨ew, rfl, ?_⟩
    rw [r2, r3]
    refine wl_for (fun i => (nI (mx 0 ((TL T).take i)), nI i)) (TL T).length (fun i hi => ?_) ?_ (by omega)
    · obtain ⟨q, hq⟩ := TL_get hi
      have h36 := mx_take36 hT i (by omega)
      have hq36 := (TL_bd hT hq).2.2
      have b := (r6 i q hq).2.2.2.2
      rw [Nat.zero_add] at b
      show f_X7_worstCost_s4 true (nI (TL T).length) mp (nI (mx 0 ((TL T).take i))) (nI i) = some (.inl (nI (mx 0 ((TL T).take (i + 1))), nI (i + 1)))
      unfold f_X7_worstCost_s4
      rw [if_neg (nI_ge hi (by omega)), rd_nI (by omega) (by decide), b, nm_go, nI_1, mx_take hq]
      by_cases w : mx 0 ((TL T).take i) < q.2.2.2.2
      · rw [if_pos (nI_lt w (by omega)), if_pos w]
      · rw [if_neg (nI_nlt (by omega) (by omega)), if_neg w]
    · show f_X7_worstCost_s4 true (nI (TL T).length) mp (nI (mx 0 ((TL T).take (TL T).length))) (nI (TL T).length) = _
      unfold f_X7_worstCost_s4
      rw [if_pos (Int32.le_refl _), if_pos rfl, List.take_length]
end Q
