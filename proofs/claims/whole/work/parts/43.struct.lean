/-! where the nodes lie in the list -/
def SEG (T : Tb) (L : List Nd) (k m : Nat) (d : Nat → Nat) (dep sp : Nat) : Prop := ∃ R, L.drop k = nd T m d dep sp ++ R
def hdq (T : Tb) (d : Nat → Nat) (dep sp : Nat) : Nd := if Sv T d = 11 then (bst T d + 1, 0, Rv T d % 1024, dep, sp) else (0, Sv T d, 1, dep, sp)
theorem nd_head {T : Tb} (hT : TOk T) {m : Nat} {d : Nat → Nat} (dep sp : Nat) (hoc : oc T d (tn T) = m) : ∃ R, nd T m d dep sp = hdq T d dep sp :: R := by
  unfold hdq
  by_cases hS : Sv T d = 11
  · have hf := Sv_mix hT hS
    have hp := oc_pos (fo_open hf) (tn T) hf
    obtain ⟨m, rfl⟩ : ∃ j, m = j + 1 := ⟨m - 1, by omega⟩
    rw [nd, if_pos hS, if_pos hS]
    exact ⟨_, rfl⟩
  · rw [nd_leaf hS, if_neg hS]
    exact ⟨_, rfl⟩
theorem hdq_len {T : Tb} (hT : TOk T) {m : Nat} {d : Nat → Nat} (dep sp : Nat) (hoc : oc T d (tn T) = m) : (hdq T d dep sp).2.2.1 = (nd T m d dep sp).length := by
  rw [nd_len hT m d dep sp hoc]
  unfold hdq
  by_cases hS : Sv T d = 11
  · rw [if_pos hS]
  · rw [if_neg hS, Rv_l hS]
theorem seg_get {T : Tb} (hT : TOk T) {L : List Nd} {k m dep sp : Nat} {d : Nat → Nat} (hoc : oc T d (tn T) = m) (h : SEG T L k m d dep sp) : L[k]? = some (hdq T d dep sp) := by
  obtain ⟨R, hR⟩ := h
  obtain ⟨R', hR'⟩ := nd_head hT dep sp hoc
  have e : (L.drop k)[0]? = L[k + 0]? := List.getElem?_drop
  rw [Nat.add_zero] at e
  rw [← e, hR, hR']
  rfl
theorem seg_len {T : Tb} {L : List Nd} {k m dep sp : Nat} {d : Nat → Nat} (h : SEG T L k m d dep sp) : (nd T m d dep sp).length ≤ L.length - k := by
  obtain ⟨R, hR⟩ := h
  have := congrArg List.length hR
  rw [List.length_drop, List.length_append] at this
  omega
theorem cat_split {f : Nat → List Nd} {v : Nat} : ∀ n, v < n → ∃ R, cat f n = cat f v ++ (f v ++ R)
  | 0, h => absurd h (Nat.not_lt_zero v)
  | n + 1, h => by
    by_cases e : v = n
    · subst e
      exact ⟨[], by rw [cat, List.append_nil]⟩
    · obtain ⟨R, hR⟩ := cat_split (f := f) n (show v < n by omega)
      exact ⟨R ++ f n, by rw [cat, hR, List.append_assoc, List.append_assoc]⟩
theorem cat_drop {f : Nat → List Nd} : ∀ n j, j < (cat f n).length → ∃ v j' R, v < n ∧ j' < (f v).length ∧ (cat f n).drop j = (f v).drop j' ++ R
  | 0, j, h => absurd h (Nat.not_lt_zero j)
  | n + 1, j, h => by
    rw [cat] at h ⊢
    rcases Nat.lt_or_ge j (cat f n).length with w | w
    · obtain ⟨v, j', R, h1, h2, h3⟩ := cat_drop n j w
      refine ⟨v, j', R ++ f n, by omega, h2, ?_⟩
      rw [List.drop_append_of_le_length (by omega), h3, List.append_assoc]
    · rw [List.length_append] at h
      refine ⟨n, j - (cat f n).length, [], by omega, by omega, ?_⟩
      rw [List.append_nil, List.drop_append, List.drop_eq_nil_of_le w, List.nil_append]
theorem nd_all {T : Tb} (hT : TOk T) : ∀ m d dep sp, oc T d (tn T) = m → PD T d → ∀ i, i < (nd T m d dep sp).length → ∃ m' d' dep' sp', oc T d' (tn T) = m' ∧ PD T d' ∧ m' ≤ m ∧ SEG T (nd T m d dep sp) i m' d' dep' sp' := by
  intro m
  induction m with
  | zero =>
    intro d dep sp hoc hd i hi
    have : i = 0 := by
      have h1 : (nd T 0 d dep sp).length = 1 := rfl
      omega
    subst this
    exact ⟨0, d, dep, sp, hoc, hd, Nat.le_refl _, [], by rw [List.append_nil, List.drop_zero]⟩
  | succ m ih =>
    intro d dep sp hoc hd i hi
    cases i with
    | zero => exact ⟨m + 1, d, dep, sp, hoc, hd, Nat.le_refl _, [], by rw [List.append_nil, List.drop_zero]⟩
    | succ i =>
      by_cases hS : Sv T d = 11
      · obtain ⟨b1, b2, b3⟩ := bst_lt hT hS
        rw [nd, if_pos hS] at hi ⊢
        rw [List.length_cons] at hi
        obtain ⟨v, j', R, h1, h2, h3⟩ := cat_drop (f := fun v => nd T m (upf d (bst T d) v) (dep + 1) (sp + tk T (bst T d))) (tz T (bst T d)) i (by omega)
        obtain ⟨m', d', dep', sp', g1, g2, g3, R', g4⟩ := ih (upf d (bst T d) v) (dep + 1) (sp + tk T (bst T d)) (by have := oc_upf b2 h1 (tn T) b1; omega) (PD_upf hd (by omega)) j' h2
        refine ⟨m', d', dep', sp', g1, g2, by omega, R' ++ R, ?_⟩
        rw [List.drop_succ_cons, h3, g4, List.append_assoc]
      · rw [nd_leaf hS] at hi
        have h1 : [((0 : Nat), Sv T d, (1 : Nat), dep, sp)].length = 1 := rfl
        omega
theorem TL_seg {T : Tb} (hT : TOk T) {i : Nat} (hi : i < (TL T).length) : ∃ m' d' dep' sp', oc T d' (tn T) = m' ∧ PD T d' ∧ m' ≤ 4 ∧ SEG T (TL T) i m' d' dep' sp' := by
  obtain ⟨m', d', dep', sp', h1, h2, h3, h4⟩ := nd_all hT _ (rot T) 0 0 rfl (rot_pd T) i hi
  exact ⟨m', d', dep', sp', h1, h2, Nat.le_trans h3 (oc_4 hT _), h4⟩
theorem seg_child {T : Tb} {L : List Nd} {k m dep sp : Nat} {d : Nat → Nat} (hS : Sv T d = 11) (h : SEG T L k (m + 1) d dep sp) {v : Nat} (hv : v < tz T (bst T d)) : SEG T L (k + 1 + (cat (fun v => nd T m (upf d (bst T d) v) (dep + 1) (sp + tk T (bst T d))) v).length) m (upf d (bst T d) v) (dep + 1) (sp + tk T (bst T d)) := by
  obtain ⟨R, hR⟩ := h
  rw [nd, if_pos hS] at hR
  obtain ⟨R', hR'⟩ := cat_split (f := fun v => nd T m (upf d (bst T d) v) (dep + 1) (sp + tk T (bst T d))) (tz T (bst T d)) hv
  refine ⟨R' ++ R, ?_⟩
  rw [Nat.add_assoc k, ← List.drop_drop, hR, hR', Nat.add_comm 1, List.cons_append, List.drop_succ_cons, List.append_assoc, List.append_assoc]
  exact List.drop_left
