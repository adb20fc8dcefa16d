/-! a tree is told by its tests and actions in order -/
def pj (q : Nd) : Nat × Nat := (q.1, q.2.1)
theorem app_len {α : Type} {A B R S : List α} (h : A ++ R = B ++ S) (hl : A.length = B.length) : A = B ∧ R = S := List.append_inj h hl
theorem cat_dec {f g : Nat → List Nd} : ∀ (n : Nat), (∀ v, v < n → ∀ R S : List (Nat × Nat), (f v).map pj ++ R = (g v).map pj ++ S → (f v).length = (g v).length) → ∀ R S : List (Nat × Nat), (cat f n).map pj ++ R = (cat g n).map pj ++ S → ∀ v, v ≤ n → (cat f v).length = (cat g v).length
  | 0, _, R, S, _, v, hv => by
    obtain rfl : v = 0 := by omega
    rfl
  | n + 1, h, R, S, e, v, hv => by
    rw [cat, cat, List.map_append, List.map_append, List.append_assoc, List.append_assoc] at e
    have ih := cat_dec n (fun v hv => h v (by omega)) _ _ e
    rcases Nat.lt_or_ge v (n + 1) with w | w
    · exact ih v (by omega)
    · obtain rfl : v = n + 1 := by omega
      have hl : ((cat f n).map pj).length = ((cat g n).map pj).length := by rw [List.length_map, List.length_map]; exact ih n (Nat.le_refl _)
      have e2 := (app_len e hl).2
      have e3 := h n (by omega) R S e2
      rw [cat, cat, List.length_append, List.length_append, ih n (Nat.le_refl _), e3]
theorem nd_dec {T : Tb} (hT : TOk T) : ∀ (m m' : Nat) (d d' : Nat → Nat) (dep dep' sp sp' : Nat) (R S : List (Nat × Nat)), oc T d (tn T) = m → oc T d' (tn T) = m' → (nd T m d dep sp).map pj ++ R = (nd T m' d' dep' sp').map pj ++ S → (nd T m d dep sp).length = (nd T m' d' dep' sp').length := by
  intro m
  induction m with
  | zero =>
    intro m' d d' dep dep' sp sp' R S hoc hoc' e
    have hS : ¬ Sv T d = 11 := fun w => by
      have hf := Sv_mix hT w
      have := oc_pos (fo_open hf) (tn T) hf
      omega
    by_cases hS' : Sv T d' = 11
    · obtain ⟨k, hk⟩ := oc_suc hT hS'
      obtain rfl : m' = k + 1 := by omega
      rw [nd_leaf hS, nd, if_pos hS', List.map_cons, List.map_cons, List.cons_append, List.cons_append] at e
      injection e with e1 _
      have : (0 : Nat) = bst T d' + 1 := congrArg Prod.fst e1
      omega
    · rw [nd_leaf hS, nd_leaf hS']
      rfl
  | succ m ih =>
    intro m' d d' dep dep' sp sp' R S hoc hoc' e
    by_cases hS : Sv T d = 11
    · by_cases hS' : Sv T d' = 11
      · obtain ⟨k, hk⟩ := oc_suc hT hS'
        obtain rfl : m' = k + 1 := by omega
        obtain ⟨b1, b2, b3⟩ := bst_lt hT hS
        obtain ⟨c1, c2, c3⟩ := bst_lt hT hS'
        rw [nd, if_pos hS, nd, if_pos hS'] at e ⊢
        rw [List.map_cons, List.map_cons, List.cons_append, List.cons_append] at e
        injection e with e1 e2
        have e3 : bst T d + 1 = bst T d' + 1 := congrArg Prod.fst e1
        have e4 : bst T d' = bst T d := by omega
        rw [e4] at e2 c2 ⊢
        have := cat_dec (tz T (bst T d)) (fun v hv R S e => ih k _ _ _ _ _ _ R S (by have := oc_upf b2 hv (tn T) b1; omega) (by have := oc_upf c2 hv (tn T) b1; omega) e) R S e2 (tz T (bst T d)) (Nat.le_refl _)
        rw [List.length_cons, List.length_cons, this]
      · rw [nd_leaf hS', nd, if_pos hS, List.map_cons, List.map_cons, List.cons_append, List.cons_append] at e
        injection e with e1 _
        have : bst T d + 1 = 0 := congrArg Prod.fst e1
        omega
    · by_cases hS' : Sv T d' = 11
      · obtain ⟨k, hk⟩ := oc_suc hT hS'
        obtain rfl : m' = k + 1 := by omega
        rw [nd_leaf hS, nd, if_pos hS', List.map_cons, List.map_cons, List.cons_append, List.cons_append] at e
        injection e with e1 _
        have : (0 : Nat) = bst T d' + 1 := congrArg Prod.fst e1
        omega
      · rw [nd_leaf hS, nd_leaf hS']
        rfl
