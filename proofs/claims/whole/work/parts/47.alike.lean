/-! nodes that are alike -/
def atp (T : Tb) (i : Nat) : Option (Nat × Nat) := ((TL T)[i]?).map pj
def ext (T : Tb) (i : Nat) : Nat := match (TL T)[i]? with
  | some q => q.2.2.1
  | none => 0
def sg (T : Tb) (i : Nat) : List (Nat × Nat) := (((TL T).drop i).take (ext T i)).map pj
theorem sg_get (T : Tb) (i t : Nat) : (sg T i)[t]? = if t < ext T i then atp T (i + t) else none := by
  unfold sg atp
  rw [List.getElem?_map, List.getElem?_take]
  by_cases h : t < ext T i
  · rw [if_pos h, if_pos h, List.getElem?_drop]
  · rw [if_neg h, if_neg h]
    rfl
theorem ext_seg {T : Tb} (hT : TOk T) {i m dep sp : Nat} {d : Nat → Nat} (hoc : oc T d (tn T) = m) (h : SEG T (TL T) i m d dep sp) : ext T i = (nd T m d dep sp).length := by
  unfold ext
  rw [seg_get hT hoc h]
  exact hdq_len hT dep sp hoc
theorem sg_seg {T : Tb} (hT : TOk T) {i m dep sp : Nat} {d : Nat → Nat} (hoc : oc T d (tn T) = m) (h : SEG T (TL T) i m d dep sp) : sg T i = (nd T m d dep sp).map pj := by
  have e := ext_seg hT hoc h
  obtain ⟨R, hR⟩ := h
  unfold sg
  rw [e, hR, List.take_left]
theorem ext_in {T : Tb} (hT : TOk T) {i : Nat} (hi : i < (TL T).length) : 1 ≤ ext T i ∧ i + ext T i ≤ (TL T).length := by
  obtain ⟨m, d, dep, sp, g1, g2, g3, g4⟩ := TL_seg hT hi
  have h1 := seg_len g4
  rw [ext_seg hT g1 g4, nd_len hT _ _ _ _ g1]
  rw [nd_len hT _ _ _ _ g1] at h1
  have := (Rv_b hT _ d rfl).2.2
  omega
theorem sg_len {T : Tb} (hT : TOk T) {i : Nat} (hi : i < (TL T).length) : (sg T i).length = ext T i := by
  have := ext_in hT hi
  unfold sg
  rw [List.length_map, List.length_take, List.length_drop]
  omega
theorem sg_eq {T : Tb} (hT : TOk T) {i j : Nat} (hi : i < (TL T).length) (hj : j < (TL T).length) : sg T i = sg T j ↔ (ext T i = ext T j ∧ ∀ t, t < ext T i → atp T (i + t) = atp T (j + t)) := by
  constructor
  · intro e
    have e1 : ext T i = ext T j := by rw [← sg_len hT hi, ← sg_len hT hj, e]
    refine ⟨e1, fun t ht => ?_⟩
    have a := sg_get T i t
    have b := sg_get T j t
    rw [if_pos ht] at a
    rw [if_pos (by omega)] at b
    rw [← a, ← b, e]
  · intro h
    refine List.ext_getElem? (fun t => ?_)
    rw [sg_get, sg_get, ← h.1]
    by_cases ht : t < ext T i
    · rw [if_pos ht, if_pos ht, h.2 t ht]
    · rw [if_neg ht, if_neg ht]
theorem d6_inj {a b : Nat} (ha : a ≤ 10) (hb : b ≤ 10) : d6 a = d6 b ↔ a = b := by
  constructor
  · have key : ∀ a, a < 11 → ∀ b, b < 11 → d6 a = d6 b → a = b := by decide
    exact key a (by omega) b (by omega)
  · intro h; rw [h]
section C
variable {T : Tb} {mq ma mz md mp : Nat → Int32}
theorem m_alike (hT : TOk T) (hB : MA mq ma mz md mp 0 (TL T)) {i j : Nat} (hi : i < (TL T).length) (hj : j < (TL T).length) : f_X7_areAlike mq ma mz (nI i) (nI j) = some (decide (sg T i = sg T j)) := by
  have hb := TL_b hT
  have xi := ext_in hT hi
  have xj := ext_in hT hj
  have zz : ∀ i, i < (TL T).length → mz i = nI (ext T i) := fun i hi => by
    obtain ⟨q, hq⟩ := TL_get hi
    have a := (hB i q hq).2.2.1
    rw [Nat.zero_add] at a
    rw [a]
    unfold ext
    rw [hq]
  unfold f_X7_areAlike
  rw [rd_nI (by omega) (by decide), rd_nI (by omega) (by decide), zz i hi, zz j hj]
  by_cases e : ext T i = ext T j
  · rw [if_pos (by rw [e])]
    refine Eq.trans (wl_find (fun t => decide (¬ atp T (i + t) = atp T (j + t))) (ext T i) (by omega) (fun _ => false) true (fun t ht hp => ?_) (fun t ht hp => ?_) ?_) ?_
    · have hp' : atp T (i + t) = atp T (j + t) := Decidable.not_not.mp (of_decide_eq_false hp)
      obtain ⟨q, hq⟩ := TL_get (T := T) (i := i + t) (by omega)
      obtain ⟨q', hq'⟩ := TL_get (T := T) (i := j + t) (by omega)
      unfold atp at hp'
      rw [hq, hq'] at hp'
      have e1 : q.1 = q'.1 ∧ q.2.1 = q'.2.1 := by
        have this : ((q.1, q.2.1) : Nat × Nat) = (q'.1, q'.2.1) := Option.some.inj hp'
        injection this with u1 u2
        exact ⟨u1, u2⟩
      have a := hB _ q hq
      have b := hB _ q' hq'
      rw [Nat.zero_add] at a b
      unfold f_X7_areAlike_s19
      rw [if_neg (nI_ge ht (by omega)), nI_add, nI_add, rd_nI (by omega) (by decide), rd_nI (by omega) (by decide), nI_clamp (by omega), nI_clamp (by omega), nm_go, nm_go, a.1, b.1, a.2.1, b.2.1, e1.1, e1.2, if_pos rfl, if_pos rfl, nI_1]
    · have hp' : ¬ atp T (i + t) = atp T (j + t) := of_decide_eq_true hp
      obtain ⟨q, hq⟩ := TL_get (T := T) (i := i + t) (by omega)
      obtain ⟨q', hq'⟩ := TL_get (T := T) (i := j + t) (by omega)
      unfold atp at hp'
      rw [hq, hq'] at hp'
      have a := hB _ q hq
      have b := hB _ q' hq'
      have d1 := TL_bd hT hq
      have d2 := TL_bd hT hq'
      rw [Nat.zero_add] at a b
      unfold f_X7_areAlike_s19
      rw [if_neg (nI_ge ht (by omega)), nI_add, nI_add, rd_nI (by omega) (by decide), rd_nI (by omega) (by decide), nI_clamp (by omega), nI_clamp (by omega), nm_go, nm_go, a.1, b.1, a.2.1, b.2.1]
      by_cases w1 : q.1 = q'.1
      · rw [if_pos (by rw [w1]), if_neg (fun w => hp' ?_)]
        have w2 := (d6_inj d1.2.1 d2.2.1).mp w
        show some (q.1, q.2.1) = some (q'.1, q'.2.1)
        rw [w1, w2]
      · rw [if_neg (fun w => w1 ((d6_inj (by omega) (by omega)).mp w))]
    · unfold f_X7_areAlike_s19
      rw [if_pos (Int32.le_refl _)]
    · have hle := fa_first_le (fun t => decide (¬ atp T (i + t) = atp T (j + t))) (ext T i)
      by_cases w : fa_first (fun t => decide (¬ atp T (i + t) = atp T (j + t))) (ext T i) < ext T i
      · have hy := of_decide_eq_true (fa_first_yes (fun t => decide (¬ atp T (i + t) = atp T (j + t))) _ w)
        rw [if_pos w, decide_eq_false (fun u => hy (((sg_eq hT hi hj).mp u).2 _ w))]
      · rw [if_neg w, decide_eq_true ((sg_eq hT hi hj).mpr ⟨e, fun t ht => Decidable.not_not.mp (of_decide_eq_false (fa_first_no (fun t => decide (¬ atp T (i + t) = atp T (j + t))) (ext T i) t (by omega)))⟩)]
  · rw [if_neg (fun w => e ((nI_eq (by omega) (by omega)).mp w)), decide_eq_false (fun u => e ((sg_eq hT hi hj).mp u).1)]
end C
