/-- the first node that is alike -/
def fal (T : Tb) (i : Nat) : Nat := fa_first (fun j => decide (sg T j = sg T i)) (i + 1)
theorem fal_le (T : Tb) (i : Nat) : fal T i ≤ i ∧ sg T (fal T i) = sg T i := by
  have hle := fa_first_le (fun j => decide (sg T j = sg T i)) (i + 1)
  have h1 : fal T i < i + 1 := by
    rcases Nat.lt_or_ge (fal T i) (i + 1) with w | w
    · exact w
    · have := fa_first_no (fun j => decide (sg T j = sg T i)) (i + 1) i (by unfold fal at w; omega)
      exact absurd rfl (of_decide_eq_false this)
  exact ⟨by omega, of_decide_eq_true (fa_first_yes (fun j => decide (sg T j = sg T i)) (i + 1) h1)⟩
def nsh (T : Tb) (i : Nat) : Nat := fb_sm (fun t => if fal T t = t then 1 else 0) i
section C
variable {T : Tb} {mq ma mz md mp : Nat → Int32} {mno : Int32}
theorem m_firstAlike (hT : TOk T) (hB : MA mq ma mz md mp 0 (TL T)) {i : Nat} (hi : i < (TL T).length) : f_X7_firstAlike mq ma mz (nI i) = some (nI (fal T i)) := by
  have hb := TL_b hT
  obtain ⟨h1, h2⟩ := fal_le T i
  unfold f_X7_firstAlike
  refine wl_for (fun j => nI j) (fal T i) (fun j hj => ?_) ?_ (by omega)
  · have hn : ¬ sg T j = sg T i := of_decide_eq_false (fa_first_no (fun j => decide (sg T j = sg T i)) (i + 1) j hj)
    unfold f_X7_firstAlike_s2
    rw [m_alike hT hB (by omega) hi, bd_go, decide_eq_false hn, if_neg (by decide), nI_1]
  · unfold f_X7_firstAlike_s2
    rw [m_alike hT hB (by omega) hi, bd_go, decide_eq_true h2, if_pos rfl]
theorem nsh_le (T : Tb) : ∀ i, nsh T i ≤ i
  | 0 => Nat.le_refl _
  | i + 1 => by
    have := nsh_le T i
    unfold nsh at this ⊢
    rw [fb_sm_succ]
    split <;> omega
theorem m_shared (hT : TOk T) (hB : MA mq ma mz md mp 0 (TL T)) (hm : mno = nI (TL T).length) : f_X7_sharedNodeCount true mno mq ma mz = some (nI (nsh T (TL T).length)) := by
  have hb := TL_b hT
  subst hm
  unfold f_X7_sharedNodeCount
  rw [if_pos rfl]
  refine wl_for (fun i => (nI (nsh T i), nI i)) (TL T).length (fun i hi => ?_) ?_ (by omega)
  · show f_X7_sharedNodeCount_s14 (nI (TL T).length) mq ma mz (nI (nsh T i)) (nI i) = some (.inl (nI (nsh T (i + 1)), nI (i + 1)))
    have h1 := (fal_le T i).1
    have e : nsh T (i + 1) = nsh T i + (if fal T i = i then 1 else 0) := fb_sm_succ _ i
    unfold f_X7_sharedNodeCount_s14
    rw [if_neg (nI_ge hi (by omega)), m_firstAlike hT hB hi, bd_go, e, nI_1]
    by_cases w : fal T i = i
    · rw [if_pos (by rw [w]), if_pos w, nI_1]
    · rw [if_neg (fun u => w ((nI_eq (by omega) (by omega)).mp u)), if_neg w, show (0 : Int32) = nI 0 from rfl, nI_add, nI_1]
  · show f_X7_sharedNodeCount_s14 (nI (TL T).length) mq ma mz (nI (nsh T (TL T).length)) (nI (TL T).length) = _
    unfold f_X7_sharedNodeCount_s14
    rw [if_pos (Int32.le_refl _)]
end C
