section M
variable {T : Tb} {tc tca tru tdf : Int32} {tsi tst tco twe tse tac trw : Nat → Int32} {mc mru mst : Int32} {msi mwe mco mse mac : Nat → Int32}
theorem q_solve (hT : TOk T) (hM : MT T mc mru mst msi mwe mco mse mac) (ms : Nat → Int32) (mb : Nat → Int64) (mno mte : Nat → Int32) : ∃ a, f_X7_solve mc msi mwe mco mru mse mac mst ms mb mno mte = some a ∧ ∀ d, PD T d → PMd T a.1 a.2.1 a.2.2.1 a.2.2.2 d := by
  unfold f_X7_solve
  refine wl_dn (f := fun q : Int32 × (Nat → Int32) × (Nat → Int64) × (Nat → Int32) × (Nat → Int32) => f_X7_solve_s4 mc msi mwe mco mru mse mac mst q.1 q.2.1 q.2.2.1 q.2.2.2.1 q.2.2.2.2) (fun j (q : Int32 × (Nat → Int32) × (Nat → Int64) × (Nat → Int32) × (Nat → Int32)) => q.1 = nI (1296 - j) + (-1 : Int32) ∧ ∀ d, PD T d → 1296 - j ≤ km T d → PMd T q.2.1 q.2.2.1 q.2.2.2.1 q.2.2.2.2 d) 1296 (fun j q hj hq => ?_) (fun q hq => ?_) (n := 5000) (by omega) ((1295 : Int32), ms, mb, mno, mte) ⟨rfl, fun d hd h => absurd (km_lt hT hd) (by omega)⟩
  · obtain ⟨q1, q2, q3, q4, q5⟩ := q
    obtain ⟨e1, hP⟩ := hq
    obtain ⟨p, hp⟩ : ∃ p, 1296 - j = p + 1 := ⟨1296 - j - 1, by omega⟩
    replace e1 : q1 = nI (1296 - j) + (-1 : Int32) := e1
    rw [hp, nI_d] at e1
    subst e1
    replace hP : ∀ d, PD T d → 1296 - j ≤ km T d → PMd T q2 q3 q4 q5 d := hP
    rw [hp] at hP
    show ∃ s', f_X7_solve_s4 mc msi mwe mco mru mse mac mst (nI p) q2 q3 q4 q5 = some (.inl s') ∧ s'.1 = nI (1296 - (j + 1)) + (-1 : Int32) ∧ ∀ d, PD T d → 1296 - (j + 1) ≤ km T d → PMd T s'.2.1 s'.2.2.1 s'.2.2.2.1 s'.2.2.2.2 d
    unfold f_X7_solve_s4
    rw [if_neg (nI_pos (by omega)), q_isPart hT hM (by omega), bd_go, show 1296 - (j + 1) = p by omega]
    cases hi : isP T p with
    | false =>
      rw [if_neg (by decide)]
      refine ⟨_, rfl, rfl, fun d hd hle => hP d hd ?_⟩
      rcases Nat.lt_or_ge p (km T d) with w | w
      · omega
      · have e : km T d = p := Nat.le_antisymm w hle
        have := km_isP hT hd
        rw [e, hi] at this
        exact absurd this (by decide)
    | true =>
      have hd0 := dgm_pd hi
      have hk0 := dgm_km hT (show p < 1296 by omega) hi
      obtain ⟨a, ha, h1, h2⟩ := q_solvePart (ms := q2) (mb := q3) (mno := q4) (mte := q5) hT hM hd0 (fun c v hc ho hv => hP _ (PD_upf hd0 (by omega)) (by have := km_up hT hc ho hv; omega))
      rw [hk0] at ha h2
      obtain ⟨a1, a2, a3, a4⟩ := a
      rw [if_pos rfl, ha, bd4_go]
      refine ⟨_, rfl, rfl, fun d hd hle => ?_⟩
      show PMd T a1 a2 a3 a4 d
      by_cases e : km T d = p
      · have hag := dgm_agr hT hd
        rw [e] at hag
        obtain ⟨g1, g2, g3, g4⟩ := h1
        rw [hk0] at g1 g2 g3 g4
        have eb : bst T (dgm T p) = bst T d := by
          unfold bst
          refine ffc _ (fun c hc => ?_)
          rw [isO_cong hag c hc, Rv_cong hag]
          have : rt T (dgm T p) c = rt T d c := by
            unfold rt
            rw [Wd_cong hag, fb_sm_cong (fun v _ => Rv_cong (agr_upf hag c v))]
          rw [this]
        unfold PMd
        rw [e, ← Sv_cong hag, ← Rv_cong hag, ← eb]
        exact ⟨g1, g2, g3, g4⟩
      · obtain ⟨b1, b2, b3, b4⟩ := h2 _ e
        obtain ⟨g1, g2, g3, g4⟩ := hP d hd (by omega)
        exact ⟨b1.trans g1, b2.trans g2, b3.trans g3, b4.trans g4⟩
  · obtain ⟨q1, q2, q3, q4, q5⟩ := q
    obtain ⟨e1, hP⟩ := hq
    replace e1 : q1 = nI (1296 - 1296) + (-1 : Int32) := e1
    subst e1
    refine ⟨(q2, q3, q4, q5), ?_, fun d hd => hP d hd (by omega)⟩
    show f_X7_solve_s4 mc msi mwe mco mru mse mac mst (nI (1296 - 1296) + (-1 : Int32)) q2 q3 q4 q5 = _
    unfold f_X7_solve_s4
    rw [if_pos (by decide)]
theorem km_rot (T : Tb) : km T (rot T) = 0 := by
  have e : ∀ c, ed T (rot T) c = 0 := fun c => if_neg (fun w => w.2 (if_pos w.1))
  unfold km
  rw [e, e, e, e]
theorem eq_costWithRoot (hT : TOk T) (hX : XT T tc tca tru tdf tsi tst tco twe tse tac trw) (hM : MT T mc mru mst msi mwe mco mse mac) (pc : Int32) (ps pw pa : Nat → Int32) (prk : Nat → Int64) (ms : Nat → Int32) (mb : Nat → Int64) (mno mte : Nat → Int32) (x1 : Int32) : ∃ r pc' ps' pw' pa' prk' ms' mb' mno' mte', f_X6_costWithRoot tc tru tdf tsi tst tco twe tac trw pc ps pw pa prk x1 = some (r, pc', ps', pw', pa', prk') ∧ f_X7_costWithRoot mc msi mwe mco mru mse mac mst ms mb mno mte x1 = some (r, ms', mb', mno', mte') := by
  have h4 := hT.n4
  unfold f_X6_costWithRoot f_X7_costWithRoot
  rw [hX.n, x_hasC, bd_go, m_isCond hT hM, bd_go, ← hX.n]
  cases h1 : hasb (tn T) x1 with
  | false =>
    rw [if_neg (by decide), if_neg (by decide)]
    exact ⟨_, _, _, _, _, _, _, _, _, _, rfl, rfl⟩
  | true =>
    obtain ⟨c, hc, rfl⟩ := hb_t (by omega) h1
    obtain ⟨ps', pw', pa', prk', e1, e2, e3⟩ := p_plan hT hX pc ps pw pa prk
    obtain ⟨⟨a1, a2, a3, a4⟩, f1, f2⟩ := q_solve hT hM ms mb mno mte
    have ho : rot T c = tz T c := if_pos hc
    have hq := q_cost (mb := a2) hT hM (rot_pd T) hc ho (fun v hv => (f2 _ (PD_upf (rot_pd T) (by omega))).2.1)
    rw [km_rot] at hq
    rw [if_pos rfl, if_pos rfl, e1, bd5_go, p_costWith hT hX e2 e3 hc, bd_go, f1, bd4_go, show (0 : Int32) = nI 0 from rfl, hq, bd_go]
    exact ⟨_, _, _, _, _, _, _, _, _, _, rfl, rfl⟩
end M
