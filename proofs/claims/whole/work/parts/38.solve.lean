/-! the reference's table of parts -/
/-- the first of the best so far -/
def am (p : Nat → Bool) (f : Nat → Nat) : Nat → Nat
  | 0 => 0
  | c + 1 => if p c = true then (if f c < mn p f c then c else am p f c) else am p f c
theorem am_first {p : Nat → Bool} {f : Nat → Nat} : ∀ n, mn p f n < BG → am p f n < n ∧ p (am p f n) = true ∧ f (am p f n) = mn p f n ∧ ∀ i, i < am p f n → p i = true → mn p f n < f i
  | 0, h => absurd h (Nat.lt_irrefl _)
  | n + 1, h => by
    rw [mn] at h ⊢
    rw [am]
    by_cases e : p n = true
    · rw [if_pos e] at h ⊢
      rw [if_pos e]
      by_cases e2 : f n < mn p f n
      · rw [if_pos e2, if_pos e2]
        exact ⟨by omega, e, rfl, fun i hi hp => Nat.lt_of_lt_of_le e2 (mn_le n i hi hp)⟩
      · rw [if_neg e2] at h ⊢
        rw [if_neg e2]
        obtain ⟨a, b, c, d⟩ := am_first n h
        exact ⟨by omega, b, c, d⟩
    · rw [if_neg e] at h ⊢
      rw [if_neg e]
      obtain ⟨a, b, c, d⟩ := am_first n h
      exact ⟨by omega, b, c, d⟩
theorem mn_none {p : Nat → Bool} {f : Nat → Nat} : ∀ n, mn p f n ≤ BG
  | 0 => Nat.le_refl _
  | n + 1 => by
    have := mn_none (p := p) (f := f) n
    rw [mn]
    by_cases e : p n = true
    · rw [if_pos e]
      by_cases e2 : f n < mn p f n
      · rw [if_pos e2]; omega
      · rw [if_neg e2]; exact this
    · rw [if_neg e]; exact this
theorem am_bst {T : Tb} (hT : TOk T) {d : Nat → Nat} (h : Sv T d = 11) : am (isO T d) (rt T d) (tn T) = bst T d := by
  have hR := Rv_lt hT d
  have e := Rv_m hT h
  obtain ⟨a1, a2, a3, a4⟩ := am_first (p := isO T d) (f := rt T d) (tn T) (by rw [← e]; unfold BG; omega)
  refine ((ff_iff a1).mpr ⟨?_, fun i hi => ?_⟩).symm
  · rw [a2, a3, e, decide_eq_true rfl]; rfl
  · cases ho : isO T d i with
    | false => rfl
    | true =>
      have := a4 i hi ho
      rw [decide_eq_false (by rw [e]; omega)]
      rfl
section M
variable {T : Tb} {mc mru mst : Int32} {msi mwe mco mse mac : Nat → Int32} {ms mno mte : Nat → Int32} {mb : Nat → Int64}
def PMd (T : Tb) (ms : Nat → Int32) (mb : Nat → Int64) (mno mte : Nat → Int32) (d : Nat → Nat) : Prop := ms (km T d) = mI (Sv T d) ∧ mb (km T d) = lN (Rv T d / 1024) ∧ mno (km T d) = nI (Rv T d % 1024) ∧ mte (km T d) = (if Sv T d = 11 then nI (bst T d) else (-6 : Int32))
theorem km_up (hT : TOk T) {d : Nat → Nat} {c v : Nat} (hc : c < tn T) (ho : d c = tz T c) (hv : v < tz T c) : km T d < km T (upf d c v) := by
  rw [km_upf hT hc ho hv]
  have := (un_pos c).1
  have h1 : 1 * un c ≤ (v + 1) * un c := Nat.mul_le_mul_right _ (by omega)
  omega
def stB (m : Nat) : Int64 := if m = BG then lN 0 else lN (m / 1024)
def stN (m : Nat) : Int32 := if m = BG then nI 1 else nI (m % 1024)
def stT (m a : Nat) : Int32 := if m = BG then -6 else nI a
theorem q_solvePart (hT : TOk T) (hM : MT T mc mru mst msi mwe mco mse mac) {d : Nat → Nat} (hd : PD T d) (hp : ∀ c v, c < tn T → d c = tz T c → v < tz T c → PMd T ms mb mno mte (upf d c v)) : ∃ a, f_X7_solvePart mc msi mwe mco mru mse mac mst ms mb mno mte (nI (km T d)) = some a ∧ PMd T a.1 a.2.1 a.2.2.1 a.2.2.2 d ∧ ∀ j, ¬ j = km T d → a.1 j = ms j ∧ a.2.1 j = mb j ∧ a.2.2.1 j = mno j ∧ a.2.2.2 j = mte j := by
  have h4 := hT.n4
  have hk := km_lt hT hd
  unfold f_X7_solvePart
  rw [q_same hT hM hd (fun c v hc ho hv => (hp c v hc ho hv).1), bd_go, ix_nI hk (by decide)]
  have hz : upd ms (nI (km T d)).toNatClampNeg (mI (Sv T d)) = upd ms (km T d) (mI (Sv T d)) := by rw [nI_clamp (by omega)]
  have hcl : (nI (km T d)).toNatClampNeg = km T d := nI_clamp (by omega)
  by_cases hS : Sv T d = 11
  · have hR := Rv_lt hT d
    refine wl_dn (f := fun q : Int32 × (Nat → Int64) × (Nat → Int32) × (Nat → Int32) => f_X7_solvePart_s35 mc msi mwe mco ms (nI (km T d)) (mI (Sv T d)) q.1 q.2.1 q.2.2.1 q.2.2.2) (fun c (q : Int32 × (Nat → Int64) × (Nat → Int32) × (Nat → Int32)) => q.1 = nI c ∧ q.2.1 (km T d) = stB (mn (isO T d) (rt T d) c) ∧ q.2.2.1 (km T d) = stN (mn (isO T d) (rt T d) c) ∧ q.2.2.2 (km T d) = stT (mn (isO T d) (rt T d) c) (am (isO T d) (rt T d) c) ∧ ∀ j, ¬ j = km T d → q.2.1 j = mb j ∧ q.2.2.1 j = mno j ∧ q.2.2.2 j = mte j) (tn T) (fun c q hc hq => ?_) (fun q hq => ?_) (n := 5000) (by omega) _ ⟨rfl, ?_, ?_, ?_, fun j hj => ?_⟩
    · obtain ⟨q1, q2, q3, q4⟩ := q
      obtain ⟨e1, e2, e3, e4, e5⟩ := hq
      replace e1 : q1 = nI c := e1
      subst e1
      replace e2 : q2 (km T d) = stB (mn (isO T d) (rt T d) c) := e2
      replace e3 : q3 (km T d) = stN (mn (isO T d) (rt T d) c) := e3
      replace e4 : q4 (km T d) = stT (mn (isO T d) (rt T d) c) (am (isO T d) (rt T d) c) := e4
      replace e5 : ∀ j, ¬ j = km T d → q2 j = mb j ∧ q3 j = mno j ∧ q4 j = mte j := e5
      have s0 : f_X7_solvePart_s35 mc msi mwe mco ms (nI (km T d)) (mI (Sv T d)) (nI c) q2 q3 q4 = (Option.bind (f_X7_digit (nI (km T d)) (nI c)) fun z56 => (if z56 = 0 then (Option.bind (f_X7_costBy mc msi mwe mco q2 (nI (km T d)) (nI c)) fun z65 => (Option.bind (f_X7_nodesBy msi q3 (nI (km T d)) (nI c)) fun z72 => (if q4 (km T d) = -6 then (some (.inl (nI (c + 1), vp_updL q2 (km T d) z65, upd q3 (km T d) z72, upd q4 (km T d) (nI c)))) else (if (lg_cmp z65 (q2 (km T d))) < 0 then (some (.inl (nI (c + 1), vp_updL q2 (km T d) z65, upd q3 (km T d) z72, upd q4 (km T d) (nI c)))) else (if (lg_cmp z65 (q2 (km T d))) = 0 then (if q3 (km T d) ≤ z72 then (some (.inl (nI (c + 1), q2, q3, q4))) else (some (.inl (nI (c + 1), vp_updL q2 (km T d) z65, upd q3 (km T d) z72, upd q4 (km T d) (nI c))))) else (some (.inl (nI (c + 1), q2, q3, q4)))))))) else (some (.inl (nI (c + 1), q2, q3, q4))))) := by
        have hu : upd ms (km T d) (mI (Sv T d)) (km T d) = mI (Sv T d) := if_pos rfl
        unfold f_X7_solvePart_s35
        rw [hM.n, if_neg (nI_ge hc (by omega)), hcl, hu, nm_go, if_pos ((mI_9 (Sv_le hT _)).mpr hS), nI_1]
        rfl
      have fr : ∀ (x : Int64) (y w : Int32) j, ¬ j = km T d → vp_updL q2 (km T d) x j = mb j ∧ upd q3 (km T d) y j = mno j ∧ upd q4 (km T d) w j = mte j := fun x y w j hj => ⟨(if_neg hj).trans (e5 j hj).1, (if_neg hj).trans (e5 j hj).2.1, (if_neg hj).trans (e5 j hj).2.2⟩
      show ∃ s', f_X7_solvePart_s35 mc msi mwe mco ms (nI (km T d)) (mI (Sv T d)) (nI c) q2 q3 q4 = some (.inl s') ∧ _
      rw [s0, m_dig hT hd (by omega), bd_go, mn, am]
      cases ho : isO T d c with
      | false =>
        have hn : ¬ d c = tz T c := of_decide_eq_false ho
        have := hd c (by omega)
        have := hT.z5 c
        rw [ed_val hc hn, if_neg (fun w => by have := (nI_0i (by omega)).mp w; omega), if_neg (by decide), if_neg (by decide)]
        exact ⟨_, rfl, rfl, e2, e3, e4, e5⟩
      | true =>
        have ho' : d c = tz T c := of_decide_eq_true ho
        obtain ⟨r1, r2, r3, r4⟩ := rt_b hT hc ho'
        have hne : ∀ v, v < tz T c → ¬ km T (upf d c v) = km T d := fun v hv => by have := km_up hT hc ho' hv; omega
        rw [ed_open ho', if_pos (show nI 0 = (0 : Int32) from rfl), q_cost hT hM hd hc ho' (fun v hv => (e5 _ (hne v hv)).1.trans (hp c v hc ho' hv).2.1), bd_go, q_nodes hT hM hd hc ho' (fun v hv => (e5 _ (hne v hv)).2.1.trans (hp c v hc ho' hv).2.2.1), bd_go, if_pos rfl, if_pos rfl, e2, e3, e4]
        have hnB : ¬ rt T d c = BG := by unfold BG; omega
        have new : ∃ s', some (Sum.inl (nI (c + 1), vp_updL q2 (km T d) (lN (rt T d c / 1024)), upd q3 (km T d) (nI (rt T d c % 1024)), upd q4 (km T d) (nI c)) : (Int32 × (Nat → Int64) × (Nat → Int32) × (Nat → Int32)) ⊕ ((Nat → Int32) × (Nat → Int64) × (Nat → Int32) × (Nat → Int32))) = some (.inl s') ∧ s'.1 = nI (c + 1) ∧ s'.2.1 (km T d) = stB (rt T d c) ∧ s'.2.2.1 (km T d) = stN (rt T d c) ∧ s'.2.2.2 (km T d) = stT (rt T d c) c ∧ ∀ j, ¬ j = km T d → s'.2.1 j = mb j ∧ s'.2.2.1 j = mno j ∧ s'.2.2.2 j = mte j := ⟨_, rfl, rfl, (if_pos rfl).trans (if_neg hnB).symm, (if_pos rfl).trans (if_neg hnB).symm, (if_pos rfl).trans (if_neg hnB).symm, fr _ _ _⟩
        have old : ∃ s', some (Sum.inl (nI (c + 1), q2, q3, q4) : (Int32 × (Nat → Int64) × (Nat → Int32) × (Nat → Int32)) ⊕ ((Nat → Int32) × (Nat → Int64) × (Nat → Int32) × (Nat → Int32))) = some (.inl s') ∧ s'.1 = nI (c + 1) ∧ s'.2.1 (km T d) = stB (mn (isO T d) (rt T d) c) ∧ s'.2.2.1 (km T d) = stN (mn (isO T d) (rt T d) c) ∧ s'.2.2.2 (km T d) = stT (mn (isO T d) (rt T d) c) (am (isO T d) (rt T d) c) ∧ ∀ j, ¬ j = km T d → s'.2.1 j = mb j ∧ s'.2.2.1 j = mno j ∧ s'.2.2.2 j = mte j := ⟨_, rfl, rfl, e2, e3, e4, e5⟩
        by_cases hB : mn (isO T d) (rt T d) c = BG
        · have hlt : rt T d c < mn (isO T d) (rt T d) c := by rw [hB]; unfold BG; omega
          rw [if_pos hlt, if_pos hlt, if_pos (show stT (mn (isO T d) (rt T d) c) (am (isO T d) (rt T d) c) = -6 from if_pos hB)]
          exact new
        · have hle := mn_none (p := isO T d) (f := rt T d) c
          obtain ⟨a1, a2, a3, _⟩ := am_first (p := isO T d) (f := rt T d) c (by omega)
          have hrm : mn (isO T d) (rt T d) c < 2 ^ 40 := by
            rw [← a3]
            exact (rt_b hT (show am (isO T d) (rt T d) c < tn T by omega) (of_decide_eq_true a2)).2.2.1
          have t1 : stT (mn (isO T d) (rt T d) c) (am (isO T d) (rt T d) c) = nI (am (isO T d) (rt T d) c) := if_neg hB
          have t2 : stB (mn (isO T d) (rt T d) c) = lN (mn (isO T d) (rt T d) c / 1024) := if_neg hB
          have t3 : stN (mn (isO T d) (rt T d) c) = nI (mn (isO T d) (rt T d) c % 1024) := if_neg hB
          rw [if_neg (show ¬ stT (mn (isO T d) (rt T d) c) (am (isO T d) (rt T d) c) = -6 by rw [t1]; exact nI_m6 (by omega))]
          by_cases c1 : rt T d c / 1024 < mn (isO T d) (rt T d) c / 1024
          · have hlt : rt T d c < mn (isO T d) (rt T d) c := by omega
            rw [if_pos hlt, if_pos hlt, if_pos (show lg_cmp (lN (rt T d c / 1024)) (stB (mn (isO T d) (rt T d) c)) < 0 by rw [lg_cmp_lt, t2, lN_ltb (by omega) (by omega)]; exact c1)]
            exact new
          · rw [if_neg (show ¬ lg_cmp (lN (rt T d c / 1024)) (stB (mn (isO T d) (rt T d) c)) < 0 by rw [lg_cmp_lt, t2, lN_ltb (by omega) (by omega)]; exact c1)]
            by_cases c2 : rt T d c / 1024 = mn (isO T d) (rt T d) c / 1024
            · rw [if_pos (show lg_cmp (lN (rt T d c / 1024)) (stB (mn (isO T d) (rt T d) c)) = 0 by rw [lg_cmp_eq, t2, lN_eqb (by omega) (by omega)]; exact c2)]
              by_cases c3 : mn (isO T d) (rt T d) c % 1024 ≤ rt T d c % 1024
              · have hge : ¬ rt T d c < mn (isO T d) (rt T d) c := by omega
                rw [if_neg hge, if_neg hge, if_pos (show stN (mn (isO T d) (rt T d) c) ≤ nI (rt T d c % 1024) by rw [t3]; exact nI_le c3 (by omega))]
                exact old
              · have hlt : rt T d c < mn (isO T d) (rt T d) c := by omega
                rw [if_pos hlt, if_pos hlt, if_neg (show ¬ stN (mn (isO T d) (rt T d) c) ≤ nI (rt T d c % 1024) by rw [t3]; exact nI_ge (by omega) (by omega))]
                exact new
            · have hge : ¬ rt T d c < mn (isO T d) (rt T d) c := by omega
              rw [if_neg (show ¬ lg_cmp (lN (rt T d c / 1024)) (stB (mn (isO T d) (rt T d) c)) = 0 by rw [lg_cmp_eq, t2, lN_eqb (by omega) (by omega)]; exact c2), if_neg hge, if_neg hge]
              exact old
    · obtain ⟨q1, q2, q3, q4⟩ := q
      obtain ⟨e1, e2, e3, e4, e5⟩ := hq
      replace e1 : q1 = nI (tn T) := e1
      subst e1
      replace e2 : q2 (km T d) = stB (mn (isO T d) (rt T d) (tn T)) := e2
      replace e3 : q3 (km T d) = stN (mn (isO T d) (rt T d) (tn T)) := e3
      replace e4 : q4 (km T d) = stT (mn (isO T d) (rt T d) (tn T)) (am (isO T d) (rt T d) (tn T)) := e4
      have eR := Rv_m hT hS
      have hB : ¬ mn (isO T d) (rt T d) (tn T) = BG := by rw [← eR]; unfold BG; omega
      refine ⟨(upd ms (km T d) (mI (Sv T d)), q2, q3, q4), ?_, ⟨if_pos rfl, ?_, ?_, ?_⟩, fun j hj => ⟨if_neg hj, e5 j hj⟩⟩
      · show f_X7_solvePart_s35 mc msi mwe mco ms (nI (km T d)) (mI (Sv T d)) (nI (tn T)) q2 q3 q4 = _
        unfold f_X7_solvePart_s35
        rw [hM.n, if_pos (Int32.le_refl _), hcl]
      · show q2 (km T d) = _
        rw [e2, eR]; exact if_neg hB
      · show q3 (km T d) = _
        rw [e3, eR]; exact if_neg hB
      · show q4 (km T d) = _
        rw [e4, if_pos hS, ← am_bst hT hS]; exact if_neg hB
    · show vp_updL mb (nI (km T d)).toNatClampNeg 0 (km T d) = _
      rw [hcl]; exact if_pos rfl
    · show upd mno (nI (km T d)).toNatClampNeg 1 (km T d) = _
      rw [hcl]; exact if_pos rfl
    · show upd mte (nI (km T d)).toNatClampNeg (-6) (km T d) = _
      rw [hcl]; exact if_pos rfl
    · show vp_updL mb (nI (km T d)).toNatClampNeg 0 j = _ ∧ upd mno (nI (km T d)).toNatClampNeg 1 j = _ ∧ upd mte (nI (km T d)).toNatClampNeg (-6) j = _
      rw [hcl]
      exact ⟨if_neg hj, if_neg hj, if_neg hj⟩
  · have hn1 := hT.n1
    refine ⟨(upd ms (km T d) (mI (Sv T d)), vp_updL mb (km T d) 0, upd mno (km T d) 1, upd mte (km T d) (-6)), wl_r ?_, ⟨if_pos rfl, ?_, ?_, ?_⟩, fun j hj => ⟨if_neg hj, if_neg hj, if_neg hj, if_neg hj⟩⟩
    · show f_X7_solvePart_s35 mc msi mwe mco ms (nI (km T d)) (mI (Sv T d)) (nI 0) _ _ _ = _
      have hu : upd ms (km T d) (mI (Sv T d)) (km T d) = mI (Sv T d) := if_pos rfl
      unfold f_X7_solvePart_s35
      rw [hM.n, if_neg (nI_ge (show 0 < tn T by omega) (by omega)), hcl, hu, nm_go, if_neg (fun w => hS ((mI_9 (Sv_le hT _)).mp w))]
    · rw [Rv_l hS]; exact if_pos rfl
    · rw [Rv_l hS]; exact if_pos rfl
    · rw [if_neg hS]; exact if_pos rfl
end M
