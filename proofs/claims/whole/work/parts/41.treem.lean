def d6 (c : Nat) : Int32 := if c = 0 then -6 else dI c
def MA (mq ma mz md mp : Nat → Int32) (k : Nat) (L : List Nd) : Prop := ∀ i q, L[i]? = some q → mq (k + i) = d6 q.1 ∧ ma (k + i) = d6 q.2.1 ∧ mz (k + i) = nI q.2.2.1 ∧ md (k + i) = nI q.2.2.2.1 ∧ mp (k + i) = nI q.2.2.2.2
theorem MA_nil {mq ma mz md mp : Nat → Int32} {k : Nat} : MA mq ma mz md mp k [] := fun i q h => by
  rw [List.getElem?_nil] at h
  cases h
theorem MA_app {mq ma mz md mp : Nat → Int32} {k : Nat} {L M : List Nd} (h1 : MA mq ma mz md mp k L) (h2 : MA mq ma mz md mp (k + L.length) M) : MA mq ma mz md mp k (L ++ M) := fun i q h => by
  rcases Nat.lt_or_ge i L.length with w | w
  · rw [List.getElem?_append_left w] at h
    exact h1 i q h
  · rw [List.getElem?_append_right w] at h
    have := h2 _ q h
    rwa [show k + L.length + (i - L.length) = k + i by omega] at this
theorem MA_cons {mq ma mz md mp : Nat → Int32} {k : Nat} {q : Nd} {L : List Nd} (h1 : mq k = d6 q.1 ∧ ma k = d6 q.2.1 ∧ mz k = nI q.2.2.1 ∧ md k = nI q.2.2.2.1 ∧ mp k = nI q.2.2.2.2) (h2 : MA mq ma mz md mp (k + 1) L) : MA mq ma mz md mp k (q :: L) := fun i p h => by
  cases i with
  | zero =>
    rw [List.getElem?_cons_zero] at h
    cases h
    exact h1
  | succ i =>
    rw [List.getElem?_cons_succ] at h
    have := h2 i p h
    rwa [show k + 1 + i = k + (i + 1) by omega] at this
theorem MA_frame {mq ma mz md mp mq' ma' mz' md' mp' : Nat → Int32} {k : Nat} {L : List Nd} (h : MA mq ma mz md mp k L) (e : ∀ j, k ≤ j → j < k + L.length → mq' j = mq j ∧ ma' j = ma j ∧ mz' j = mz j ∧ md' j = md j ∧ mp' j = mp j) : MA mq' ma' mz' md' mp' k L := fun i q hq => by
  have hi : i < L.length := by
    rcases Nat.lt_or_ge i L.length with w | w
    · exact w
    · rw [List.getElem?_eq_none w] at hq; cases hq
  obtain ⟨a, b, c, d, f⟩ := h i q hq
  obtain ⟨e1, e2, e3, e4, e5⟩ := e (k + i) (by omega) (by omega)
  exact ⟨e1.trans a, e2.trans b, e3.trans c, e4.trans d, e5.trans f⟩
section P
variable {T : Tb} {mc mru mst : Int32} {msi mwe mco mse mac : Nat → Int32} {ms mno mte : Nat → Int32} {mb : Nat → Int64}
theorem m_grow (hT : TOk T) (hM : MT T mc mru mst msi mwe mco mse mac) (hP : ∀ d, PD T d → PMd T ms mb mno mte d) : ∀ m d, oc T d (tn T) = m → PD T d → ∀ f, m < f → ∀ k dep sp mq ma mz md mp, k + Rv T d % 1024 ≤ 781 → ∃ mq' ma' mz' md' mp', f_X7_grow f msi mco ms mte (nI k) mq ma mz md mp (nI (km T d)) (nI dep) (nI sp) = some (nI (k + (nd T m d dep sp).length), mq', ma', mz', md', mp') ∧ MA mq' ma' mz' md' mp' k (nd T m d dep sp) ∧ ∀ j, j < k → mq' j = mq j ∧ ma' j = ma j ∧ mz' j = mz j ∧ md' j = md j ∧ mp' j = mp j := by
  have h4 := hT.n4
  have leaf : ∀ (m : Nat) (d : Nat → Nat), PD T d → ¬ Sv T d = 11 → ∀ f k dep sp mq ma mz md mp, k + Rv T d % 1024 ≤ 781 → ∃ mq' ma' mz' md' mp', f_X7_grow (f + 1) msi mco ms mte (nI k) mq ma mz md mp (nI (km T d)) (nI dep) (nI sp) = some (nI (k + (nd T m d dep sp).length), mq', ma', mz', md', mp') ∧ MA mq' ma' mz' md' mp' k (nd T m d dep sp) ∧ ∀ j, j < k → mq' j = mq j ∧ ma' j = ma j ∧ mz' j = mz j ∧ md' j = md j ∧ mp' j = mp j := by
    intro m d hd hS f k dep sp mq ma mz md mp hk
    have hR1 := (Rv_b hT _ d rfl).2.2
    have hkm := km_lt hT hd
    obtain ⟨p1, p2, p3, p4⟩ := hP d hd
    have hle := Sv_le hT d
    rw [nd_leaf hS]
    show ∃ mq' ma' mz' md' mp', f_X7_grow_b (f_X7_grow f) msi mco ms mte (nI k) mq ma mz md mp (nI (km T d)) (nI dep) (nI sp) = _ ∧ _
    unfold f_X7_grow_b
    have e1 : (nI (k + 1) - nI k) = nI 1 := by rw [pk_sub (by omega)]; congr 1; omega
    have e3 : mI (Sv T d) = dI (Sv T d) := if_neg hS
    rw [rd_nI hkm (by decide), p4, if_neg hS, ix_nI (by omega) (by decide), if_pos rfl, nI_clamp (by omega), nm_go, p1, e3, told_dI (by omega), bd_go, nI_1, nI_clamp (by omega), e1]
    exact ⟨_, _, _, _, _, rfl, MA_cons ⟨if_pos rfl, if_pos rfl, if_pos rfl, if_pos rfl, if_pos rfl⟩ MA_nil, fun j hj => ⟨if_neg (by omega), if_neg (by omega), if_neg (by omega), if_neg (by omega), if_neg (by omega)⟩⟩
  intro m
  induction m with
  | zero =>
    intro d hoc hd f hf k dep sp mq ma mz md mp hk
    obtain ⟨f, rfl⟩ : ∃ g, f = g + 1 := ⟨f - 1, by omega⟩
    have hS : ¬ Sv T d = 11 := fun w => by
      have hf := Sv_mix hT w
      have := oc_pos (fo_open hf) (tn T) hf
      omega
    exact leaf 0 d hd hS f k dep sp mq ma mz md mp hk
  | succ m ih =>
    intro d hoc hd f hf k dep sp mq ma mz md mp hk
    obtain ⟨f, rfl⟩ : ∃ g, f = g + 1 := ⟨f - 1, by omega⟩
    by_cases hS : Sv T d = 11
    · have hR1 := (Rv_b hT _ d rfl).2.2
      have hkm := km_lt hT hd
      obtain ⟨p1, p2, p3, p4⟩ := hP d hd
      obtain ⟨b1, b2, b3⟩ := bst_lt hT hS
      have hlen := nd_len hT (m + 1) d dep sp hoc
      have hz5 := hT.z5 (bst T d)
      have hnd : nd T (m + 1) d dep sp = (bst T d + 1, 0, Rv T d % 1024, dep, sp) :: cat (fun v => nd T m (upf d (bst T d) v) (dep + 1) (sp + tk T (bst T d))) (tz T (bst T d)) := by rw [nd, if_pos hS]
      rw [hnd] at hlen ⊢
      rw [List.length_cons] at hlen
      have hov : ∀ v, v < tz T (bst T d) → oc T (upf d (bst T d) v) (tn T) = m := fun v hv => by have := oc_upf b2 hv (tn T) b1; omega
      have hcl : ∀ v, v < tz T (bst T d) → (cat (fun v => nd T m (upf d (bst T d) v) (dep + 1) (sp + tk T (bst T d))) v).length + Rv T (upf d (bst T d) v) % 1024 + 1 ≤ Rv T d % 1024 := fun v hv => by
        have := nd_len hT m (upf d (bst T d) v) (dep + 1) (sp + tk T (bst T d)) (hov v hv)
        rw [← hlen, cat_len, cat_len, ← this]
        have := fb_sm_part (fun v => (nd T m (upf d (bst T d) v) (dep + 1) (sp + tk T (bst T d))).length) hv
        omega
      show ∃ mq' ma' mz' md' mp', f_X7_grow_b (f_X7_grow f) msi mco ms mte (nI k) mq ma mz md mp (nI (km T d)) (nI dep) (nI sp) = _ ∧ _
      unfold f_X7_grow_b
      rw [rd_nI hkm (by decide), p4, if_pos hS, ix_nI (by omega) (by decide), if_neg (nI_m6 (by omega)), nI_clamp (by omega), nI_1]
      have key := wl_dn (f := fun q : Int32 × Int32 × (Nat → Int32) × (Nat → Int32) × (Nat → Int32) × (Nat → Int32) × (Nat → Int32) => f_X7_grow_s91 msi mco ms mte (nI k) (nI (km T d)) (nI dep) (nI sp) (f_X7_grow f) (nI (bst T d)) q.1 q.2.1 q.2.2.1 q.2.2.2.1 q.2.2.2.2.1 q.2.2.2.2.2.1 q.2.2.2.2.2.2) (fun v (q : Int32 × Int32 × (Nat → Int32) × (Nat → Int32) × (Nat → Int32) × (Nat → Int32) × (Nat → Int32)) => q.1 = nI (v + 1) ∧ q.2.1 = nI (k + 1 + (cat (fun v => nd T m (upf d (bst T d) v) (dep + 1) (sp + tk T (bst T d))) v).length) ∧ MA q.2.2.1 q.2.2.2.1 q.2.2.2.2.1 q.2.2.2.2.2.1 q.2.2.2.2.2.2 (k + 1) (cat (fun v => nd T m (upf d (bst T d) v) (dep + 1) (sp + tk T (bst T d))) v) ∧ (q.2.2.1 k = nI (bst T d) ∧ q.2.2.2.1 k = -6 ∧ q.2.2.2.2.2.1 k = nI dep ∧ q.2.2.2.2.2.2 k = nI sp) ∧ ∀ j, j < k → q.2.2.1 j = mq j ∧ q.2.2.2.1 j = ma j ∧ q.2.2.2.2.1 j = mz j ∧ q.2.2.2.2.2.1 j = md j ∧ q.2.2.2.2.2.2 j = mp j) (tz T (bst T d)) (P := fun a => a.1 = nI (k + (1 + (cat (fun v => nd T m (upf d (bst T d) v) (dep + 1) (sp + tk T (bst T d))) (tz T (bst T d))).length)) ∧ MA a.2.1 a.2.2.1 a.2.2.2.1 a.2.2.2.2.1 a.2.2.2.2.2 k ((bst T d + 1, 0, Rv T d % 1024, dep, sp) :: cat (fun v => nd T m (upf d (bst T d) v) (dep + 1) (sp + tk T (bst T d))) (tz T (bst T d))) ∧ ∀ j, j < k → a.2.1 j = mq j ∧ a.2.2.1 j = ma j ∧ a.2.2.2.1 j = mz j ∧ a.2.2.2.2.1 j = md j ∧ a.2.2.2.2.2 j = mp j) (fun v q hv hq => ?_) (fun q hq => ?_) (n := 5000) (by omega) ((1 : Int32), nI (k + 1), upd mq k (nI (bst T d)), upd ma k (-6), mz, upd md k (nI dep), upd mp k (nI sp)) ⟨rfl, rfl, MA_nil, ⟨if_pos rfl, if_pos rfl, if_pos rfl, if_pos rfl⟩, fun j hj => ⟨if_neg (by omega), if_neg (by omega), rfl, if_neg (by omega), if_neg (by omega)⟩⟩
      · obtain ⟨⟨a1, a2, a3, a4, a5, a6⟩, h1, h2, h5, h6⟩ := key
        replace h2 : a1 = _ := h2
        subst h2
        refine ⟨a2, a3, a4, a5, a6, ?_, h5, h6⟩
        rw [h1, List.length_cons, Nat.add_comm 1]
      · obtain ⟨q1, q2, q3, q4, q5, q6, q7⟩ := q
        obtain ⟨g1, g2, g4, g5, g6⟩ := hq
        replace g1 : q1 = nI (v + 1) := g1
        replace g2 : q2 = _ := g2
        subst g1
        subst g2
        replace g4 : MA q3 q4 q5 q6 q7 (k + 1) (cat (fun v => nd T m (upf d (bst T d) v) (dep + 1) (sp + tk T (bst T d))) v) := g4
        have hc := hcl v hv
        obtain ⟨r1, r2, r3, r4, r5, s1, s2, s3⟩ := ih (upf d (bst T d) v) (hov v hv) (PD_upf hd (by omega)) f (by omega) (k + 1 + (cat (fun v => nd T m (upf d (bst T d) v) (dep + 1) (sp + tk T (bst T d))) v).length) (dep + 1) (sp + tk T (bst T d)) q3 q4 q5 q6 q7 (by omega)
        refine ⟨(nI (v + 1 + 1), nI (k + 1 + (cat (fun v => nd T m (upf d (bst T d) v) (dep + 1) (sp + tk T (bst T d))) v).length + (nd T m (upf d (bst T d) v) (dep + 1) (sp + tk T (bst T d))).length), r1, r2, r3, r4, r5), ?_, rfl, ?_, ?_, ?_, ?_⟩
        · show f_X7_grow_s91 msi mco ms mte (nI k) (nI (km T d)) (nI dep) (nI sp) (f_X7_grow f) (nI (bst T d)) (nI (v + 1)) (nI (k + 1 + (cat (fun v => nd T m (upf d (bst T d) v) (dep + 1) (sp + tk T (bst T d))) v).length)) q3 q4 q5 q6 q7 = _
          unfold f_X7_grow_s91
          rw [rd_nI (by omega) (by decide), hM.z (by omega), if_neg (nI_nlt (by omega) (by omega)), m_unit (by omega), bd_go, nI_clamp (by omega), nm_go, hM.k (by omega), q_part hT b1 b2 hv, nI_1, nI_add, s1, bd6_go, nI_1]
        · show nI _ = nI _
          rw [cat, List.length_append, Nat.add_assoc]
        · show MA r1 r2 r3 r4 r5 (k + 1) _
          rw [cat]
          exact MA_app (MA_frame g4 (fun j h1 h2 => s3 j (by omega))) s2
        · obtain ⟨z1, z2, z3, z4, z5⟩ := s3 k (by omega)
          obtain ⟨y1, y2, y3, y4⟩ := g5
          exact ⟨z1.trans y1, z2.trans y2, z4.trans y3, z5.trans y4⟩
        · intro j hj
          obtain ⟨z1, z2, z3, z4, z5⟩ := s3 j (by omega)
          obtain ⟨y1, y2, y3, y4, y5⟩ := g6 j hj
          exact ⟨z1.trans y1, z2.trans y2, z3.trans y3, z4.trans y4, z5.trans y5⟩
      · obtain ⟨q1, q2, q3, q4, q5, q6, q7⟩ := q
        obtain ⟨g1, g2, g4, g5, g6⟩ := hq
        replace g1 : q1 = nI (tz T (bst T d) + 1) := g1
        replace g2 : q2 = _ := g2
        subst g1
        subst g2
        replace g4 : MA q3 q4 q5 q6 q7 (k + 1) (cat (fun v => nd T m (upf d (bst T d) v) (dep + 1) (sp + tk T (bst T d))) (tz T (bst T d))) := g4
        obtain ⟨y1, y2, y3, y4⟩ := g5
        have eex : upd q5 k (nI (k + 1 + (cat (fun v => nd T m (upf d (bst T d) v) (dep + 1) (sp + tk T (bst T d))) (tz T (bst T d))).length) - nI k) k = nI (Rv T d % 1024) := by
          rw [pk_sub (by omega)]
          refine (if_pos rfl).trans ?_
          congr 1
          omega
        refine ⟨(nI (k + 1 + (cat (fun v => nd T m (upf d (bst T d) v) (dep + 1) (sp + tk T (bst T d))) (tz T (bst T d))).length), q3, q4, upd q5 k (nI (k + 1 + (cat (fun v => nd T m (upf d (bst T d) v) (dep + 1) (sp + tk T (bst T d))) (tz T (bst T d))).length) - nI k), q6, q7), ?_, ?_, ?_, ?_⟩
        · show f_X7_grow_s91 msi mco ms mte (nI k) (nI (km T d)) (nI dep) (nI sp) (f_X7_grow f) (nI (bst T d)) (nI (tz T (bst T d) + 1)) (nI (k + 1 + (cat (fun v => nd T m (upf d (bst T d) v) (dep + 1) (sp + tk T (bst T d))) (tz T (bst T d))).length)) q3 q4 q5 q6 q7 = _
          unfold f_X7_grow_s91
          rw [rd_nI (by omega) (by decide), hM.z (by omega), if_pos (nI_lt (by omega) (by omega)), nI_clamp (by omega)]
        · show nI _ = nI _
          rw [Nat.add_assoc]
        · exact MA_cons ⟨y1, y2, eex, y3, y4⟩ (MA_frame g4 (fun j h1 h2 => ⟨rfl, rfl, if_neg (by omega), rfl, rfl⟩))
        · intro j hj
          obtain ⟨z1, z2, z3, z4, z5⟩ := g6 j hj
          exact ⟨z1, z2, (if_neg (by omega)).trans z3, z4, z5⟩
    · exact leaf (m + 1) d hd hS f k dep sp mq ma mz md mp hk
end P
