/-! the tree, as the list of its nodes: test + 1 (0: leaf), action, extent, depth, spent -/
abbrev Nd : Type := Nat × Nat × Nat × Nat × Nat
def cat (f : Nat → List Nd) : Nat → List Nd
  | 0 => []
  | n + 1 => cat f n ++ f n
def nd (T : Tb) : Nat → (Nat → Nat) → Nat → Nat → List Nd
  | 0, d, dep, sp => [(0, Sv T d, 1, dep, sp)]
  | m + 1, d, dep, sp => if Sv T d = 11 then (bst T d + 1, 0, Rv T d % 1024, dep, sp) :: cat (fun v => nd T m (upf d (bst T d) v) (dep + 1) (sp + tk T (bst T d))) (tz T (bst T d)) else [(0, Sv T d, 1, dep, sp)]
theorem nd_leaf {T : Tb} {d : Nat → Nat} (h : ¬ Sv T d = 11) (m dep sp : Nat) : nd T m d dep sp = [(0, Sv T d, 1, dep, sp)] := by
  cases m with
  | zero => rfl
  | succ m => rw [nd, if_neg h]
theorem cat_len {f : Nat → List Nd} : ∀ n, (cat f n).length = fb_sm (fun v => (f v).length) n
  | 0 => rfl
  | n + 1 => by rw [cat, List.length_append, cat_len n, fb_sm_succ]
theorem nd_len {T : Tb} (hT : TOk T) : ∀ m d dep sp, oc T d (tn T) = m → (nd T m d dep sp).length = Rv T d % 1024 := by
  intro m
  induction m with
  | zero =>
    intro d dep sp h
    have hS : ¬ Sv T d = 11 := fun w => by
      have hf := Sv_mix hT w
      have := oc_pos (fo_open hf) (tn T) hf
      omega
    rw [nd_leaf hS, Rv_l hS]
    rfl
  | succ m ih =>
    intro d dep sp h
    by_cases hS : Sv T d = 11
    · obtain ⟨b1, b2, b3⟩ := bst_lt hT hS
      have hr := (rt_b hT b1 b2).2.1
      rw [nd, if_pos hS, List.length_cons, cat_len, fb_sm_cong (fun v hv => ih _ _ _ (by have := oc_upf b2 hv (tn T) b1; omega)), ← b3, hr]
      omega
    · rw [nd_leaf hS, Rv_l hS]
      rfl
def mx (w : Nat) (L : List Nd) : Nat := L.foldl (fun a q => if a < q.2.2.2.2 then q.2.2.2.2 else a) w
theorem mx_app (w : Nat) (L M : List Nd) : mx w (L ++ M) = mx (mx w L) M := List.foldl_append
theorem mx_cons (w : Nat) (q : Nd) (L : List Nd) : mx w (q :: L) = mx (if w < q.2.2.2.2 then q.2.2.2.2 else w) L := rfl
theorem mx_cat {f : Nat → List Nd} (h : ∀ v w, w ≤ 36 → mx w (f v) ≤ 36) : ∀ n w, w ≤ 36 → mx w (cat f n) ≤ 36
  | 0, _, hw => hw
  | n + 1, w, hw => by rw [cat, mx_app]; exact h n _ (mx_cat h n w hw)
theorem nd_mx {T : Tb} (hT : TOk T) : ∀ m d dep sp, sp + 9 * m ≤ 36 → ∀ w, w ≤ 36 → mx w (nd T m d dep sp) ≤ 36 := by
  intro m
  induction m with
  | zero =>
    intro d dep sp h w hw
    show (if w < sp then sp else w) ≤ 36
    split <;> omega
  | succ m ih =>
    intro d dep sp h w hw
    have h1 : (if w < sp then sp else w) ≤ 36 := by split <;> omega
    rw [nd]
    by_cases hS : Sv T d = 11
    · rw [if_pos hS, mx_cons]
      exact mx_cat (fun v w hw => ih _ _ _ (by have := (hT.k (bst T d)).2; omega) w hw) _ _ h1
    · rw [if_neg hS]
      exact h1
def XA (et ea ee ed : Nat → Int32) (k : Nat) (L : List Nd) : Prop := ∀ i q, L[i]? = some q → et (k + i) = dI q.1 ∧ ea (k + i) = dI q.2.1 ∧ ee (k + i) = nI q.2.2.1 ∧ ed (k + i) = nI q.2.2.2.1
theorem XA_nil {et ea ee ed : Nat → Int32} {k : Nat} : XA et ea ee ed k [] := fun i q h => by
  rw [List.getElem?_nil] at h
  cases h
theorem XA_app {et ea ee ed : Nat → Int32} {k : Nat} {L M : List Nd} (h1 : XA et ea ee ed k L) (h2 : XA et ea ee ed (k + L.length) M) : XA et ea ee ed k (L ++ M) := fun i q h => by
  rcases Nat.lt_or_ge i L.length with w | w
  · rw [List.getElem?_append_left w] at h
    exact h1 i q h
  · rw [List.getElem?_append_right w] at h
    have := h2 _ q h
    rwa [show k + L.length + (i - L.length) = k + i by omega] at this
theorem XA_cons {et ea ee ed : Nat → Int32} {k : Nat} {q : Nd} {L : List Nd} (h1 : et k = dI q.1 ∧ ea k = dI q.2.1 ∧ ee k = nI q.2.2.1 ∧ ed k = nI q.2.2.2.1) (h2 : XA et ea ee ed (k + 1) L) : XA et ea ee ed k (q :: L) := fun i p h => by
  cases i with
  | zero =>
    rw [List.getElem?_cons_zero] at h
    cases h
    exact h1
  | succ i =>
    rw [List.getElem?_cons_succ] at h
    have := h2 i p h
    rwa [show k + 1 + i = k + (i + 1) by omega] at this
theorem XA_frame {et ea ee ed et' ea' ee' ed' : Nat → Int32} {k : Nat} {L : List Nd} (h : XA et ea ee ed k L) (e : ∀ j, k ≤ j → j < k + L.length → et' j = et j ∧ ea' j = ea j ∧ ee' j = ee j ∧ ed' j = ed j) : XA et' ea' ee' ed' k L := fun i q hq => by
  have hi : i < L.length := by
    rcases Nat.lt_or_ge i L.length with w | w
    · exact w
    · rw [List.getElem?_eq_none w] at hq; cases hq
  obtain ⟨a, b, c, d⟩ := h i q hq
  obtain ⟨e1, e2, e3, e4⟩ := e (k + i) (by omega) (by omega)
  exact ⟨e1.trans a, e2.trans b, e3.trans c, e4.trans d⟩
section P
variable {T : Tb} {tc tca tru tdf : Int32} {tsi tst tco twe tse tac trw : Nat → Int32} {ps pw pa : Nat → Int32} {prk : Nat → Int64}
theorem x_place (hT : TOk T) (hX : XT T tc tca tru tdf tsi tst tco twe tse tac trw) (hs : SPX T ps) (hP : ∀ d, PD T d → PXd T pw pa prk d) : ∀ m d, oc T d (tn T) = m → PD T d → ∀ f, m < f → ∀ k w dep sp et ea ee ed, k + Rv T d % 1024 ≤ 781 → dep + m ≤ 4 → sp + 9 * m ≤ 36 → w ≤ 36 → ∃ et' ea' ee' ed', f_X5_place f (nI k) (nI w) et ea ee ed ps pw pa prk tc tsi tco (nI (kx T d)) (nI dep) (nI sp) = some (nI (k + (nd T m d dep sp).length), nI (mx w (nd T m d dep sp)), et', ea', ee', ed') ∧ XA et' ea' ee' ed' k (nd T m d dep sp) ∧ ∀ j, j < k → et' j = et j ∧ ea' j = ea j ∧ ee' j = ee j ∧ ed' j = ed j := by
  have h4 := hT.n4
  intro m
  induction m with
  | zero =>
    intro d hoc hd f hf k w dep sp et ea ee ed hk hdep hsp hw
    obtain ⟨f, rfl⟩ : ∃ g, f = g + 1 := ⟨f - 1, by omega⟩
    have hS : ¬ Sv T d = 11 := fun w => by
      have hf := Sv_mix hT w
      have := oc_pos (fo_open hf) (tn T) hf
      omega
    have hR1 := (Rv_b hT _ d rfl).2.2
    have hkx := Nat.lt_of_lt_of_le (kx_lt hT hd) (cub_le hT)
    rw [nd_leaf hS]
    show ∃ et' ea' ee' ed', f_X5_place_b (f_X5_place f) (nI k) (nI w) et ea ee ed ps pw pa prk tc tsi tco (nI (kx T d)) (nI dep) (nI sp) = _ ∧ _
    unfold f_X5_place_b
    have e1 : (nI (k + 1) - nI k) = nI 1 := by rw [pk_sub (by omega)]; congr 1; omega
    have e2 : (if nI w < nI sp then nI sp else nI w) = nI (if w < sp then sp else w) := by
      by_cases q : w < sp
      · rw [if_pos (nI_lt q (by omega)), if_pos q]
      · rw [if_neg (nI_nlt (by omega) (by omega)), if_neg q]
    rw [if_neg (show ¬ (781 : Int32) ≤ nI k from nI_ge (b := 781) (by omega) (by omega)), if_pos (show nI dep ≤ (4 : Int32) from nI_le (b := 4) (by omega) (by omega)), p_best hT hX hs hP hd, bd_go, ix_nI (by omega) (by decide), if_neg hS, if_pos rfl, rd_nI hkx (by decide), (hP d hd).2.1, nI_1, nI_clamp (by omega), e1, e2]
    have e3 : sI (Sv T d) = dI (Sv T d) := if_neg hS
    rw [e3]
    exact ⟨_, _, _, _, rfl, XA_cons ⟨if_pos rfl, if_pos rfl, if_pos rfl, if_pos rfl⟩ (fun i q h => by cases i <;> cases h), fun j hj => ⟨if_neg (by omega), if_neg (by omega), if_neg (by omega), if_neg (by omega)⟩⟩
  | succ m ih =>
    intro d hoc hd f hf k w dep sp et ea ee ed hk hdep hsp hw
    obtain ⟨f, rfl⟩ : ∃ g, f = g + 1 := ⟨f - 1, by omega⟩
    have hR1 := (Rv_b hT _ d rfl).2.2
    have hkx := Nat.lt_of_lt_of_le (kx_lt hT hd) (cub_le hT)
    have e2 : (if nI w < nI sp then nI sp else nI w) = nI (if w < sp then sp else w) := by
      by_cases q : w < sp
      · rw [if_pos (nI_lt q (by omega)), if_pos q]
      · rw [if_neg (nI_nlt (by omega) (by omega)), if_neg q]
    by_cases hS : Sv T d = 11
    · obtain ⟨b1, b2, b3⟩ := bst_lt hT hS
      have hlen := nd_len hT (m + 1) d dep sp hoc
      have hz5 := hT.z5 (bst T d)
      have hkc := (hT.k (bst T d)).2
      have hw1 : (if w < sp then sp else w) ≤ 36 := by split <;> omega
      have hnd : nd T (m + 1) d dep sp = (bst T d + 1, 0, Rv T d % 1024, dep, sp) :: cat (fun v => nd T m (upf d (bst T d) v) (dep + 1) (sp + tk T (bst T d))) (tz T (bst T d)) := by rw [nd, if_pos hS]
      rw [hnd] at hlen ⊢
      rw [List.length_cons] at hlen
      have hov : ∀ v, v < tz T (bst T d) → oc T (upf d (bst T d) v) (tn T) = m := fun v hv => by have := oc_upf b2 hv (tn T) b1; omega
      have hcl : ∀ v, v < tz T (bst T d) → (cat (fun v => nd T m (upf d (bst T d) v) (dep + 1) (sp + tk T (bst T d))) v).length + Rv T (upf d (bst T d) v) % 1024 + 1 ≤ Rv T d % 1024 := fun v hv => by
        have := nd_len hT m (upf d (bst T d) v) (dep + 1) (sp + tk T (bst T d)) (hov v hv)
        rw [← hlen, cat_len, cat_len, ← this]
        have := fb_sm_part (fun v => (nd T m (upf d (bst T d) v) (dep + 1) (sp + tk T (bst T d))).length) hv
        omega
      have hmx := fun v (w : Nat) (hw : w ≤ 36) => nd_mx hT m (upf d (bst T d) v) (dep + 1) (sp + tk T (bst T d)) (by omega) w hw
      show ∃ et' ea' ee' ed', f_X5_place_b (f_X5_place f) (nI k) (nI w) et ea ee ed ps pw pa prk tc tsi tco (nI (kx T d)) (nI dep) (nI sp) = _ ∧ _
      unfold f_X5_place_b
      rw [if_neg (show ¬ (781 : Int32) ≤ nI k from nI_ge (b := 781) (by omega) (by omega)), if_pos (show nI dep ≤ (4 : Int32) from nI_le (b := 4) (by omega) (by omega)), p_best hT hX hs hP hd, bd_go, ix_nI (by omega) (by decide), if_pos hS, if_neg (nI_m1 (by omega)), rd_nI (by omega) (by decide), hX.k (by omega), nI_1, nI_clamp (by omega), e2]
      have key := wl_dn (f := fun q : Int32 × Int32 × Int32 × (Nat → Int32) × (Nat → Int32) × (Nat → Int32) × (Nat → Int32) => f_X5_place_s116 (nI k) ps pw pa prk tc tsi tco (nI (kx T d)) (nI dep) (nI sp) (f_X5_place f) (nI (bst T d)) (nI (tk T (bst T d))) q.1 q.2.1 q.2.2.1 q.2.2.2.1 q.2.2.2.2.1 q.2.2.2.2.2.1 q.2.2.2.2.2.2) (fun v (q : Int32 × Int32 × Int32 × (Nat → Int32) × (Nat → Int32) × (Nat → Int32) × (Nat → Int32)) => q.1 = nI v ∧ q.2.1 = nI (k + 1 + (cat (fun v => nd T m (upf d (bst T d) v) (dep + 1) (sp + tk T (bst T d))) v).length) ∧ q.2.2.1 = nI (mx (if w < sp then sp else w) (cat (fun v => nd T m (upf d (bst T d) v) (dep + 1) (sp + tk T (bst T d))) v)) ∧ XA q.2.2.2.1 q.2.2.2.2.1 q.2.2.2.2.2.1 q.2.2.2.2.2.2 (k + 1) (cat (fun v => nd T m (upf d (bst T d) v) (dep + 1) (sp + tk T (bst T d))) v) ∧ (q.2.2.2.1 k = nI (bst T d) ∧ q.2.2.2.2.1 k = -1 ∧ q.2.2.2.2.2.2 k = nI dep) ∧ ∀ j, j < k → q.2.2.2.1 j = et j ∧ q.2.2.2.2.1 j = ea j ∧ q.2.2.2.2.2.1 j = ee j ∧ q.2.2.2.2.2.2 j = ed j) (tz T (bst T d)) (P := fun a => a.1 = nI (k + (1 + (cat (fun v => nd T m (upf d (bst T d) v) (dep + 1) (sp + tk T (bst T d))) (tz T (bst T d))).length)) ∧ a.2.1 = nI (mx (if w < sp then sp else w) (cat (fun v => nd T m (upf d (bst T d) v) (dep + 1) (sp + tk T (bst T d))) (tz T (bst T d)))) ∧ XA a.2.2.1 a.2.2.2.1 a.2.2.2.2.1 a.2.2.2.2.2 k ((bst T d + 1, 0, Rv T d % 1024, dep, sp) :: cat (fun v => nd T m (upf d (bst T d) v) (dep + 1) (sp + tk T (bst T d))) (tz T (bst T d))) ∧ ∀ j, j < k → a.2.2.1 j = et j ∧ a.2.2.2.1 j = ea j ∧ a.2.2.2.2.1 j = ee j ∧ a.2.2.2.2.2 j = ed j) (fun v q hv hq => ?_) (fun q hq => ?_) (n := 5000) (by omega) ((0 : Int32), nI (k + 1), nI (if w < sp then sp else w), upd et k (nI (bst T d)), upd ea k (-1), ee, upd ed k (nI dep)) ⟨rfl, rfl, rfl, XA_nil, ⟨if_pos rfl, if_pos rfl, if_pos rfl⟩, fun j hj => ⟨if_neg (by omega), if_neg (by omega), rfl, if_neg (by omega)⟩⟩
      · obtain ⟨⟨a1, a2, a3, a4, a5, a6⟩, h1, h2, h3, h5, h6⟩ := key
        replace h2 : a1 = _ := h2
        replace h3 : a2 = _ := h3
        subst h2
        subst h3
        refine ⟨a3, a4, a5, a6, ?_, h5, h6⟩
        rw [h1, mx_cons, List.length_cons, Nat.add_comm 1]
      · obtain ⟨q1, q2, q3, q4, q5, q6, q7⟩ := q
        obtain ⟨g1, g2, g3, g4, g5, g6⟩ := hq
        replace g1 : q1 = nI v := g1
        replace g2 : q2 = _ := g2
        replace g3 : q3 = _ := g3
        subst g1
        subst g2
        subst g3
        replace g4 : XA q4 q5 q6 q7 (k + 1) (cat (fun v => nd T m (upf d (bst T d) v) (dep + 1) (sp + tk T (bst T d))) v) := g4
        have hc := hcl v hv
        obtain ⟨r1, r2, r3, r4, s1, s2, s3⟩ := ih (upf d (bst T d) v) (hov v hv) (PD_upf hd (by omega)) f (by omega) (k + 1 + (cat (fun v => nd T m (upf d (bst T d) v) (dep + 1) (sp + tk T (bst T d))) v).length) (mx (if w < sp then sp else w) (cat (fun v => nd T m (upf d (bst T d) v) (dep + 1) (sp + tk T (bst T d))) v)) (dep + 1) (sp + tk T (bst T d)) q4 q5 q6 q7 (by omega) (by omega) (by omega) (mx_cat hmx _ _ hw1)
        refine ⟨(nI (v + 1), nI (k + 1 + (cat (fun v => nd T m (upf d (bst T d) v) (dep + 1) (sp + tk T (bst T d))) v).length + (nd T m (upf d (bst T d) v) (dep + 1) (sp + tk T (bst T d))).length), nI (mx (mx (if w < sp then sp else w) (cat (fun v => nd T m (upf d (bst T d) v) (dep + 1) (sp + tk T (bst T d))) v)) (nd T m (upf d (bst T d) v) (dep + 1) (sp + tk T (bst T d)))), r1, r2, r3, r4), ?_, rfl, ?_, ?_, ?_, ?_, ?_⟩
        · show f_X5_place_s116 (nI k) ps pw pa prk tc tsi tco (nI (kx T d)) (nI dep) (nI sp) (f_X5_place f) (nI (bst T d)) (nI (tk T (bst T d))) (nI v) (nI (k + 1 + (cat (fun v => nd T m (upf d (bst T d) v) (dep + 1) (sp + tk T (bst T d))) v).length)) (nI (mx (if w < sp then sp else w) (cat (fun v => nd T m (upf d (bst T d) v) (dep + 1) (sp + tk T (bst T d))) v))) q4 q5 q6 q7 = _
          unfold f_X5_place_s116
          rw [nI_clamp (by omega), nm_go, hX.z (by omega), if_neg (nI_ge hv (by omega)), p_part hT hX hs b1 b2 (by omega), bd_go, nI_1, nI_add, s1, bd6_go, nI_1]
        · show nI _ = nI _
          rw [cat, List.length_append, Nat.add_assoc]
        · show nI _ = nI _
          rw [cat, mx_app]
        · show XA r1 r2 r3 r4 (k + 1) _
          rw [cat]
          exact XA_app (XA_frame g4 (fun j h1 h2 => s3 j (by omega))) s2
        · obtain ⟨z1, z2, z3, z4⟩ := s3 k (by omega)
          obtain ⟨y1, y2, y3⟩ := g5
          exact ⟨z1.trans y1, z2.trans y2, z4.trans y3⟩
        · intro j hj
          obtain ⟨z1, z2, z3, z4⟩ := s3 j (by omega)
          obtain ⟨y1, y2, y3, y4⟩ := g6 j hj
          exact ⟨z1.trans y1, z2.trans y2, z3.trans y3, z4.trans y4⟩
      · obtain ⟨q1, q2, q3, q4, q5, q6, q7⟩ := q
        obtain ⟨g1, g2, g3, g4, g5, g6⟩ := hq
        replace g1 : q1 = nI (tz T (bst T d)) := g1
        replace g2 : q2 = _ := g2
        replace g3 : q3 = _ := g3
        subst g1
        subst g2
        subst g3
        replace g4 : XA q4 q5 q6 q7 (k + 1) (cat (fun v => nd T m (upf d (bst T d) v) (dep + 1) (sp + tk T (bst T d))) (tz T (bst T d))) := g4
        obtain ⟨y1, y2, y3⟩ := g5
        have eex : upd q6 k (nI (k + 1 + (cat (fun v => nd T m (upf d (bst T d) v) (dep + 1) (sp + tk T (bst T d))) (tz T (bst T d))).length) - nI k) k = nI (Rv T d % 1024) := by
          rw [pk_sub (by omega)]
          refine (if_pos rfl).trans ?_
          congr 1
          omega
        refine ⟨(nI (k + 1 + (cat (fun v => nd T m (upf d (bst T d) v) (dep + 1) (sp + tk T (bst T d))) (tz T (bst T d))).length), nI (mx (if w < sp then sp else w) (cat (fun v => nd T m (upf d (bst T d) v) (dep + 1) (sp + tk T (bst T d))) (tz T (bst T d)))), q4, q5, upd q6 k (nI (k + 1 + (cat (fun v => nd T m (upf d (bst T d) v) (dep + 1) (sp + tk T (bst T d))) (tz T (bst T d))).length) - nI k), q7), ?_, ?_, rfl, ?_, ?_⟩
        · show f_X5_place_s116 (nI k) ps pw pa prk tc tsi tco (nI (kx T d)) (nI dep) (nI sp) (f_X5_place f) (nI (bst T d)) (nI (tk T (bst T d))) (nI (tz T (bst T d))) (nI (k + 1 + (cat (fun v => nd T m (upf d (bst T d) v) (dep + 1) (sp + tk T (bst T d))) (tz T (bst T d))).length)) (nI (mx (if w < sp then sp else w) (cat (fun v => nd T m (upf d (bst T d) v) (dep + 1) (sp + tk T (bst T d))) (tz T (bst T d))))) q4 q5 q6 q7 = _
          unfold f_X5_place_s116
          rw [nI_clamp (by omega), nm_go, hX.z (by omega), if_pos (Int32.le_refl _), nI_clamp (by omega)]
        · show nI _ = nI _
          rw [Nat.add_assoc]
        · exact XA_cons ⟨y1, y2, eex, y3⟩ (XA_frame g4 (fun j h1 h2 => ⟨rfl, rfl, if_neg (by omega), rfl⟩))
        · intro j hj
          obtain ⟨z1, z2, z3, z4⟩ := g6 j hj
          exact ⟨z1, z2, (if_neg (by omega)).trans z3, z4⟩
    · rw [nd_leaf hS]
      show ∃ et' ea' ee' ed', f_X5_place_b (f_X5_place f) (nI k) (nI w) et ea ee ed ps pw pa prk tc tsi tco (nI (kx T d)) (nI dep) (nI sp) = _ ∧ _
      unfold f_X5_place_b
      have e1 : (nI (k + 1) - nI k) = nI 1 := by rw [pk_sub (by omega)]; congr 1; omega
      rw [if_neg (show ¬ (781 : Int32) ≤ nI k from nI_ge (b := 781) (by omega) (by omega)), if_pos (show nI dep ≤ (4 : Int32) from nI_le (b := 4) (by omega) (by omega)), p_best hT hX hs hP hd, bd_go, ix_nI (by omega) (by decide), if_neg hS, if_pos rfl, rd_nI hkx (by decide), (hP d hd).2.1, nI_1, nI_clamp (by omega), e1, e2]
      have e3 : sI (Sv T d) = dI (Sv T d) := if_neg hS
      rw [e3]
      exact ⟨_, _, _, _, rfl, XA_cons ⟨if_pos rfl, if_pos rfl, if_pos rfl, if_pos rfl⟩ (fun i q h => by cases i <;> cases h), fun j hj => ⟨if_neg (by omega), if_neg (by omega), if_neg (by omega), if_neg (by omega)⟩⟩
end P
