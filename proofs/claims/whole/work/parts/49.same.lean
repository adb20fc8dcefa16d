/-! equal subtrees, as the class finds them: one node against another -/
def tct : List Nd → Nat
  | [] => 0
  | q :: L => (if q.1 = 0 then 0 else 1) + tct L
theorem tct_app : ∀ L M : List Nd, tct (L ++ M) = tct L + tct M
  | [], M => (Nat.zero_add _).symm
  | q :: L, M => by rw [List.cons_append, tct, tct, tct_app L M, Nat.add_assoc]
theorem tct_cat {f : Nat → List Nd} {b : Nat} : ∀ n, (∀ v, v < n → tct (f v) ≤ b) → tct (cat f n) ≤ n * b
  | 0, _ => by rw [cat, tct]; exact Nat.zero_le _
  | n + 1, h => by
    have h1 := tct_cat n (fun v hv => h v (by omega))
    have h2 := h n (by omega)
    rw [cat, tct_app, Nat.succ_mul]
    omega
def tbd : Nat → Nat
  | 0 => 0
  | m + 1 => 1 + 5 * tbd m
theorem nd_tct {T : Tb} (hT : TOk T) : ∀ m d dep sp, tct (nd T m d dep sp) ≤ tbd m := by
  intro m
  induction m with
  | zero =>
    intro d dep sp
    rw [nd, tct, if_pos rfl, tct]
    exact Nat.zero_le _
  | succ m ih =>
    intro d dep sp
    rw [nd]
    by_cases hS : Sv T d = 11
    · have h1 := tct_cat (f := fun v => nd T m (upf d (bst T d) v) (dep + 1) (sp + tk T (bst T d))) (b := tbd m) (tz T (bst T d)) (fun v _ => ih _ _ _)
      have h2 : tz T (bst T d) * tbd m ≤ 5 * tbd m := Nat.mul_le_mul_right _ (hT.z5 _)
      rw [if_pos hS, tct, if_neg (Nat.succ_ne_zero _), tbd]
      omega
    · rw [if_neg hS, tct, if_pos rfl, tct]
      exact Nat.zero_le _
theorem tbd_4 : ∀ {m : Nat}, m ≤ 4 → tbd m ≤ 156 := by
  intro m h
  have : m = 0 ∨ m = 1 ∨ m = 2 ∨ m = 3 ∨ m = 4 := by omega
  rcases this with rfl | rfl | rfl | rfl | rfl <;> decide
/-- the tests from place p on -/
def tcp (T : Tb) (p : Nat) : Nat := tct ((TL T).drop p)
theorem tcp_le {T : Tb} (hT : TOk T) (p : Nat) : tcp T p ≤ 156 := by
  have h1 : tct (TL T) ≤ 156 := Nat.le_trans (nd_tct hT _ _ _ _) (tbd_4 (oc_4 hT _))
  have h2 := tct_app ((TL T).take p) ((TL T).drop p)
  rw [List.take_append_drop] at h2
  unfold tcp
  omega
theorem tcp_s {T : Tb} {p : Nat} {q : Nd} (h : (TL T)[p]? = some q) : tcp T p = (if q.1 = 0 then 0 else 1) + tcp T (p + 1) := by
  obtain ⟨hp, e⟩ := List.getElem?_eq_some_iff.mp h
  unfold tcp
  rw [List.drop_eq_getElem_cons hp, e, tct]
theorem dI_inj {a b : Nat} (ha : a ≤ 10) (hb : b ≤ 10) : dI a = dI b ↔ a = b := by
  constructor
  · have key : ∀ a, a < 11 → ∀ b, b < 11 → dI a = dI b → a = b := by decide
    exact key a (by omega) b (by omega)
  · intro h; rw [h]
theorem cat_pj {f g : Nat → List Nd} : ∀ n, (∀ v, v < n → (f v).map pj = (g v).map pj) → (cat f n).map pj = (cat g n).map pj
  | 0, _ => rfl
  | n + 1, h => by rw [cat, cat, List.map_append, List.map_append, cat_pj n (fun v hv => h v (by omega)), h n (by omega)]
section C
variable {T : Tb} {tc tca tru tdf : Int32} {tsi tst tco twe tse tac trw : Nat → Int32} {et ea ee ed : Nat → Int32}
theorem sg_cons (hT : TOk T) {i m dep sp : Nat} {d : Nat → Nat} (hoc : oc T d (tn T) = m + 1) (hS : Sv T d = 11) (h : SEG T (TL T) i (m + 1) d dep sp) : sg T i = (bst T d + 1, 0) :: (cat (fun v => nd T m (upf d (bst T d) v) (dep + 1) (sp + tk T (bst T d))) (tz T (bst T d))).map pj := by
  rw [sg_seg hT hoc h, nd, if_pos hS]
  rfl
theorem sg_leaf (hT : TOk T) {i m dep sp : Nat} {d : Nat → Nat} (hoc : oc T d (tn T) = m) (hS : ¬ Sv T d = 11) (h : SEG T (TL T) i m d dep sp) : sg T i = [(0, Sv T d)] := by
  rw [sg_seg hT hoc h, nd_leaf hS]
  rfl
theorem sg_cpo (hT : TOk T) {i m dep sp : Nat} {d : Nat → Nat} (hoc : oc T d (tn T) = m + 1) (hS : Sv T d = 11) (h : SEG T (TL T) i (m + 1) d dep sp) {v : Nat} (hv : v < tz T (bst T d)) : sg T (cpo T i m d dep sp v) = (nd T m (upf d (bst T d) v) (dep + 1) (sp + tk T (bst T d))).map pj := by
  obtain ⟨b1, b2, b3⟩ := bst_lt hT hS
  exact sg_seg hT (by have := oc_upf b2 hv (tn T) b1; omega) (seg_child hS h hv)
/-- two nodes with one test are alike if their children are -/
theorem sg_ch (hT : TOk T) {i m dep sp : Nat} {d : Nat → Nat} (hoc : oc T d (tn T) = m + 1) (hS : Sv T d = 11) (h : SEG T (TL T) i (m + 1) d dep sp) {i' m' dep' sp' : Nat} {d' : Nat → Nat} (hoc' : oc T d' (tn T) = m' + 1) (hS' : Sv T d' = 11) (h' : SEG T (TL T) i' (m' + 1) d' dep' sp') (hb : bst T d' = bst T d) : sg T i = sg T i' ↔ ∀ v, v < tz T (bst T d) → sg T (cpo T i m d dep sp v) = sg T (cpo T i' m' d' dep' sp' v) := by
  obtain ⟨b1, b2, b3⟩ := bst_lt hT hS
  obtain ⟨c1, c2, c3⟩ := bst_lt hT hS'
  constructor
  · intro e v hv
    have hlen : ∀ v, v ≤ tz T (bst T d) → (cat (fun v => nd T m (upf d (bst T d) v) (dep + 1) (sp + tk T (bst T d))) v).length = (cat (fun v => nd T m' (upf d' (bst T d') v) (dep' + 1) (sp' + tk T (bst T d'))) v).length := by
      have e2 := e
      rw [sg_cons hT hoc hS h, sg_cons hT hoc' hS' h', hb] at e2
      injection e2 with _ e3
      rw [hb]
      rw [hb] at c2
      refine cat_dec (tz T (bst T d)) (fun v hv R S e => nd_dec hT m m' _ _ _ _ _ _ R S (by have := oc_upf b2 hv (tn T) b1; omega) (by have := oc_upf c2 hv (tn T) b1; omega) e) [] [] ?_
      rw [List.append_nil, List.append_nil]
      exact e3
    have l0 := hlen v (by omega)
    have l1 := hlen (v + 1) (by omega)
    have q1 := cpo_s T i m d dep sp v
    have q2 := cpo_s T i' m' d' dep' sp' v
    have p0 : cpo T i m d dep sp v - i = cpo T i' m' d' dep' sp' v - i' := by unfold cpo; omega
    have pa : i ≤ cpo T i m d dep sp v := by unfold cpo; omega
    have pb : i' ≤ cpo T i' m' d' dep' sp' v := by unfold cpo; omega
    have p1 : cpo T i m d dep sp (v + 1) - i = cpo T i' m' d' dep' sp' (v + 1) - i' := by unfold cpo; omega
    obtain ⟨x1, x2, x3⟩ := cpo_in hT hoc hS h hv
    obtain ⟨y1, y2, y3⟩ := cpo_in hT hoc' hS' h' (v := v) (by rw [hb]; exact hv)
    have hi : i < (TL T).length := by omega
    have hi' : i' < (TL T).length := by omega
    obtain ⟨s1, s2⟩ := (sg_eq hT hi hi').mp e
    have e1 : ext T (cpo T i m d dep sp v) = (nd T m (upf d (bst T d) v) (dep + 1) (sp + tk T (bst T d))).length := ext_seg hT (by have := oc_upf b2 hv (tn T) b1; omega) (seg_child hS h hv)
    have e2 : ext T (cpo T i' m' d' dep' sp' v) = (nd T m' (upf d' (bst T d') v) (dep' + 1) (sp' + tk T (bst T d'))).length := ext_seg hT (by have := oc_upf c2 (show v < tz T (bst T d') by rw [hb]; exact hv) (tn T) c1; omega) (seg_child hS' h' (by rw [hb]; exact hv))
    have e3 : cpo T i m d dep sp (tz T (bst T d)) = i + ext T i := by
      rw [ext_seg hT hoc h, nd, if_pos hS, List.length_cons]
      unfold cpo
      omega
    have hm : cpo T i m d dep sp (v + 1) ≤ cpo T i m d dep sp (tz T (bst T d)) := by
      unfold cpo
      rw [cat_len, cat_len]
      have := fb_sm_mono (fun v => (nd T m (upf d (bst T d) v) (dep + 1) (sp + tk T (bst T d))).length) (v + 1) (tz T (bst T d) - (v + 1))
      rw [show v + 1 + (tz T (bst T d) - (v + 1)) = tz T (bst T d) by omega] at this
      omega
    refine (sg_eq hT x1 y1).mpr ⟨by omega, fun t ht => ?_⟩
    have := s2 (cpo T i m d dep sp v - i + t) (by omega)
    rw [show i + (cpo T i m d dep sp v - i + t) = cpo T i m d dep sp v + t by omega, show i' + (cpo T i m d dep sp v - i + t) = cpo T i' m' d' dep' sp' v + t by omega] at this
    exact this
  · intro e
    rw [sg_cons hT hoc hS h, sg_cons hT hoc' hS' h', hb]
    congr 1
    refine cat_pj _ (fun v hv => ?_)
    have := e v hv
    rw [sg_cpo hT hoc hS h hv, sg_cpo hT hoc' hS' h' (by rw [hb]; exact hv), hb] at this
    exact this
theorem ee_at (hA : XA et ea ee ed 0 (TL T)) {i : Nat} (hi : i < (TL T).length) : ee i = nI (ext T i) := by
  obtain ⟨q, hq⟩ := TL_get hi
  have a := (hA i q hq).2.2.1
  rw [Nat.zero_add] at a
  rw [a]
  unfold ext
  rw [hq]
/-- a test against a later node, the later ones being classed -/
theorem x_sameTest (hT : TOk T) (hX : XT T tc tca tru tdf tsi tst tco twe tse tac trw) (hA : XA et ea ee ed 0 (TL T)) {p : Nat} {K : Nat → Nat} {cl : Nat → Int32} (hK : ∀ i, p < i → i < (TL T).length → cl i = nI (K i) ∧ K i < 5000) (hE : ∀ i j, p < i → i < (TL T).length → p < j → j < (TL T).length → (K i = K j ↔ sg T i = sg T j)) {m dep sp : Nat} {d : Nat → Nat} (hoc : oc T d (tn T) = m + 1) (hS : Sv T d = 11) (hs : SEG T (TL T) p (m + 1) d dep sp) {u : Nat} (hu : p < u) (huN : u < (TL T).length) : f_X5_sameTest (nI (TL T).length) et ee cl tsi (nI p) (nI u) = some (decide (sg T p = sg T u)) := by
  have h4 := hT.n4
  have hb := TL_b hT
  obtain ⟨b1, b2, b3⟩ := bst_lt hT hS
  have hz5 := hT.z5 (bst T d)
  obtain ⟨m', d', dep', sp', g1, g2, g3, g4⟩ := TL_seg hT huN
  have hq := seg_get hT hoc hs
  have hq' := seg_get hT g1 g4
  have a := (hA p _ hq).1
  have a' := (hA u _ hq').1
  rw [Nat.zero_add, hdq_t hS, show dI (bst T d + 1) = nI (bst T d) from rfl] at a
  rw [Nat.zero_add] at a'
  unfold f_X5_sameTest
  rw [rd_nI (by omega) (by decide), rd_nI (by omega) (by decide), a, a', nI_clamp (by omega), nI_clamp (by omega), nm_go, nm_go, ee_at hA (show p < (TL T).length by omega), ee_at hA huN]
  by_cases hS' : Sv T d' = 11
  · obtain ⟨c1, c2, c3⟩ := bst_lt hT hS'
    obtain ⟨k, hk⟩ := oc_suc hT hS'
    obtain rfl : m' = k + 1 := by omega
    rw [hdq_t hS', show dI (bst T d' + 1) = nI (bst T d') from rfl]
    by_cases w1 : bst T d' = bst T d
    · rw [if_pos (by rw [w1])]
      by_cases w2 : ext T p = ext T u
      · have xp := ext_in hT (show p < (TL T).length by omega)
        have xu := ext_in hT huN
        rw [if_pos (by rw [w2]), nI_1, nI_1]
        have hsc := sg_ch hT hoc hS hs hk hS' g4 w1
        have pa : ∀ v, p < cpo T p m d dep sp v := fun v => by unfold cpo; omega
        have pb : ∀ v, u < cpo T u k d' dep' sp' v := fun v => by unfold cpo; omega
        refine Eq.trans (wl_findS (fun v => (nI (cpo T p m d dep sp v), nI (cpo T u k d' dep' sp' v), nI v)) (fun v => decide (¬ sg T (cpo T p m d dep sp v) = sg T (cpo T u k d' dep' sp' v))) (tz T (bst T d)) (by omega) (fun _ => false) true (fun v hv hp => ?_) (fun v hv _ hp => ?_) (fun _ => ?_)) ?_
        · have hp' := Decidable.not_not.mp (of_decide_eq_false (hp v (by omega)))
          obtain ⟨x1, x2, x3⟩ := cpo_in hT hoc hS hs hv
          obtain ⟨y1, y2, y3⟩ := cpo_in hT hk hS' g4 (v := v) (by rw [w1]; exact hv)
          have k1 := hK _ (pa v) x1
          have k2 := hK _ (Nat.lt_trans hu (pb v)) y1
          have e1 : ext T (cpo T p m d dep sp v) = (nd T m (upf d (bst T d) v) (dep + 1) (sp + tk T (bst T d))).length := by unfold ext; rw [x2]; exact x3
          have e2 : ext T (cpo T u k d' dep' sp' v) = (nd T k (upf d' (bst T d') v) (dep' + 1) (sp' + tk T (bst T d'))).length := by unfold ext; rw [y2]; exact y3
          show f_X5_sameTest_s45 (nI (TL T).length) ee cl tsi (nI (bst T d)) (nI (cpo T p m d dep sp v)) (nI (cpo T u k d' dep' sp' v)) (nI v) = some (.inl (nI (cpo T p m d dep sp (v + 1)), nI (cpo T u k d' dep' sp' (v + 1)), nI (v + 1)))
          unfold f_X5_sameTest_s45
          rw [rd_nI (by omega) (by decide), hX.z (by omega), if_neg (nI_ge hv (by omega)), x_hasN, bd_go, hb_nI (by omega) x1, if_pos rfl, x_hasN, bd_go, hb_nI (by omega) y1, if_pos rfl, rd_nI (by omega) (by decide), rd_nI (by omega) (by decide), k1.1, k2.1, if_pos (by rw [(hE _ _ (pa v) x1 (Nat.lt_trans hu (pb v)) y1).mpr hp']), nI_clamp (by omega), nI_clamp (by omega), nm_go, nm_go, ee_at hA x1, ee_at hA y1, nI_add, nI_add, nI_1, cpo_s, cpo_s, e1, e2]
        · have hp' : ¬ sg T (cpo T p m d dep sp v) = sg T (cpo T u k d' dep' sp' v) := of_decide_eq_true hp
          obtain ⟨x1, x2, x3⟩ := cpo_in hT hoc hS hs hv
          obtain ⟨y1, y2, y3⟩ := cpo_in hT hk hS' g4 (v := v) (by rw [w1]; exact hv)
          have k1 := hK _ (pa v) x1
          have k2 := hK _ (Nat.lt_trans hu (pb v)) y1
          show f_X5_sameTest_s45 (nI (TL T).length) ee cl tsi (nI (bst T d)) (nI (cpo T p m d dep sp v)) (nI (cpo T u k d' dep' sp' v)) (nI v) = some (.inr false)
          unfold f_X5_sameTest_s45
          rw [rd_nI (by omega) (by decide), hX.z (by omega), if_neg (nI_ge hv (by omega)), x_hasN, bd_go, hb_nI (by omega) x1, if_pos rfl, x_hasN, bd_go, hb_nI (by omega) y1, if_pos rfl, rd_nI (by omega) (by decide), rd_nI (by omega) (by decide), k1.1, k2.1, if_neg (fun w => hp' ((hE _ _ (pa v) x1 (Nat.lt_trans hu (pb v)) y1).mp ((nI_eq (by omega) (by omega)).mp w)))]
        · show f_X5_sameTest_s45 (nI (TL T).length) ee cl tsi (nI (bst T d)) (nI (cpo T p m d dep sp (tz T (bst T d)))) (nI (cpo T u k d' dep' sp' (tz T (bst T d)))) (nI (tz T (bst T d))) = some (.inr true)
          unfold f_X5_sameTest_s45
          rw [rd_nI (by omega) (by decide), hX.z (by omega), if_pos (Int32.le_refl _)]
        · have hle := fa_first_le (fun v => decide (¬ sg T (cpo T p m d dep sp v) = sg T (cpo T u k d' dep' sp' v))) (tz T (bst T d))
          by_cases w : fa_first (fun v => decide (¬ sg T (cpo T p m d dep sp v) = sg T (cpo T u k d' dep' sp' v))) (tz T (bst T d)) < tz T (bst T d)
          · have hy := of_decide_eq_true (fa_first_yes (fun v => decide (¬ sg T (cpo T p m d dep sp v) = sg T (cpo T u k d' dep' sp' v))) _ w)
            rw [if_pos w, decide_eq_false (fun q => hy (hsc.mp q _ w))]
          · rw [if_neg w, decide_eq_true (hsc.mpr (fun v hv => Decidable.not_not.mp (of_decide_eq_false (fa_first_no (fun v => decide (¬ sg T (cpo T p m d dep sp v) = sg T (cpo T u k d' dep' sp' v))) (tz T (bst T d)) v (by omega)))))]
      · have xp := ext_in hT (show p < (TL T).length by omega)
        have xu := ext_in hT huN
        rw [if_neg (fun w => w2 ((nI_eq (by omega) (by omega)).mp w)), decide_eq_false (fun q => w2 ((sg_eq hT (by omega) huN).mp q).1)]
    · rw [if_neg (fun w => w1 ((nI_eq (by omega) (by omega)).mp w).symm), decide_eq_false (fun q => ?_)]
      rw [sg_cons hT hoc hS hs, sg_cons hT hk hS' g4] at q
      injection q with q1 _
      have : bst T d + 1 = bst T d' + 1 := congrArg Prod.fst q1
      omega
  · rw [hdq_l hS', if_neg (show ¬ nI (bst T d) = dI 0 from nI_m1 (by omega)), decide_eq_false (fun q => ?_)]
    rw [sg_cons hT hoc hS hs, sg_leaf hT g1 hS' g4] at q
    injection q with q1 _
    have : bst T d + 1 = 0 := congrArg Prod.fst q1
    omega
end C
