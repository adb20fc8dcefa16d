/-! the shared tree, and compile -/
theorem fb_sm_comm (f : Nat → Nat → Nat) (n : Nat) : ∀ m, fb_sm (fun t => fb_sm (fun c => f t c) n) m = fb_sm (fun c => fb_sm (fun t => f t c) m) n
  | 0 => by
    have := fb_sm_const 0 n
    rw [Nat.mul_zero] at this
    exact this.symm
  | m + 1 => by
    rw [fb_sm_succ, fb_sm_comm f n m, ← fb_sm_add]
    rfl
theorem fb_sm_one {i n : Nat} (h : i < n) : fb_sm (fun k => if k = i then 1 else 0) n = 1 := by
  have h1 := fb_sm_upd (fun _ => 0) 1 h
  rw [fb_sm_const] at h1
  omega
theorem SH1_fal {T : Tb} {cnt : Nat} {K Lo : Nat → Nat} {cl lo : Nat → Int32} (h : SH1 T 0 cnt K Lo cl lo) {i : Nat} (hi : i < (TL T).length) : Lo (K i) = fal T i := by
  obtain ⟨r1, r2, r3, r4⟩ := h.1 i (Nat.zero_le _) hi
  obtain ⟨f1, f2⟩ := fal_le T i
  have e := h.2.1 (fal T i) i (Nat.zero_le _) (by omega) (Nat.zero_le _) hi f2
  have r5 := (h.1 (fal T i) (Nat.zero_le _) (by omega)).2.2.2
  rw [e] at r5
  rcases Nat.lt_or_ge (Lo (K i)) (fal T i) with w | w
  · exact absurd r3 (of_decide_eq_false (fa_first_no (fun j => decide (sg T j = sg T i)) (i + 1) (Lo (K i)) w))
  · omega
theorem SH1_nsh {T : Tb} {cnt : Nat} {K Lo : Nat → Nat} {cl lo : Nat → Int32} (h : SH1 T 0 cnt K Lo cl lo) : nsh T (TL T).length = cnt := by
  have e1 : nsh T (TL T).length = fb_sm (fun t => fb_sm (fun c => if t = Lo c then 1 else 0) cnt) (TL T).length := by
    unfold nsh
    refine fb_sm_cong (fun t ht => ?_)
    have hf := SH1_fal h ht
    have r2 := (h.1 t (Nat.zero_le _) ht).2.1
    by_cases w : fal T t = t
    · rw [if_pos w]
      have e2 : fb_sm (fun c => if t = Lo c then 1 else 0) cnt = fb_sm (fun c => if c = K t then 1 else 0) cnt := fb_sm_cong (fun c hc => by
        by_cases w2 : c = K t
        · rw [if_pos w2, if_pos (by rw [w2, hf, w])]
        · rw [if_neg w2, if_neg (fun q => w2 ?_)]
          rw [q]
          exact (h.2.2 c hc).2.2.2.symm)
      rw [e2, fb_sm_one r2]
    · rw [if_neg w]
      have e2 : fb_sm (fun c => if t = Lo c then 1 else 0) cnt = fb_sm (fun _ => 0) cnt := fb_sm_cong (fun c hc => if_neg (fun q => w (by
        have := (h.2.2 c hc).2.2.2
        rw [← q] at this
        rw [this] at hf
        omega)))
      rw [e2, fb_sm_const, Nat.mul_zero]
  rw [e1, fb_sm_comm (fun t c => if t = Lo c then 1 else 0)]
  have e3 : fb_sm (fun c => fb_sm (fun t => if t = Lo c then 1 else 0) (TL T).length) cnt = fb_sm (fun _ => 1) cnt := fb_sm_cong (fun c hc => fb_sm_one (h.2.2 c hc).2.2.1)
  rw [e3, fb_sm_const, Nat.mul_one]
/-- the classes of a compiled tree -/
def CS (T : Tb) (cc : Int32) (cl lo : Nat → Int32) : Prop := cc = nI (nsh T (TL T).length) ∧ ∀ i, i < (TL T).length → ∃ k, k < 167 ∧ cl i = nI k ∧ lo k = nI (fal T i)
theorem CS_of {T : Tb} (hT : TOk T) {cnt : Nat} {K Lo : Nat → Nat} {cl lo lf : Nat → Int32} (h : SH1 T 0 cnt K Lo cl lo) (h2 : SH2 T 0 cnt Lo lf) : CS T (nI cnt) cl lo := by
  have h156 := tcp_le hT 0
  have h11 := fb_11 (lf := lf)
  have hc := h2.2
  refine ⟨by rw [SH1_nsh h], fun i hi => ?_⟩
  obtain ⟨r1, r2, r3, r4⟩ := h.1 i (Nat.zero_le _) hi
  exact ⟨K i, by omega, r1, by rw [(h.2.2 _ r2).1, SH1_fal h hi]⟩
section Q
variable {T : Tb} {tc tca tru tdf : Int32} {tsi tst tco twe tse tac trw : Nat → Int32} {mc mru mst : Int32} {msi mwe mco mse mac : Nat → Int32} {ec ew : Int32} {ex : Int64} {et ea ee ed : Nat → Int32} {mno : Int32} {mq ma mz md mp : Nat → Int32} {mex : Int64} {cc : Int32} {cl lo : Nat → Int32}
theorem eq_sharedNodeCount (hT : TOk T) (cb : Bool) (h : cb = true → TR T ec ew ex et ea ee ed mno mq ma mz md mp mex ∧ CS T cc cl lo) : ∃ r, f_X6_sharedNodeCount cb cc = some r ∧ f_X7_sharedNodeCount cb mno mq ma mz = some r := by
  cases cb with
  | false => exact ⟨_, rfl, rfl⟩
  | true =>
    obtain ⟨⟨r1, r2, r3, r4, r5, r6⟩, r7, r8⟩ := h rfl
    refine ⟨cc, rfl, ?_⟩
    rw [m_shared hT r6 r2, r7]
theorem eq_sharedNode (hT : TOk T) (cb : Bool) (h : cb = true → TR T ec ew ex et ea ee ed mno mq ma mz md mp mex ∧ CS T cc cl lo) (x1 : Int32) : ∃ r, f_X6_sharedNode cb ec cl lo x1 = some r ∧ f_X7_sharedNode cb mno mq ma mz x1 = some r := by
  have hb := TL_b hT
  unfold f_X6_sharedNode f_X7_sharedNode
  cases cb with
  | false => exact ⟨_, rfl, rfl⟩
  | true =>
    obtain ⟨⟨r1, r2, r3, r4, r5, r6⟩, r7, r8⟩ := h rfl
    rw [if_pos rfl, if_pos rfl, r1, r2, x_hasN, bd_go, m_isNode (by omega), bd_go]
    cases h1 : hasb (TL T).length x1 with
    | false => exact ⟨_, rfl, rfl⟩
    | true =>
      obtain ⟨i, hi, rfl⟩ := hb_t (by omega) h1
      obtain ⟨k, k1, k2, k3⟩ := r8 i hi
      rw [if_pos rfl, if_pos rfl, rd_nI (by omega) (by decide), k2, rd_nI (by omega) (by decide), k3, m_firstAlike hT r6 hi, bd_go]
      exact ⟨_, rfl, rfl⟩
theorem sim_compile (hT : TOk T) (hX : XT T tc tca tru tdf tsi tst tco twe tse tac trw) (hM : MT T mc mru mst msi mwe mco mse mac) (cb cb' : Bool) (pc : Int32) (ps pw pa : Nat → Int32) (prk : Nat → Int64) (ec ew : Int32) (ex : Int64) (cc : Int32) (et ea ee ed cl lo lf : Nat → Int32) (ms : Nat → Int32) (mb : Nat → Int64) (mn mte : Nat → Int32) (mno : Int32) (mq ma mz md mp : Nat → Int32) (mex : Int64) : ∃ r pc' ps' pw' pa' prk' ec' ew' ex' cc' et' ea' ee' ed' cl' lo' lf' ms' mb' mn' mte' mno' mq' ma' mz' md' mp' mex', f_X6_compile cb tc tru tdf tsi tst tco twe tac trw pc ps pw pa prk ec ew ex cc et ea ee ed cl lo lf = some (r, true, pc', ps', pw', pa', prk', ec', ew', ex', cc', et', ea', ee', ed', cl', lo', lf') ∧ f_X7_compile mc msi mwe mco mru mse mac mst cb' ms mb mn mte mno mq ma mz md mp mex = some (r, true, ms', mb', mn', mte', mno', mq', ma', mz', md', mp', mex') ∧ TR T ec' ew' ex' et' ea' ee' ed' mno' mq' ma' mz' md' mp' mex' ∧ CS T cc' cl' lo' := by
  have h4 := oc_4 hT (rot T)
  have hR := Rv_mod hT (rot T)
  obtain ⟨ps', pw', pa', prk', e1, e2, e3⟩ := p_plan hT hX pc ps pw pa prk
  obtain ⟨⟨a1, a2, a3, a4⟩, f1, f2⟩ := q_solve hT hM ms mb mn mte
  replace f2 : ∀ d, PD T d → PMd T a1 a2 a3 a4 d := f2
  obtain ⟨et', ea', ee', ed', g1, g2, g3⟩ := x_place hT hX e2 e3 (oc T (rot T) (tn T)) (rot T) rfl (rot_pd T) 6 (by omega) 0 0 0 0 et ea ee ed (by omega) (by omega) (by omega) (by omega)
  obtain ⟨mq', ma', mz', md', mp', k1, k2, k3⟩ := m_grow hT hM f2 (oc T (rot T) (tn T)) (rot T) rfl (rot_pd T) 6 (by omega) 0 0 0 mq ma mz md mp (by omega)
  have g1' : f_X5_place 6 0 0 et ea ee ed ps' pw' pa' prk' tc tsi tco (nI (kx T (rot T))) 0 0 = some (nI (TL T).length, nI (mx 0 (TL T)), et', ea', ee', ed') := by
    rw [Nat.zero_add] at g1
    exact g1
  have k1' : f_X7_grow 6 msi mco a1 a4 0 mq ma mz md mp 0 0 0 = some (nI (TL T).length, mq', ma', mz', md', mp') := by
    rw [Nat.zero_add, km_rot] at k1
    exact k1
  obtain ⟨cnt, K, Lo, cl', lo', lf', s1, s2, s3⟩ := x_share hT hX (show XA et' ea' ee' ed' 0 (TL T) from g2) cc cl lo lf
  have hbest : a2 0 = lN (Rv T (rot T) / 1024) := by
    have := (f2 _ (rot_pd T)).2.1
    rw [km_rot] at this
    exact this
  have hl : f_X1_lowestCost (nI (cas (up1 T))) prk' = some (lN (Rv T (rot T) / 1024)) := p_lowest hT (e3 _ (rot_pd T))
  refine ⟨nI (TL T).length, nI (cas (up1 T)), ps', pw', pa', prk', nI (TL T).length, nI (mx 0 (TL T)), lN (Rv T (rot T) / 1024), nI cnt, et', ea', ee', ed', cl', lo', lf', a1, a2, a3, a4, nI (TL T).length, mq', ma', mz', md', mp', lN (Rv T (rot T) / 1024), ?_, ?_, ⟨rfl, rfl, rfl, rfl, g2, k2⟩, CS_of hT s2 s3⟩
  · unfold f_X6_compile f_X5_build
    rw [e1, bd5_go, hl, bd_go, p_whole hT, bd_go, g1', bd6_go, s1, bd4_go, bd11_go]
  · unfold f_X7_compile
    rw [f1, bd4_go, k1', bd6_go, show (0 : Int32) = nI 0 from rfl, rd_nI (by decide) (by decide), hbest]
end Q
