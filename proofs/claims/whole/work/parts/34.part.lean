/-! parts of the table: some conditions open (d c = the size of c) -/
def PD (T : Tb) (d : Nat → Nat) : Prop := ∀ c, c < 4 → d c ≤ tz T c
def isO (T : Tb) (d : Nat → Nat) (c : Nat) : Bool := decide (d c = tz T c)
def oc (T : Tb) (d : Nat → Nat) : Nat → Nat
  | 0 => 0
  | c + 1 => oc T d c + (if d c = tz T c then 1 else 0)
theorem oc_le {T : Tb} {d : Nat → Nat} : ∀ m, oc T d m ≤ m
  | 0 => Nat.le_refl _
  | m + 1 => by
    have := oc_le (T := T) (d := d) m
    rw [oc]
    by_cases h : d m = tz T m
    · rw [if_pos h]; omega
    · rw [if_neg h]; omega
theorem oc_out {T : Tb} {d : Nat → Nat} {c v : Nat} : ∀ m, m ≤ c → oc T (upf d c v) m = oc T d m
  | 0, _ => rfl
  | m + 1, h => by rw [oc, oc, oc_out m (by omega), upf_n d v (show ¬ m = c by omega)]
theorem oc_upf {T : Tb} {d : Nat → Nat} {c v : Nat} (ho : d c = tz T c) (hv : v < tz T c) : ∀ m, c < m → oc T (upf d c v) m + 1 = oc T d m
  | 0, h => absurd h (Nat.not_lt_zero c)
  | m + 1, h => by
    rw [oc, oc]
    by_cases e : c = m
    · subst e
      rw [oc_out c (Nat.le_refl _), upf_e, if_neg (by omega), if_pos ho]
    · have := oc_upf ho hv m (by omega)
      rw [upf_n d v (show ¬ m = c by omega)]
      omega
theorem oc_pos {T : Tb} {d : Nat → Nat} {c : Nat} (ho : d c = tz T c) : ∀ m, c < m → 0 < oc T d m
  | 0, h => absurd h (Nat.not_lt_zero c)
  | m + 1, h => by
    rw [oc]
    by_cases e : c = m
    · subst e; rw [if_pos ho]; omega
    · have := oc_pos ho m (by omega); omega
theorem oc_ex {T : Tb} {d : Nat → Nat} : ∀ m, 0 < oc T d m → ∃ c, c < m ∧ d c = tz T c
  | 0, h => absurd h (Nat.not_lt_zero _)
  | m + 1, h => by
    rw [oc] at h
    by_cases e : d m = tz T m
    · exact ⟨m, by omega, e⟩
    · rw [if_neg e] at h
      obtain ⟨c, h1, h2⟩ := oc_ex m (by omega)
      exact ⟨c, by omega, h2⟩
theorem PD_upf {T : Tb} {d : Nat → Nat} (h : PD T d) {c v : Nat} (hv : v ≤ tz T c) : PD T (upf d c v) := fun i hi => by
  by_cases e : i = c
  · subst e; rw [upf_e]; exact hv
  · rw [upf_n d v e]; exact h i hi
def fo (T : Tb) (d : Nat → Nat) : Nat := fa_first (isO T d) (tn T)
theorem fo_open {T : Tb} {d : Nat → Nat} (h : fo T d < tn T) : d (fo T d) = tz T (fo T d) := of_decide_eq_true (fa_first_yes _ _ h)
theorem fo_no {T : Tb} {d : Nat → Nat} {c : Nat} (h : c < fo T d) : ¬ d c = tz T c := fun w => by
  have := fa_first_no _ _ _ h
  rw [show isO T d c = true from decide_eq_true w] at this
  exact absurd this (by decide)
theorem fo_lt {T : Tb} {d : Nat → Nat} {c : Nat} (hc : c < tn T) (ho : d c = tz T c) : fo T d < tn T := by
  rcases Nat.lt_or_ge (fo T d) (tn T) with q | q
  · exact q
  · exact absurd ho (fo_no (by omega))
theorem oc_0 {T : Tb} {d : Nat → Nat} (h : ¬ fo T d < tn T) : oc T d (tn T) = 0 := by
  rcases Nat.eq_zero_or_pos (oc T d (tn T)) with q | q
  · exact q
  · obtain ⟨c, h1, h2⟩ := oc_ex _ q
    exact absurd (fo_lt h1 h2) h
/-! the action of all its cases: 11 where they differ -/
def sfo (g : Nat → Nat) (s : Nat) : Nat → Nat
  | 0 => s
  | v + 1 => if g v = sfo g s v then sfo g s v else 11
theorem sfo_cong {g g' : Nat → Nat} {s : Nat} : ∀ n, (∀ v, v < n → g v = g' v) → sfo g s n = sfo g' s n
  | 0, _ => rfl
  | n + 1, h => by rw [sfo, sfo, sfo_cong n (fun v hv => h v (by omega)), h n (by omega)]
theorem sfo_le {g : Nat → Nat} {s : Nat} (hs : s ≤ 11) : ∀ n, sfo g s n ≤ 11
  | 0 => hs
  | n + 1 => by
    rw [sfo]
    by_cases h : g n = sfo g s n
    · rw [if_pos h]; exact sfo_le hs n
    · rw [if_neg h]; exact Nat.le_refl _
def SS (T : Tb) : Nat → (Nat → Nat) → Nat
  | 0, d => actc T (hor T d (tn T))
  | m + 1, d => sfo (fun v => SS T m (upf d (fo T d) v)) (SS T m (upf d (fo T d) 0)) (tz T (fo T d))
def Sv (T : Tb) (d : Nat → Nat) : Nat := SS T (oc T d (tn T)) d
theorem SS_le {T : Tb} (hT : TOk T) : ∀ m d, SS T m d ≤ 11
  | 0, d => by have := actc_10 hT (hor T d (tn T)); rw [SS]; omega
  | m + 1, d => sfo_le (SS_le hT m _) _
theorem Sv_le {T : Tb} (hT : TOk T) (d : Nat → Nat) : Sv T d ≤ 11 := SS_le hT _ d
theorem Sv_0 {T : Tb} {d : Nat → Nat} (h : ¬ fo T d < tn T) : Sv T d = actc T (hor T d (tn T)) := by
  unfold Sv
  rw [oc_0 h, SS]
theorem Sv_s {T : Tb} (hT : TOk T) {d : Nat → Nat} (h : fo T d < tn T) : Sv T d = sfo (fun v => Sv T (upf d (fo T d) v)) (Sv T (upf d (fo T d) 0)) (tz T (fo T d)) := by
  have ho := fo_open h
  have hz := hT.z2 h
  have key : ∀ v, v < tz T (fo T d) → Sv T (upf d (fo T d) v) = SS T (oc T d (tn T) - 1) (upf d (fo T d) v) := fun v hv => by
    have := oc_upf ho hv (tn T) h
    unfold Sv
    rw [show oc T (upf d (fo T d) v) (tn T) = oc T d (tn T) - 1 by omega]
  rw [sfo_cong _ key, key 0 (by omega)]
  have hp := oc_pos ho (tn T) h
  unfold Sv
  obtain ⟨m, hm⟩ : ∃ m, oc T d (tn T) = m + 1 := ⟨oc T d (tn T) - 1, by omega⟩
  rw [hm, SS, Nat.add_sub_cancel]
theorem Sv_mix {T : Tb} (hT : TOk T) {d : Nat → Nat} (h : Sv T d = 11) : fo T d < tn T := by
  rcases Nat.lt_or_ge (fo T d) (tn T) with q | q
  · exact q
  · have := actc_10 hT (hor T d (tn T))
    rw [Sv_0 (by omega)] at h
    omega
/-! its weight -/
def wc (T : Tb) (d : Nat → Nat) (c : Nat) : Nat := if d c = tz T c then wsm T c else tw T (c * 5 + d c)
def Wp (T : Tb) (d : Nat → Nat) : Nat → Nat
  | 0 => 1
  | c + 1 => Wp T d c * wc T d c
def Wd (T : Tb) (d : Nat → Nat) : Nat := Wp T d (tn T)
theorem fb_sm_ml (a : Nat) (f : Nat → Nat) : ∀ n, fb_sm (fun k => a * f k) n = a * fb_sm f n
  | 0 => rfl
  | n + 1 => by rw [fb_sm_succ, fb_sm_succ, fb_sm_ml a f n, Nat.mul_add]
theorem fb_sm_mr (a : Nat) (f : Nat → Nat) : ∀ n, fb_sm (fun k => f k * a) n = fb_sm f n * a
  | 0 => (Nat.zero_mul a).symm
  | n + 1 => by rw [fb_sm_succ, fb_sm_succ, fb_sm_mr a f n, Nat.add_mul]
theorem wc_le {T : Tb} (hT : TOk T) (d : Nat → Nat) (c : Nat) : wc T d c ≤ 45 := by
  unfold wc
  by_cases h : d c = tz T c
  · rw [if_pos h]
    have h1 : wsm T c ≤ tz T c * 9 := fb_sm_bound (fun k _ => hT.w9 _)
    have := hT.z5 c
    omega
  · rw [if_neg h]; have := hT.w9 (c * 5 + d c); omega
theorem Wp_le {T : Tb} (hT : TOk T) (d : Nat → Nat) : ∀ m, Wp T d m ≤ 45 ^ m
  | 0 => Nat.le_refl _
  | m + 1 => by rw [Wp, Nat.pow_succ]; exact Nat.mul_le_mul (Wp_le hT d m) (wc_le hT d m)
theorem Wd_le {T : Tb} (hT : TOk T) (d : Nat → Nat) : Wd T d ≤ 4100625 := Nat.le_trans (Wp_le hT d _) (Nat.pow_le_pow_right (by decide) hT.n4)
theorem Wp_out {T : Tb} {d : Nat → Nat} {c v : Nat} : ∀ m, m ≤ c → Wp T (upf d c v) m = Wp T d m
  | 0, _ => rfl
  | m + 1, h => by
    rw [Wp, Wp, Wp_out m (by omega)]
    unfold wc
    rw [upf_n d v (show ¬ m = c by omega)]
theorem Wp_sum {T : Tb} {d : Nat → Nat} {c : Nat} (ho : d c = tz T c) : ∀ m, c < m → fb_sm (fun v => Wp T (upf d c v) m) (tz T c) = Wp T d m
  | 0, h => absurd h (Nat.not_lt_zero c)
  | m + 1, h => by
    by_cases e : c = m
    · subst e
      have e1 : ∀ v, v < tz T c → Wp T (upf d c v) (c + 1) = Wp T d c * tw T (c * 5 + v) := fun v hv => by
        rw [Wp, Wp_out c (Nat.le_refl _)]
        unfold wc
        rw [upf_e, if_neg (by omega)]
      rw [fb_sm_cong e1, fb_sm_ml, Wp]
      unfold wc
      rw [if_pos ho]
      rfl
    · have e1 : ∀ v, v < tz T c → Wp T (upf d c v) (m + 1) = Wp T (upf d c v) m * wc T d m := fun v hv => by
        rw [Wp]
        unfold wc
        rw [upf_n d v (show ¬ m = c by omega)]
      rw [fb_sm_cong e1, fb_sm_mr, Wp_sum ho m (by omega), Wp]
theorem Wd_sum {T : Tb} {d : Nat → Nat} {c : Nat} (ho : d c = tz T c) (hc : c < tn T) : fb_sm (fun v => Wd T (upf d c v)) (tz T c) = Wd T d := Wp_sum ho (tn T) hc
/-! its rank: 1024 times its lowest cost, and the fewest nodes -/
def BG : Nat := 4611686018427387904
def mn (p : Nat → Bool) (f : Nat → Nat) : Nat → Nat
  | 0 => BG
  | c + 1 => if p c = true then (if f c < mn p f c then f c else mn p f c) else mn p f c
theorem mn_cong {p : Nat → Bool} {f g : Nat → Nat} : ∀ n, (∀ c, c < n → p c = true → f c = g c) → mn p f n = mn p g n
  | 0, _ => rfl
  | n + 1, h => by
    rw [mn, mn, mn_cong n (fun c hc => h c (by omega))]
    by_cases e : p n = true
    · rw [if_pos e, if_pos e, h n (by omega) e]
    · rw [if_neg e, if_neg e]
theorem mn_le {p : Nat → Bool} {f : Nat → Nat} : ∀ n c, c < n → p c = true → mn p f n ≤ f c
  | 0, c, h, _ => absurd h (Nat.not_lt_zero c)
  | n + 1, c, h, hp => by
    rw [mn]
    by_cases e : c = n
    · subst e
      rw [if_pos hp]
      by_cases e2 : f c < mn p f c
      · rw [if_pos e2]; exact Nat.le_refl _
      · rw [if_neg e2]; omega
    · have ih := mn_le (f := f) n c (by omega) hp
      by_cases e2 : p n = true
      · rw [if_pos e2]
        by_cases e3 : f n < mn p f n
        · rw [if_pos e3]; omega
        · rw [if_neg e3]; exact ih
      · rw [if_neg e2]; exact ih
theorem mn_att {p : Nat → Bool} {f : Nat → Nat} : ∀ n, mn p f n < BG → ∃ c, c < n ∧ p c = true ∧ mn p f n = f c
  | 0, h => absurd h (Nat.lt_irrefl _)
  | n + 1, h => by
    rw [mn] at h ⊢
    by_cases e2 : p n = true
    · rw [if_pos e2] at h ⊢
      by_cases e3 : f n < mn p f n
      · rw [if_pos e3]; exact ⟨n, by omega, e2, rfl⟩
      · rw [if_neg e3] at h ⊢
        obtain ⟨c, h1, h2, h3⟩ := mn_att n h
        exact ⟨c, by omega, h2, h3⟩
    · rw [if_neg e2] at h ⊢
      obtain ⟨c, h1, h2, h3⟩ := mn_att n h
      exact ⟨c, by omega, h2, h3⟩
def RR (T : Tb) : Nat → (Nat → Nat) → Nat
  | 0, _ => 1
  | m + 1, d => if Sv T d = 11 then mn (isO T d) (fun c => tk T c * Wd T d * 1024 + 1 + fb_sm (fun v => RR T m (upf d c v)) (tz T c)) (tn T) else 1
def Rv (T : Tb) (d : Nat → Nat) : Nat := RR T (oc T d (tn T)) d
def rt (T : Tb) (d : Nat → Nat) (c : Nat) : Nat := tk T c * Wd T d * 1024 + 1 + fb_sm (fun v => Rv T (upf d c v)) (tz T c)
theorem Rv_l {T : Tb} {d : Nat → Nat} (h : ¬ Sv T d = 11) : Rv T d = 1 := by
  unfold Rv
  cases oc T d (tn T) with
  | zero => rfl
  | succ m => rw [RR, if_neg h]
theorem Rv_m {T : Tb} (hT : TOk T) {d : Nat → Nat} (h : Sv T d = 11) : Rv T d = mn (isO T d) (rt T d) (tn T) := by
  have hf := Sv_mix hT h
  have hp := oc_pos (fo_open hf) (tn T) hf
  have e : mn (isO T d) (rt T d) (tn T) = mn (isO T d) (fun c => tk T c * Wd T d * 1024 + 1 + fb_sm (fun v => RR T (oc T d (tn T) - 1) (upf d c v)) (tz T c)) (tn T) := by
    refine mn_cong _ (fun c hc hpc => ?_)
    have ho : d c = tz T c := of_decide_eq_true hpc
    unfold rt
    rw [fb_sm_cong (fun v hv => ?_)]
    have := oc_upf ho hv (tn T) hc
    unfold Rv
    rw [show oc T (upf d c v) (tn T) = oc T d (tn T) - 1 by omega]
  rw [e]
  unfold Rv
  obtain ⟨m, hm⟩ : ∃ m, oc T d (tn T) = m + 1 := ⟨oc T d (tn T) - 1, by omega⟩
  rw [hm, RR, if_pos h, Nat.add_sub_cancel]
def nb : Nat → Nat
  | 0 => 1
  | m + 1 => 1 + 5 * nb m
theorem nb_mono : ∀ m, nb m ≤ nb (m + 1) := fun m => by rw [nb]; omega
theorem nb_4 : ∀ {m : Nat}, m ≤ 4 → nb m ≤ 781 := by
  intro m h
  have : m = 0 ∨ m = 1 ∨ m = 2 ∨ m = 3 ∨ m = 4 := by omega
  rcases this with rfl | rfl | rfl | rfl | rfl <;> decide
theorem fb_sm_dm (f : Nat → Nat) : ∀ n, fb_sm f n = 1024 * fb_sm (fun v => f v / 1024) n + fb_sm (fun v => f v % 1024) n
  | 0 => rfl
  | n + 1 => by rw [fb_sm_succ, fb_sm_succ, fb_sm_succ, fb_sm_dm f n]; omega
theorem rt_dm {T : Tb} {d : Nat → Nat} {c : Nat} (h : fb_sm (fun v => Rv T (upf d c v) % 1024) (tz T c) ≤ 780) : rt T d c / 1024 = tk T c * Wd T d + fb_sm (fun v => Rv T (upf d c v) / 1024) (tz T c) ∧ rt T d c % 1024 = 1 + fb_sm (fun v => Rv T (upf d c v) % 1024) (tz T c) := by
  unfold rt
  rw [fb_sm_dm (fun v => Rv T (upf d c v))]
  omega
theorem Rv_b {T : Tb} (hT : TOk T) : ∀ m d, oc T d (tn T) = m → Rv T d % 1024 ≤ nb m ∧ Rv T d / 1024 ≤ 9 * m * Wd T d ∧ 1 ≤ Rv T d % 1024 := by
  intro m
  induction m with
  | zero =>
    intro d h
    have e : Rv T d = 1 := by
      unfold Rv
      rw [h, RR]
    rw [e]
    exact ⟨by decide, Nat.zero_le _, by decide⟩
  | succ m ih =>
    intro d h
    by_cases hS : Sv T d = 11
    · have hm4 : m + 1 ≤ 4 := by have := oc_le (T := T) (d := d) (tn T); have := hT.n4; omega
      have key : ∀ c, c < tn T → isO T d c = true → rt T d c % 1024 ≤ nb (m + 1) ∧ rt T d c / 1024 ≤ 9 * (m + 1) * Wd T d ∧ 1 ≤ rt T d c % 1024 := by
        intro c hc hp
        have ho : d c = tz T c := of_decide_eq_true hp
        have hz := hT.z5 c
        have hv : ∀ v, v < tz T c → oc T (upf d c v) (tn T) = m := fun v hv => by have := oc_upf ho hv (tn T) hc; omega
        have hn := nb_4 hm4
        have hs : fb_sm (fun v => Rv T (upf d c v) % 1024) (tz T c) ≤ 5 * nb m := Nat.le_trans (fb_sm_bound (fun v hvv => (ih _ (hv v hvv)).1)) (Nat.mul_le_mul_right _ hz)
        rw [nb] at hn ⊢
        obtain ⟨e1, e2⟩ := rt_dm (T := T) (d := d) (c := c) (by omega)
        rw [e1, e2]
        refine ⟨by omega, ?_, by omega⟩
        have h3 : fb_sm (fun v => Rv T (upf d c v) / 1024) (tz T c) ≤ 9 * m * Wd T d := by
          rw [← Wd_sum ho hc, ← fb_sm_ml]
          exact fb_sm_le (fun v hvv => (ih _ (hv v hvv)).2.1)
        have h4 : tk T c * Wd T d ≤ 9 * Wd T d := Nat.mul_le_mul_right _ (hT.k c).2
        have h5 : 9 * (m + 1) * Wd T d = 9 * Wd T d + 9 * m * Wd T d := by rw [Nat.mul_add, Nat.add_mul]; omega
        omega
      have hW := Wd_le hT d
      obtain ⟨c0, hc0, ho0⟩ := oc_ex (tn T) (show 0 < oc T d (tn T) by omega)
      have hle := mn_le (p := isO T d) (f := rt T d) (tn T) c0 hc0 (decide_eq_true ho0)
      have k0 := key c0 hc0 (decide_eq_true ho0)
      have hb : rt T d c0 < BG := by
        have h6 : 9 * (m + 1) * Wd T d ≤ 9 * 4 * 4100625 := Nat.mul_le_mul (by omega) hW
        unfold BG
        omega
      obtain ⟨c, h1, h2, h3⟩ := mn_att (p := isO T d) (f := rt T d) (tn T) (by omega)
      rw [Rv_m hT hS, h3]
      exact key c h1 h2
    · rw [Rv_l hS]
      refine ⟨?_, Nat.zero_le _, by decide⟩
      have : 1 ≤ nb m := by cases m <;> rw [nb] <;> omega
      have := nb_mono m
      omega
theorem oc_4 {T : Tb} (hT : TOk T) (d : Nat → Nat) : oc T d (tn T) ≤ 4 := Nat.le_trans (oc_le _) hT.n4
theorem Rv_mod {T : Tb} (hT : TOk T) (d : Nat → Nat) : Rv T d % 1024 ≤ 781 := Nat.le_trans (Rv_b hT _ d rfl).1 (nb_4 (oc_4 hT d))
theorem Rv_lt {T : Tb} (hT : TOk T) (d : Nat → Nat) : Rv T d < 2 ^ 40 := by
  obtain ⟨h1, h2, h3⟩ := Rv_b hT _ d rfl
  have h6 : 9 * oc T d (tn T) * Wd T d ≤ 9 * 4 * 4100625 := Nat.mul_le_mul (Nat.mul_le_mul_left _ (oc_4 hT d)) (Wd_le hT d)
  omega
/-- what testing an open condition costs, and its nodes -/
theorem rt_b {T : Tb} (hT : TOk T) {d : Nat → Nat} {c : Nat} (hc : c < tn T) (ho : d c = tz T c) : rt T d c / 1024 = tk T c * Wd T d + fb_sm (fun v => Rv T (upf d c v) / 1024) (tz T c) ∧ rt T d c % 1024 = 1 + fb_sm (fun v => Rv T (upf d c v) % 1024) (tz T c) ∧ rt T d c < 2 ^ 40 ∧ fb_sm (fun v => Rv T (upf d c v) % 1024) (tz T c) ≤ 780 := by
  have hz := hT.z5 c
  have h4 := oc_4 hT d
  have hp := oc_pos ho (tn T) hc
  obtain ⟨m, hm⟩ : ∃ m, oc T d (tn T) = m + 1 := ⟨oc T d (tn T) - 1, by omega⟩
  have hv : ∀ v, v < tz T c → oc T (upf d c v) (tn T) = m := fun v hv => by have := oc_upf ho hv (tn T) hc; omega
  have hn := nb_4 (show m + 1 ≤ 4 by omega)
  have hs : fb_sm (fun v => Rv T (upf d c v) % 1024) (tz T c) ≤ 5 * nb m := Nat.le_trans (fb_sm_bound (fun v hvv => (Rv_b hT _ _ (hv v hvv)).1)) (Nat.mul_le_mul_right _ hz)
  rw [nb] at hn
  obtain ⟨e1, e2⟩ := rt_dm (T := T) (d := d) (c := c) (by omega)
  refine ⟨e1, e2, ?_, by omega⟩
  have h3 : fb_sm (fun v => Rv T (upf d c v) / 1024) (tz T c) ≤ 9 * m * Wd T d := by
    rw [← Wd_sum ho hc, ← fb_sm_ml]
    exact fb_sm_le (fun v hvv => (Rv_b hT _ _ (hv v hvv)).2.1)
  have h4 : tk T c * Wd T d ≤ 9 * 4100625 := Nat.mul_le_mul (hT.k c).2 (Wd_le hT d)
  have h5 : 9 * m * Wd T d ≤ 9 * 4 * 4100625 := Nat.mul_le_mul (Nat.mul_le_mul_left _ (by omega)) (Wd_le hT d)
  omega
/-- the first test that is best -/
def bst (T : Tb) (d : Nat → Nat) : Nat := fa_first (fun c => isO T d c && decide (rt T d c = Rv T d)) (tn T)
theorem bst_lt {T : Tb} (hT : TOk T) {d : Nat → Nat} (h : Sv T d = 11) : bst T d < tn T ∧ d (bst T d) = tz T (bst T d) ∧ rt T d (bst T d) = Rv T d := by
  have hR := Rv_lt hT d
  rw [Rv_m hT h] at hR
  obtain ⟨c, h1, h2, h3⟩ := mn_att (p := isO T d) (f := rt T d) (tn T) (by unfold BG; omega)
  have hlt : bst T d < tn T := by
    rcases Nat.lt_or_ge (bst T d) (tn T) with q | q
    · exact q
    · have := fa_first_no (fun c => isO T d c && decide (rt T d c = Rv T d)) (tn T) c (by unfold bst at q; omega)
      rw [h2, Rv_m hT h, h3, decide_eq_true rfl] at this
      exact absurd this (by decide)
  have hy := fa_first_yes (fun c => isO T d c && decide (rt T d c = Rv T d)) (tn T) hlt
  obtain ⟨y1, y2⟩ := and_tt hy
  exact ⟨hlt, of_decide_eq_true y1, of_decide_eq_true y2⟩
