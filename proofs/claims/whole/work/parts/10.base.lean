/-! the pure side: guards, names, loops -/
def bI (b : Bool) : Int32 := match b with
  | true => 1
  | false => 0
theorem bI_n (b : Bool) : narrow .boolean (.int (bI b)) = .int (bI b) := by cases b <;> rfl
theorem bI_f (b : Bool) : fits .boolean (.int (bI b)) = true := by cases b <;> rfl
theorem bI_0 {b : Bool} (h : bI b = 0) : b = false := by cases b with
  | true => exact absurd h (by decide)
  | false => rfl
theorem bI_1 {b : Bool} (h : ¬ bI b = 0) : b = true := by cases b with
  | false => exact absurd rfl h
  | true => rfl
def ix {β : Type} (n : Nat) (i : Int32) (k : Option β) : Option β := if i < 0 ∨ n ≤ i.toNatClampNeg then none else k
theorem ix_in {β : Type} {n : Nat} {i : Int32} {k : Option β} {R : β} (h : ix n i k = some R) : vp_in i n := by
  intro q
  unfold ix at h
  rw [if_pos q] at h
  cases h
theorem ix_k {β : Type} {n : Nat} {i : Int32} {k : Option β} {R : β} (h : ix n i k = some R) : k = some R := by
  have q : ¬ (i < 0 ∨ n ≤ i.toNatClampNeg) := ix_in h
  unfold ix at h
  rw [if_neg q] at h
  exact h
theorem ix_go {β : Type} {n : Nat} {i : Int32} {k : Option β} (h : vp_in i n) : ix n i k = k := by
  unfold ix
  exact if_neg h
def rd {α β : Type} (n : Nat) (f : Nat → α) (i : Int32) (k : α → Option β) : Option β := ix n i (k (f i.toNatClampNeg))
theorem rd_in {α β : Type} {n : Nat} {f : Nat → α} {i : Int32} {k : α → Option β} {R : β} (h : rd n f i k = some R) : vp_in i n := ix_in h
theorem rd_k {α β : Type} {n : Nat} {f : Nat → α} {i : Int32} {k : α → Option β} {R : β} (h : rd n f i k = some R) {y : α} (e : y = f i.toNatClampNeg) : k y = some R := by
  subst e
  exact ix_k h
theorem rd_go {α β : Type} {n : Nat} {f : Nat → α} {i : Int32} {k : α → Option β} (h : vp_in i n) : rd n f i k = k (f i.toNatClampNeg) := ix_go h
theorem rd_nI {α β : Type} {n j : Nat} {f : Nat → α} {k : α → Option β} (h : j < n) (hn : n < 2 ^ 31) : rd n f (nI j) k = k (f j) := by
  rw [rd_go (vp_in_nI h hn), nI_clamp (Nat.lt_trans h hn)]
theorem ix_nI {β : Type} {n j : Nat} {k : Option β} (h : j < n) (hn : n < 2 ^ 31) : ix n (nI j) k = k := ix_go (vp_in_nI h hn)
def nz {β : Type} (y : Int32) (k : Option β) : Option β := if y = 0 then none else k
theorem nz_in {β : Type} {y : Int32} {k : Option β} {R : β} (h : nz y k = some R) : ¬ y = 0 := by
  intro q
  unfold nz at h
  rw [if_pos q] at h
  cases h
theorem nz_k {β : Type} {y : Int32} {k : Option β} {R : β} (h : nz y k = some R) : k = some R := by
  have q := nz_in h
  unfold nz at h
  rw [if_neg q] at h
  exact h
theorem nz_go {β : Type} {y : Int32} {k : Option β} (h : ¬ y = 0) : nz y k = k := if_neg h
def nm {α β : Type} (x : α) (k : α → β) : β := k x
theorem nm_n {α β : Type} {x : α} {k : α → β} {R : β} (h : nm x k = R) {y : α} (e : y = x) : k y = R := by
  subst e
  exact h
theorem ite_t {α : Type} {c : Prop} {i : Decidable c} {A B R : α} (hc : c) (h : @ite α c i A B = R) : A = R := by
  rw [if_pos hc] at h
  exact h
theorem ite_f {α : Type} {c : Prop} {i : Decidable c} {A B R : α} (hc : ¬ c) (h : @ite α c i A B = R) : B = R := by
  rw [if_neg hc] at h
  exact h
def wl {σ α : Type} (f : σ → Option (σ ⊕ α)) : Nat → σ → Option α
  | 0, _ => none
  | n + 1, v => match f v with
    | none => none
    | some (.inl w) => wl f n w
    | some (.inr a) => some a
def wk {σ α : Type} (f : σ → Option (σ ⊕ α)) (n : Nat) : σ ⊕ α → Option α
  | .inl w => wl f n w
  | .inr a => some a
theorem wl_0 {σ α : Type} {f : σ → Option (σ ⊕ α)} {v : σ} {R : α} {G : Prop} (h : wl f 0 v = some R) : G := by
  simp [wl] at h
theorem wl_s {σ α : Type} {f : σ → Option (σ ⊕ α)} {n : Nat} {v : σ} {R : α} (h : wl f (n + 1) v = some R) : ∃ o, f v = some o ∧ wk f n o = some R := by
  unfold wl at h
  cases hf : f v with
  | none => rw [hf] at h; cases h
  | some o =>
    rw [hf] at h
    cases o with
    | inl w => exact ⟨_, rfl, h⟩
    | inr a => exact ⟨_, rfl, h⟩
theorem wl_c {σ α : Type} {f : σ → Option (σ ⊕ α)} {n : Nat} {v w : σ} (h : f v = some (.inl w)) : wl f (n + 1) v = wl f n w := by
  rw [wl, h]
theorem wl_r {σ α : Type} {f : σ → Option (σ ⊕ α)} {n : Nat} {v : σ} {a : α} (h : f v = some (.inr a)) : wl f (n + 1) v = some a := by
  rw [wl, h]
theorem wk_r {σ α : Type} {f : σ → Option (σ ⊕ α)} {n : Nat} {a R : α} (h : wk f n (.inr a) = some R) : a = R := Option.some.inj h
theorem wk_l {σ α : Type} {f : σ → Option (σ ⊕ α)} {n : Nat} {w : σ} {R : α} (h : wk f n (.inl w) = some R) : wl f n w = some R := h
theorem bd_s {α β : Type} {x : Option α} {k : α → Option β} {R : β} (h : Option.bind x k = some R) : ∃ r, x = some r ∧ k r = some R := by
  cases x with
  | none => cases h
  | some r => exact ⟨r, rfl, h⟩
def bd2 {T0 T1 β : Type} (x : Option (T0 × T1)) (k : T0 → T1 → Option β) : Option β := Option.bind x (fun q => k q.1 q.2)
theorem bd2_s {T0 T1 β : Type} {x : Option (T0 × T1)} {k : T0 → T1 → Option β} {R : β} (h : bd2 x k = some R) : ∃ r0 r1, x = some (r0, r1) ∧ k r0 r1 = some R := by
  obtain ⟨q, e, h⟩ := bd_s h
  exact ⟨_, _, e, h⟩
theorem bd2_go {T0 T1 β : Type} {k : T0 → T1 → Option β} {r0 : T0} {r1 : T1} : bd2 (some (r0, r1)) k = k r0 r1 := rfl
def bd3 {T0 T1 T2 β : Type} (x : Option (T0 × T1 × T2)) (k : T0 → T1 → T2 → Option β) : Option β := Option.bind x (fun q => k q.1 q.2.1 q.2.2)
theorem bd3_s {T0 T1 T2 β : Type} {x : Option (T0 × T1 × T2)} {k : T0 → T1 → T2 → Option β} {R : β} (h : bd3 x k = some R) : ∃ r0 r1 r2, x = some (r0, r1, r2) ∧ k r0 r1 r2 = some R := by
  obtain ⟨q, e, h⟩ := bd_s h
  exact ⟨_, _, _, e, h⟩
theorem bd3_go {T0 T1 T2 β : Type} {k : T0 → T1 → T2 → Option β} {r0 : T0} {r1 : T1} {r2 : T2} : bd3 (some (r0, r1, r2)) k = k r0 r1 r2 := rfl
def bd4 {T0 T1 T2 T3 β : Type} (x : Option (T0 × T1 × T2 × T3)) (k : T0 → T1 → T2 → T3 → Option β) : Option β := Option.bind x (fun q => k q.1 q.2.1 q.2.2.1 q.2.2.2)
theorem bd4_s {T0 T1 T2 T3 β : Type} {x : Option (T0 × T1 × T2 × T3)} {k : T0 → T1 → T2 → T3 → Option β} {R : β} (h : bd4 x k = some R) : ∃ r0 r1 r2 r3, x = some (r0, r1, r2, r3) ∧ k r0 r1 r2 r3 = some R := by
  obtain ⟨q, e, h⟩ := bd_s h
  exact ⟨_, _, _, _, e, h⟩
theorem bd4_go {T0 T1 T2 T3 β : Type} {k : T0 → T1 → T2 → T3 → Option β} {r0 : T0} {r1 : T1} {r2 : T2} {r3 : T3} : bd4 (some (r0, r1, r2, r3)) k = k r0 r1 r2 r3 := rfl
def bd5 {T0 T1 T2 T3 T4 β : Type} (x : Option (T0 × T1 × T2 × T3 × T4)) (k : T0 → T1 → T2 → T3 → T4 → Option β) : Option β := Option.bind x (fun q => k q.1 q.2.1 q.2.2.1 q.2.2.2.1 q.2.2.2.2)
theorem bd5_s {T0 T1 T2 T3 T4 β : Type} {x : Option (T0 × T1 × T2 × T3 × T4)} {k : T0 → T1 → T2 → T3 → T4 → Option β} {R : β} (h : bd5 x k = some R) : ∃ r0 r1 r2 r3 r4, x = some (r0, r1, r2, r3, r4) ∧ k r0 r1 r2 r3 r4 = some R := by
  obtain ⟨q, e, h⟩ := bd_s h
  exact ⟨_, _, _, _, _, e, h⟩
theorem bd5_go {T0 T1 T2 T3 T4 β : Type} {k : T0 → T1 → T2 → T3 → T4 → Option β} {r0 : T0} {r1 : T1} {r2 : T2} {r3 : T3} {r4 : T4} : bd5 (some (r0, r1, r2, r3, r4)) k = k r0 r1 r2 r3 r4 := rfl
def bd6 {T0 T1 T2 T3 T4 T5 β : Type} (x : Option (T0 × T1 × T2 × T3 × T4 × T5)) (k : T0 → T1 → T2 → T3 → T4 → T5 → Option β) : Option β := Option.bind x (fun q => k q.1 q.2.1 q.2.2.1 q.2.2.2.1 q.2.2.2.2.1 q.2.2.2.2.2)
theorem bd6_s {T0 T1 T2 T3 T4 T5 β : Type} {x : Option (T0 × T1 × T2 × T3 × T4 × T5)} {k : T0 → T1 → T2 → T3 → T4 → T5 → Option β} {R : β} (h : bd6 x k = some R) : ∃ r0 r1 r2 r3 r4 r5, x = some (r0, r1, r2, r3, r4, r5) ∧ k r0 r1 r2 r3 r4 r5 = some R := by
  obtain ⟨q, e, h⟩ := bd_s h
  exact ⟨_, _, _, _, _, _, e, h⟩
theorem bd6_go {T0 T1 T2 T3 T4 T5 β : Type} {k : T0 → T1 → T2 → T3 → T4 → T5 → Option β} {r0 : T0} {r1 : T1} {r2 : T2} {r3 : T3} {r4 : T4} {r5 : T5} : bd6 (some (r0, r1, r2, r3, r4, r5)) k = k r0 r1 r2 r3 r4 r5 := rfl
def bd7 {T0 T1 T2 T3 T4 T5 T6 β : Type} (x : Option (T0 × T1 × T2 × T3 × T4 × T5 × T6)) (k : T0 → T1 → T2 → T3 → T4 → T5 → T6 → Option β) : Option β := Option.bind x (fun q => k q.1 q.2.1 q.2.2.1 q.2.2.2.1 q.2.2.2.2.1 q.2.2.2.2.2.1 q.2.2.2.2.2.2)
theorem bd7_s {T0 T1 T2 T3 T4 T5 T6 β : Type} {x : Option (T0 × T1 × T2 × T3 × T4 × T5 × T6)} {k : T0 → T1 → T2 → T3 → T4 → T5 → T6 → Option β} {R : β} (h : bd7 x k = some R) : ∃ r0 r1 r2 r3 r4 r5 r6, x = some (r0, r1, r2, r3, r4, r5, r6) ∧ k r0 r1 r2 r3 r4 r5 r6 = some R := by
  obtain ⟨q, e, h⟩ := bd_s h
  exact ⟨_, _, _, _, _, _, _, e, h⟩
theorem bd7_go {T0 T1 T2 T3 T4 T5 T6 β : Type} {k : T0 → T1 → T2 → T3 → T4 → T5 → T6 → Option β} {r0 : T0} {r1 : T1} {r2 : T2} {r3 : T3} {r4 : T4} {r5 : T5} {r6 : T6} : bd7 (some (r0, r1, r2, r3, r4, r5, r6)) k = k r0 r1 r2 r3 r4 r5 r6 := rfl
def bd8 {T0 T1 T2 T3 T4 T5 T6 T7 β : Type} (x : Option (T0 × T1 × T2 × T3 × T4 × T5 × T6 × T7)) (k : T0 → T1 → T2 → T3 → T4 → T5 → T6 → T7 → Option β) : Option β := Option.bind x (fun q => k q.1 q.2.1 q.2.2.1 q.2.2.2.1 q.2.2.2.2.1 q.2.2.2.2.2.1 q.2.2.2.2.2.2.1 q.2.2.2.2.2.2.2)
theorem bd8_s {T0 T1 T2 T3 T4 T5 T6 T7 β : Type} {x : Option (T0 × T1 × T2 × T3 × T4 × T5 × T6 × T7)} {k : T0 → T1 → T2 → T3 → T4 → T5 → T6 → T7 → Option β} {R : β} (h : bd8 x k = some R) : ∃ r0 r1 r2 r3 r4 r5 r6 r7, x = some (r0, r1, r2, r3, r4, r5, r6, r7) ∧ k r0 r1 r2 r3 r4 r5 r6 r7 = some R := by
  obtain ⟨q, e, h⟩ := bd_s h
  exact ⟨_, _, _, _, _, _, _, _, e, h⟩
theorem bd8_go {T0 T1 T2 T3 T4 T5 T6 T7 β : Type} {k : T0 → T1 → T2 → T3 → T4 → T5 → T6 → T7 → Option β} {r0 : T0} {r1 : T1} {r2 : T2} {r3 : T3} {r4 : T4} {r5 : T5} {r6 : T6} {r7 : T7} : bd8 (some (r0, r1, r2, r3, r4, r5, r6, r7)) k = k r0 r1 r2 r3 r4 r5 r6 r7 := rfl
def bd9 {T0 T1 T2 T3 T4 T5 T6 T7 T8 β : Type} (x : Option (T0 × T1 × T2 × T3 × T4 × T5 × T6 × T7 × T8)) (k : T0 → T1 → T2 → T3 → T4 → T5 → T6 → T7 → T8 → Option β) : Option β := Option.bind x (fun q => k q.1 q.2.1 q.2.2.1 q.2.2.2.1 q.2.2.2.2.1 q.2.2.2.2.2.1 q.2.2.2.2.2.2.1 q.2.2.2.2.2.2.2.1 q.2.2.2.2.2.2.2.2)
theorem bd9_s {T0 T1 T2 T3 T4 T5 T6 T7 T8 β : Type} {x : Option (T0 × T1 × T2 × T3 × T4 × T5 × T6 × T7 × T8)} {k : T0 → T1 → T2 → T3 → T4 → T5 → T6 → T7 → T8 → Option β} {R : β} (h : bd9 x k = some R) : ∃ r0 r1 r2 r3 r4 r5 r6 r7 r8, x = some (r0, r1, r2, r3, r4, r5, r6, r7, r8) ∧ k r0 r1 r2 r3 r4 r5 r6 r7 r8 = some R := by
  obtain ⟨q, e, h⟩ := bd_s h
  exact ⟨_, _, _, _, _, _, _, _, _, e, h⟩
theorem bd9_go {T0 T1 T2 T3 T4 T5 T6 T7 T8 β : Type} {k : T0 → T1 → T2 → T3 → T4 → T5 → T6 → T7 → T8 → Option β} {r0 : T0} {r1 : T1} {r2 : T2} {r3 : T3} {r4 : T4} {r5 : T5} {r6 : T6} {r7 : T7} {r8 : T8} : bd9 (some (r0, r1, r2, r3, r4, r5, r6, r7, r8)) k = k r0 r1 r2 r3 r4 r5 r6 r7 r8 := rfl
def bd10 {T0 T1 T2 T3 T4 T5 T6 T7 T8 T9 β : Type} (x : Option (T0 × T1 × T2 × T3 × T4 × T5 × T6 × T7 × T8 × T9)) (k : T0 → T1 → T2 → T3 → T4 → T5 → T6 → T7 → T8 → T9 → Option β) : Option β := Option.bind x (fun q => k q.1 q.2.1 q.2.2.1 q.2.2.2.1 q.2.2.2.2.1 q.2.2.2.2.2.1 q.2.2.2.2.2.2.1 q.2.2.2.2.2.2.2.1 q.2.2.2.2.2.2.2.2.1 q.2.2.2.2.2.2.2.2.2)
theorem bd10_s {T0 T1 T2 T3 T4 T5 T6 T7 T8 T9 β : Type} {x : Option (T0 × T1 × T2 × T3 × T4 × T5 × T6 × T7 × T8 × T9)} {k : T0 → T1 → T2 → T3 → T4 → T5 → T6 → T7 → T8 → T9 → Option β} {R : β} (h : bd10 x k = some R) : ∃ r0 r1 r2 r3 r4 r5 r6 r7 r8 r9, x = some (r0, r1, r2, r3, r4, r5, r6, r7, r8, r9) ∧ k r0 r1 r2 r3 r4 r5 r6 r7 r8 r9 = some R := by
  obtain ⟨q, e, h⟩ := bd_s h
  exact ⟨_, _, _, _, _, _, _, _, _, _, e, h⟩
theorem bd10_go {T0 T1 T2 T3 T4 T5 T6 T7 T8 T9 β : Type} {k : T0 → T1 → T2 → T3 → T4 → T5 → T6 → T7 → T8 → T9 → Option β} {r0 : T0} {r1 : T1} {r2 : T2} {r3 : T3} {r4 : T4} {r5 : T5} {r6 : T6} {r7 : T7} {r8 : T8} {r9 : T9} : bd10 (some (r0, r1, r2, r3, r4, r5, r6, r7, r8, r9)) k = k r0 r1 r2 r3 r4 r5 r6 r7 r8 r9 := rfl
def bd11 {T0 T1 T2 T3 T4 T5 T6 T7 T8 T9 T10 β : Type} (x : Option (T0 × T1 × T2 × T3 × T4 × T5 × T6 × T7 × T8 × T9 × T10)) (k : T0 → T1 → T2 → T3 → T4 → T5 → T6 → T7 → T8 → T9 → T10 → Option β) : Option β := Option.bind x (fun q => k q.1 q.2.1 q.2.2.1 q.2.2.2.1 q.2.2.2.2.1 q.2.2.2.2.2.1 q.2.2.2.2.2.2.1 q.2.2.2.2.2.2.2.1 q.2.2.2.2.2.2.2.2.1 q.2.2.2.2.2.2.2.2.2.1 q.2.2.2.2.2.2.2.2.2.2)
theorem bd11_s {T0 T1 T2 T3 T4 T5 T6 T7 T8 T9 T10 β : Type} {x : Option (T0 × T1 × T2 × T3 × T4 × T5 × T6 × T7 × T8 × T9 × T10)} {k : T0 → T1 → T2 → T3 → T4 → T5 → T6 → T7 → T8 → T9 → T10 → Option β} {R : β} (h : bd11 x k = some R) : ∃ r0 r1 r2 r3 r4 r5 r6 r7 r8 r9 r10, x = some (r0, r1, r2, r3, r4, r5, r6, r7, r8, r9, r10) ∧ k r0 r1 r2 r3 r4 r5 r6 r7 r8 r9 r10 = some R := by
  obtain ⟨q, e, h⟩ := bd_s h
  exact ⟨_, _, _, _, _, _, _, _, _, _, _, e, h⟩
theorem bd11_go {T0 T1 T2 T3 T4 T5 T6 T7 T8 T9 T10 β : Type} {k : T0 → T1 → T2 → T3 → T4 → T5 → T6 → T7 → T8 → T9 → T10 → Option β} {r0 : T0} {r1 : T1} {r2 : T2} {r3 : T3} {r4 : T4} {r5 : T5} {r6 : T6} {r7 : T7} {r8 : T8} {r9 : T9} {r10 : T10} : bd11 (some (r0, r1, r2, r3, r4, r5, r6, r7, r8, r9, r10)) k = k r0 r1 r2 r3 r4 r5 r6 r7 r8 r9 r10 := rfl
def bd12 {T0 T1 T2 T3 T4 T5 T6 T7 T8 T9 T10 T11 β : Type} (x : Option (T0 × T1 × T2 × T3 × T4 × T5 × T6 × T7 × T8 × T9 × T10 × T11)) (k : T0 → T1 → T2 → T3 → T4 → T5 → T6 → T7 → T8 → T9 → T10 → T11 → Option β) : Option β := Option.bind x (fun q => k q.1 q.2.1 q.2.2.1 q.2.2.2.1 q.2.2.2.2.1 q.2.2.2.2.2.1 q.2.2.2.2.2.2.1 q.2.2.2.2.2.2.2.1 q.2.2.2.2.2.2.2.2.1 q.2.2.2.2.2.2.2.2.2.1 q.2.2.2.2.2.2.2.2.2.2.1 q.2.2.2.2.2.2.2.2.2.2.2)
theorem bd12_s {T0 T1 T2 T3 T4 T5 T6 T7 T8 T9 T10 T11 β : Type} {x : Option (T0 × T1 × T2 × T3 × T4 × T5 × T6 × T7 × T8 × T9 × T10 × T11)} {k : T0 → T1 → T2 → T3 → T4 → T5 → T6 → T7 → T8 → T9 → T10 → T11 → Option β} {R : β} (h : bd12 x k = some R) : ∃ r0 r1 r2 r3 r4 r5 r6 r7 r8 r9 r10 r11, x = some (r0, r1, r2, r3, r4, r5, r6, r7, r8, r9, r10, r11) ∧ k r0 r1 r2 r3 r4 r5 r6 r7 r8 r9 r10 r11 = some R := by
  obtain ⟨q, e, h⟩ := bd_s h
  exact ⟨_, _, _, _, _, _, _, _, _, _, _, _, e, h⟩
theorem bd12_go {T0 T1 T2 T3 T4 T5 T6 T7 T8 T9 T10 T11 β : Type} {k : T0 → T1 → T2 → T3 → T4 → T5 → T6 → T7 → T8 → T9 → T10 → T11 → Option β} {r0 : T0} {r1 : T1} {r2 : T2} {r3 : T3} {r4 : T4} {r5 : T5} {r6 : T6} {r7 : T7} {r8 : T8} {r9 : T9} {r10 : T10} {r11 : T11} : bd12 (some (r0, r1, r2, r3, r4, r5, r6, r7, r8, r9, r10, r11)) k = k r0 r1 r2 r3 r4 r5 r6 r7 r8 r9 r10 r11 := rfl
def bd13 {T0 T1 T2 T3 T4 T5 T6 T7 T8 T9 T10 T11 T12 β : Type} (x : Option (T0 × T1 × T2 × T3 × T4 × T5 × T6 × T7 × T8 × T9 × T10 × T11 × T12)) (k : T0 → T1 → T2 → T3 → T4 → T5 → T6 → T7 → T8 → T9 → T10 → T11 → T12 → Option β) : Option β := Option.bind x (fun q => k q.1 q.2.1 q.2.2.1 q.2.2.2.1 q.2.2.2.2.1 q.2.2.2.2.2.1 q.2.2.2.2.2.2.1 q.2.2.2.2.2.2.2.1 q.2.2.2.2.2.2.2.2.1 q.2.2.2.2.2.2.2.2.2.1 q.2.2.2.2.2.2.2.2.2.2.1 q.2.2.2.2.2.2.2.2.2.2.2.1 q.2.2.2.2.2.2.2.2.2.2.2.2)
theorem bd13_s {T0 T1 T2 T3 T4 T5 T6 T7 T8 T9 T10 T11 T12 β : Type} {x : Option (T0 × T1 × T2 × T3 × T4 × T5 × T6 × T7 × T8 × T9 × T10 × T11 × T12)} {k : T0 → T1 → T2 → T3 → T4 → T5 → T6 → T7 → T8 → T9 → T10 → T11 → T12 → Option β} {R : β} (h : bd13 x k = some R) : ∃ r0 r1 r2 r3 r4 r5 r6 r7 r8 r9 r10 r11 r12, x = some (r0, r1, r2, r3, r4, r5, r6, r7, r8, r9, r10, r11, r12) ∧ k r0 r1 r2 r3 r4 r5 r6 r7 r8 r9 r10 r11 r12 = some R := by
  obtain ⟨q, e, h⟩ := bd_s h
  exact ⟨_, _, _, _, _, _, _, _, _, _, _, _, _, e, h⟩
theorem bd13_go {T0 T1 T2 T3 T4 T5 T6 T7 T8 T9 T10 T11 T12 β : Type} {k : T0 → T1 → T2 → T3 → T4 → T5 → T6 → T7 → T8 → T9 → T10 → T11 → T12 → Option β} {r0 : T0} {r1 : T1} {r2 : T2} {r3 : T3} {r4 : T4} {r5 : T5} {r6 : T6} {r7 : T7} {r8 : T8} {r9 : T9} {r10 : T10} {r11 : T11} {r12 : T12} : bd13 (some (r0, r1, r2, r3, r4, r5, r6, r7, r8, r9, r10, r11, r12)) k = k r0 r1 r2 r3 r4 r5 r6 r7 r8 r9 r10 r11 r12 := rfl
def bd14 {T0 T1 T2 T3 T4 T5 T6 T7 T8 T9 T10 T11 T12 T13 β : Type} (x : Option (T0 × T1 × T2 × T3 × T4 × T5 × T6 × T7 × T8 × T9 × T10 × T11 × T12 × T13)) (k : T0 → T1 → T2 → T3 → T4 → T5 → T6 → T7 → T8 → T9 → T10 → T11 → T12 → T13 → Option β) : Option β := Option.bind x (fun q => k q.1 q.2.1 q.2.2.1 q.2.2.2.1 q.2.2.2.2.1 q.2.2.2.2.2.1 q.2.2.2.2.2.2.1 q.2.2.2.2.2.2.2.1 q.2.2.2.2.2.2.2.2.1 q.2.2.2.2.2.2.2.2.2.1 q.2.2.2.2.2.2.2.2.2.2.1 q.2.2.2.2.2.2.2.2.2.2.2.1 q.2.2.2.2.2.2.2.2.2.2.2.2.1 q.2.2.2.2.2.2.2.2.2.2.2.2.2)
theorem bd14_s {T0 T1 T2 T3 T4 T5 T6 T7 T8 T9 T10 T11 T12 T13 β : Type} {x : Option (T0 × T1 × T2 × T3 × T4 × T5 × T6 × T7 × T8 × T9 × T10 × T11 × T12 × T13)} {k : T0 → T1 → T2 → T3 → T4 → T5 → T6 → T7 → T8 → T9 → T10 → T11 → T12 → T13 → Option β} {R : β} (h : bd14 x k = some R) : ∃ r0 r1 r2 r3 r4 r5 r6 r7 r8 r9 r10 r11 r12 r13, x = some (r0, r1, r2, r3, r4, r5, r6, r7, r8, r9, r10, r11, r12, r13) ∧ k r0 r1 r2 r3 r4 r5 r6 r7 r8 r9 r10 r11 r12 r13 = some R := by
  obtain ⟨q, e, h⟩ := bd_s h
  exact ⟨_, _, _, _, _, _, _, _, _, _, _, _, _, _, e, h⟩
theorem bd14_go {T0 T1 T2 T3 T4 T5 T6 T7 T8 T9 T10 T11 T12 T13 β : Type} {k : T0 → T1 → T2 → T3 → T4 → T5 → T6 → T7 → T8 → T9 → T10 → T11 → T12 → T13 → Option β} {r0 : T0} {r1 : T1} {r2 : T2} {r3 : T3} {r4 : T4} {r5 : T5} {r6 : T6} {r7 : T7} {r8 : T8} {r9 : T9} {r10 : T10} {r11 : T11} {r12 : T12} {r13 : T13} : bd14 (some (r0, r1, r2, r3, r4, r5, r6, r7, r8, r9, r10, r11, r12, r13)) k = k r0 r1 r2 r3 r4 r5 r6 r7 r8 r9 r10 r11 r12 r13 := rfl
def bd15 {T0 T1 T2 T3 T4 T5 T6 T7 T8 T9 T10 T11 T12 T13 T14 β : Type} (x : Option (T0 × T1 × T2 × T3 × T4 × T5 × T6 × T7 × T8 × T9 × T10 × T11 × T12 × T13 × T14)) (k : T0 → T1 → T2 → T3 → T4 → T5 → T6 → T7 → T8 → T9 → T10 → T11 → T12 → T13 → T14 → Option β) : Option β := Option.bind x (fun q => k q.1 q.2.1 q.2.2.1 q.2.2.2.1 q.2.2.2.2.1 q.2.2.2.2.2.1 q.2.2.2.2.2.2.1 q.2.2.2.2.2.2.2.1 q.2.2.2.2.2.2.2.2.1 q.2.2.2.2.2.2.2.2.2.1 q.2.2.2.2.2.2.2.2.2.2.1 q.2.2.2.2.2.2.2.2.2.2.2.1 q.2.2.2.2.2.2.2.2.2.2.2.2.1 q.2.2.2.2.2.2.2.2.2.2.2.2.2.1 q.2.2.2.2.2.2.2.2.2.2.2.2.2.2)
theorem bd15_s {T0 T1 T2 T3 T4 T5 T6 T7 T8 T9 T10 T11 T12 T13 T14 β : Type} {x : Option (T0 × T1 × T2 × T3 × T4 × T5 × T6 × T7 × T8 × T9 × T10 × T11 × T12 × T13 × T14)} {k : T0 → T1 → T2 → T3 → T4 → T5 → T6 → T7 → T8 → T9 → T10 → T11 → T12 → T13 → T14 → Option β} {R : β} (h : bd15 x k = some R) : ∃ r0 r1 r2 r3 r4 r5 r6 r7 r8 r9 r10 r11 r12 r13 r14, x = some (r0, r1, r2, r3, r4, r5, r6, r7, r8, r9, r10, r11, r12, r13, r14) ∧ k r0 r1 r2 r3 r4 r5 r6 r7 r8 r9 r10 r11 r12 r13 r14 = some R := by
  obtain ⟨q, e, h⟩ := bd_s h
  exact ⟨_, _, _, _, _, _, _, _, _, _, _, _, _, _, _, e, h⟩
theorem bd15_go {T0 T1 T2 T3 T4 T5 T6 T7 T8 T9 T10 T11 T12 T13 T14 β : Type} {k : T0 → T1 → T2 → T3 → T4 → T5 → T6 → T7 → T8 → T9 → T10 → T11 → T12 → T13 → T14 → Option β} {r0 : T0} {r1 : T1} {r2 : T2} {r3 : T3} {r4 : T4} {r5 : T5} {r6 : T6} {r7 : T7} {r8 : T8} {r9 : T9} {r10 : T10} {r11 : T11} {r12 : T12} {r13 : T13} {r14 : T14} : bd15 (some (r0, r1, r2, r3, r4, r5, r6, r7, r8, r9, r10, r11, r12, r13, r14)) k = k r0 r1 r2 r3 r4 r5 r6 r7 r8 r9 r10 r11 r12 r13 r14 := rfl
def bd16 {T0 T1 T2 T3 T4 T5 T6 T7 T8 T9 T10 T11 T12 T13 T14 T15 β : Type} (x : Option (T0 × T1 × T2 × T3 × T4 × T5 × T6 × T7 × T8 × T9 × T10 × T11 × T12 × T13 × T14 × T15)) (k : T0 → T1 → T2 → T3 → T4 → T5 → T6 → T7 → T8 → T9 → T10 → T11 → T12 → T13 → T14 → T15 → Option β) : Option β := Option.bind x (fun q => k q.1 q.2.1 q.2.2.1 q.2.2.2.1 q.2.2.2.2.1 q.2.2.2.2.2.1 q.2.2.2.2.2.2.1 q.2.2.2.2.2.2.2.1 q.2.2.2.2.2.2.2.2.1 q.2.2.2.2.2.2.2.2.2.1 q.2.2.2.2.2.2.2.2.2.2.1 q.2.2.2.2.2.2.2.2.2.2.2.1 q.2.2.2.2.2.2.2.2.2.2.2.2.1 q.2.2.2.2.2.2.2.2.2.2.2.2.2.1 q.2.2.2.2.2.2.2.2.2.2.2.2.2.2.1 q.2.2.2.2.2.2.2.2.2.2.2.2.2.2.2)
theorem bd16_s {T0 T1 T2 T3 T4 T5 T6 T7 T8 T9 T10 T11 T12 T13 T14 T15 β : Type} {x : Option (T0 × T1 × T2 × T3 × T4 × T5 × T6 × T7 × T8 × T9 × T10 × T11 × T12 × T13 × T14 × T15)} {k : T0 → T1 → T2 → T3 → T4 → T5 → T6 → T7 → T8 → T9 → T10 → T11 → T12 → T13 → T14 → T15 → Option β} {R : β} (h : bd16 x k = some R) : ∃ r0 r1 r2 r3 r4 r5 r6 r7 r8 r9 r10 r11 r12 r13 r14 r15, x = some (r0, r1, r2, r3, r4, r5, r6, r7, r8, r9, r10, r11, r12, r13, r14, r15) ∧ k r0 r1 r2 r3 r4 r5 r6 r7 r8 r9 r10 r11 r12 r13 r14 r15 = some R := by
  obtain ⟨q, e, h⟩ := bd_s h
  exact ⟨_, _, _, _, _, _, _, _, _, _, _, _, _, _, _, _, e, h⟩
theorem bd16_go {T0 T1 T2 T3 T4 T5 T6 T7 T8 T9 T10 T11 T12 T13 T14 T15 β : Type} {k : T0 → T1 → T2 → T3 → T4 → T5 → T6 → T7 → T8 → T9 → T10 → T11 → T12 → T13 → T14 → T15 → Option β} {r0 : T0} {r1 : T1} {r2 : T2} {r3 : T3} {r4 : T4} {r5 : T5} {r6 : T6} {r7 : T7} {r8 : T8} {r9 : T9} {r10 : T10} {r11 : T11} {r12 : T12} {r13 : T13} {r14 : T14} {r15 : T15} : bd16 (some (r0, r1, r2, r3, r4, r5, r6, r7, r8, r9, r10, r11, r12, r13, r14, r15)) k = k r0 r1 r2 r3 r4 r5 r6 r7 r8 r9 r10 r11 r12 r13 r14 r15 := rfl
def bd17 {T0 T1 T2 T3 T4 T5 T6 T7 T8 T9 T10 T11 T12 T13 T14 T15 T16 β : Type} (x : Option (T0 × T1 × T2 × T3 × T4 × T5 × T6 × T7 × T8 × T9 × T10 × T11 × T12 × T13 × T14 × T15 × T16)) (k : T0 → T1 → T2 → T3 → T4 → T5 → T6 → T7 → T8 → T9 → T10 → T11 → T12 → T13 → T14 → T15 → T16 → Option β) : Option β := Option.bind x (fun q => k q.1 q.2.1 q.2.2.1 q.2.2.2.1 q.2.2.2.2.1 q.2.2.2.2.2.1 q.2.2.2.2.2.2.1 q.2.2.2.2.2.2.2.1 q.2.2.2.2.2.2.2.2.1 q.2.2.2.2.2.2.2.2.2.1 q.2.2.2.2.2.2.2.2.2.2.1 q.2.2.2.2.2.2.2.2.2.2.2.1 q.2.2.2.2.2.2.2.2.2.2.2.2.1 q.2.2.2.2.2.2.2.2.2.2.2.2.2.1 q.2.2.2.2.2.2.2.2.2.2.2.2.2.2.1 q.2.2.2.2.2.2.2.2.2.2.2.2.2.2.2.1 q.2.2.2.2.2.2.2.2.2.2.2.2.2.2.2.2)
theorem bd17_s {T0 T1 T2 T3 T4 T5 T6 T7 T8 T9 T10 T11 T12 T13 T14 T15 T16 β : Type} {x : Option (T0 × T1 × T2 × T3 × T4 × T5 × T6 × T7 × T8 × T9 × T10 × T11 × T12 × T13 × T14 × T15 × T16)} {k : T0 → T1 → T2 → T3 → T4 → T5 → T6 → T7 → T8 → T9 → T10 → T11 → T12 → T13 → T14 → T15 → T16 → Option β} {R : β} (h : bd17 x k = some R) : ∃ r0 r1 r2 r3 r4 r5 r6 r7 r8 r9 r10 r11 r12 r13 r14 r15 r16, x = some (r0, r1, r2, r3, r4, r5, r6, r7, r8, r9, r10, r11, r12, r13, r14, r15, r16) ∧ k r0 r1 r2 r3 r4 r5 r6 r7 r8 r9 r10 r11 r12 r13 r14 r15 r16 = some R := by
  obtain ⟨q, e, h⟩ := bd_s h
  exact ⟨_, _, _, _, _, _, _, _, _, _, _, _, _, _, _, _, _, e, h⟩
theorem bd17_go {T0 T1 T2 T3 T4 T5 T6 T7 T8 T9 T10 T11 T12 T13 T14 T15 T16 β : Type} {k : T0 → T1 → T2 → T3 → T4 → T5 → T6 → T7 → T8 → T9 → T10 → T11 → T12 → T13 → T14 → T15 → T16 → Option β} {r0 : T0} {r1 : T1} {r2 : T2} {r3 : T3} {r4 : T4} {r5 : T5} {r6 : T6} {r7 : T7} {r8 : T8} {r9 : T9} {r10 : T10} {r11 : T11} {r12 : T12} {r13 : T13} {r14 : T14} {r15 : T15} {r16 : T16} : bd17 (some (r0, r1, r2, r3, r4, r5, r6, r7, r8, r9, r10, r11, r12, r13, r14, r15, r16)) k = k r0 r1 r2 r3 r4 r5 r6 r7 r8 r9 r10 r11 r12 r13 r14 r15 r16 := rfl
def bd18 {T0 T1 T2 T3 T4 T5 T6 T7 T8 T9 T10 T11 T12 T13 T14 T15 T16 T17 β : Type} (x : Option (T0 × T1 × T2 × T3 × T4 × T5 × T6 × T7 × T8 × T9 × T10 × T11 × T12 × T13 × T14 × T15 × T16 × T17)) (k : T0 → T1 → T2 → T3 → T4 → T5 → T6 → T7 → T8 → T9 → T10 → T11 → T12 → T13 → T14 → T15 → T16 → T17 → Option β) : Option β := Option.bind x (fun q => k q.1 q.2.1 q.2.2.1 q.2.2.2.1 q.2.2.2.2.1 q.2.2.2.2.2.1 q.2.2.2.2.2.2.1 q.2.2.2.2.2.2.2.1 q.2.2.2.2.2.2.2.2.1 q.2.2.2.2.2.2.2.2.2.1 q.2.2.2.2.2.2.2.2.2.2.1 q.2.2.2.2.2.2.2.2.2.2.2.1 q.2.2.2.2.2.2.2.2.2.2.2.2.1 q.2.2.2.2.2.2.2.2.2.2.2.2.2.1 q.2.2.2.2.2.2.2.2.2.2.2.2.2.2.1 q.2.2.2.2.2.2.2.2.2.2.2.2.2.2.2.1 q.2.2.2.2.2.2.2.2.2.2.2.2.2.2.2.2.1 q.2.2.2.2.2.2.2.2.2.2.2.2.2.2.2.2.2)
theorem bd18_s {T0 T1 T2 T3 T4 T5 T6 T7 T8 T9 T10 T11 T12 T13 T14 T15 T16 T17 β : Type} {x : Option (T0 × T1 × T2 × T3 × T4 × T5 × T6 × T7 × T8 × T9 × T10 × T11 × T12 × T13 × T14 × T15 × T16 × T17)} {k : T0 → T1 → T2 → T3 → T4 → T5 → T6 → T7 → T8 → T9 → T10 → T11 → T12 → T13 → T14 → T15 → T16 → T17 → Option β} {R : β} (h : bd18 x k = some R) : ∃ r0 r1 r2 r3 r4 r5 r6 r7 r8 r9 r10 r11 r12 r13 r14 r15 r16 r17, x = some (r0, r1, r2, r3, r4, r5, r6, r7, r8, r9, r10, r11, r12, r13, r14, r15, r16, r17) ∧ k r0 r1 r2 r3 r4 r5 r6 r7 r8 r9 r10 r11 r12 r13 r14 r15 r16 r17 = some R := by
  obtain ⟨q, e, h⟩ := bd_s h
  exact ⟨_, _, _, _, _, _, _, _, _, _, _, _, _, _, _, _, _, _, e, h⟩
theorem bd18_go {T0 T1 T2 T3 T4 T5 T6 T7 T8 T9 T10 T11 T12 T13 T14 T15 T16 T17 β : Type} {k : T0 → T1 → T2 → T3 → T4 → T5 → T6 → T7 → T8 → T9 → T10 → T11 → T12 → T13 → T14 → T15 → T16 → T17 → Option β} {r0 : T0} {r1 : T1} {r2 : T2} {r3 : T3} {r4 : T4} {r5 : T5} {r6 : T6} {r7 : T7} {r8 : T8} {r9 : T9} {r10 : T10} {r11 : T11} {r12 : T12} {r13 : T13} {r14 : T14} {r15 : T15} {r16 : T16} {r17 : T17} : bd18 (some (r0, r1, r2, r3, r4, r5, r6, r7, r8, r9, r10, r11, r12, r13, r14, r15, r16, r17)) k = k r0 r1 r2 r3 r4 r5 r6 r7 r8 r9 r10 r11 r12 r13 r14 r15 r16 r17 := rfl
def bd19 {T0 T1 T2 T3 T4 T5 T6 T7 T8 T9 T10 T11 T12 T13 T14 T15 T16 T17 T18 β : Type} (x : Option (T0 × T1 × T2 × T3 × T4 × T5 × T6 × T7 × T8 × T9 × T10 × T11 × T12 × T13 × T14 × T15 × T16 × T17 × T18)) (k : T0 → T1 → T2 → T3 → T4 → T5 → T6 → T7 → T8 → T9 → T10 → T11 → T12 → T13 → T14 → T15 → T16 → T17 → T18 → Option β) : Option β := Option.bind x (fun q => k q.1 q.2.1 q.2.2.1 q.2.2.2.1 q.2.2.2.2.1 q.2.2.2.2.2.1 q.2.2.2.2.2.2.1 q.2.2.2.2.2.2.2.1 q.2.2.2.2.2.2.2.2.1 q.2.2.2.2.2.2.2.2.2.1 q.2.2.2.2.2.2.2.2.2.2.1 q.2.2.2.2.2.2.2.2.2.2.2.1 q.2.2.2.2.2.2.2.2.2.2.2.2.1 q.2.2.2.2.2.2.2.2.2.2.2.2.2.1 q.2.2.2.2.2.2.2.2.2.2.2.2.2.2.1 q.2.2.2.2.2.2.2.2.2.2.2.2.2.2.2.1 q.2.2.2.2.2.2.2.2.2.2.2.2.2.2.2.2.1 q.2.2.2.2.2.2.2.2.2.2.2.2.2.2.2.2.2.1 q.2.2.2.2.2.2.2.2.2.2.2.2.2.2.2.2.2.2)
theorem bd19_s {T0 T1 T2 T3 T4 T5 T6 T7 T8 T9 T10 T11 T12 T13 T14 T15 T16 T17 T18 β : Type} {x : Option (T0 × T1 × T2 × T3 × T4 × T5 × T6 × T7 × T8 × T9 × T10 × T11 × T12 × T13 × T14 × T15 × T16 × T17 × T18)} {k : T0 → T1 → T2 → T3 → T4 → T5 → T6 → T7 → T8 → T9 → T10 → T11 → T12 → T13 → T14 → T15 → T16 → T17 → T18 → Option β} {R : β} (h : bd19 x k = some R) : ∃ r0 r1 r2 r3 r4 r5 r6 r7 r8 r9 r10 r11 r12 r13 r14 r15 r16 r17 r18, x = some (r0, r1, r2, r3, r4, r5, r6, r7, r8, r9, r10, r11, r12, r13, r14, r15, r16, r17, r18) ∧ k r0 r1 r2 r3 r4 r5 r6 r7 r8 r9 r10 r11 r12 r13 r14 r15 r16 r17 r18 = some R := by
  obtain ⟨q, e, h⟩ := bd_s h
  exact ⟨_, _, _, _, _, _, _, _, _, _, _, _, _, _, _, _, _, _, _, e, h⟩
theorem bd19_go {T0 T1 T2 T3 T4 T5 T6 T7 T8 T9 T10 T11 T12 T13 T14 T15 T16 T17 T18 β : Type} {k : T0 → T1 → T2 → T3 → T4 → T5 → T6 → T7 → T8 → T9 → T10 → T11 → T12 → T13 → T14 → T15 → T16 → T17 → T18 → Option β} {r0 : T0} {r1 : T1} {r2 : T2} {r3 : T3} {r4 : T4} {r5 : T5} {r6 : T6} {r7 : T7} {r8 : T8} {r9 : T9} {r10 : T10} {r11 : T11} {r12 : T12} {r13 : T13} {r14 : T14} {r15 : T15} {r16 : T16} {r17 : T17} {r18 : T18} : bd19 (some (r0, r1, r2, r3, r4, r5, r6, r7, r8, r9, r10, r11, r12, r13, r14, r15, r16, r17, r18)) k = k r0 r1 r2 r3 r4 r5 r6 r7 r8 r9 r10 r11 r12 r13 r14 r15 r16 r17 r18 := rfl
def bd20 {T0 T1 T2 T3 T4 T5 T6 T7 T8 T9 T10 T11 T12 T13 T14 T15 T16 T17 T18 T19 β : Type} (x : Option (T0 × T1 × T2 × T3 × T4 × T5 × T6 × T7 × T8 × T9 × T10 × T11 × T12 × T13 × T14 × T15 × T16 × T17 × T18 × T19)) (k : T0 → T1 → T2 → T3 → T4 → T5 → T6 → T7 → T8 → T9 → T10 → T11 → T12 → T13 → T14 → T15 → T16 → T17 → T18 → T19 → Option β) : Option β := Option.bind x (fun q => k q.1 q.2.1 q.2.2.1 q.2.2.2.1 q.2.2.2.2.1 q.2.2.2.2.2.1 q.2.2.2.2.2.2.1 q.2.2.2.2.2.2.2.1 q.2.2.2.2.2.2.2.2.1 q.2.2.2.2.2.2.2.2.2.1 q.2.2.2.2.2.2.2.2.2.2.1 q.2.2.2.2.2.2.2.2.2.2.2.1 q.2.2.2.2.2.2.2.2.2.2.2.2.1 q.2.2.2.2.2.2.2.2.2.2.2.2.2.1 q.2.2.2.2.2.2.2.2.2.2.2.2.2.2.1 q.2.2.2.2.2.2.2.2.2.2.2.2.2.2.2.1 q.2.2.2.2.2.2.2.2.2.2.2.2.2.2.2.2.1 q.2.2.2.2.2.2.2.2.2.2.2.2.2.2.2.2.2.1 q.2.2.2.2.2.2.2.2.2.2.2.2.2.2.2.2.2.2.1 q.2.2.2.2.2.2.2.2.2.2.2.2.2.2.2.2.2.2.2)
theorem bd20_s {T0 T1 T2 T3 T4 T5 T6 T7 T8 T9 T10 T11 T12 T13 T14 T15 T16 T17 T18 T19 β : Type} {x : Option (T0 × T1 × T2 × T3 × T4 × T5 × T6 × T7 × T8 × T9 × T10 × T11 × T12 × T13 × T14 × T15 × T16 × T17 × T18 × T19)} {k : T0 → T1 → T2 → T3 → T4 → T5 → T6 → T7 → T8 → T9 → T10 → T11 → T12 → T13 → T14 → T15 → T16 → T17 → T18 → T19 → Option β} {R : β} (h : bd20 x k = some R) : ∃ r0 r1 r2 r3 r4 r5 r6 r7 r8 r9 r10 r11 r12 r13 r14 r15 r16 r17 r18 r19, x = some (r0, r1, r2, r3, r4, r5, r6, r7, r8, r9, r10, r11, r12, r13, r14, r15, r16, r17, r18, r19) ∧ k r0 r1 r2 r3 r4 r5 r6 r7 r8 r9 r10 r11 r12 r13 r14 r15 r16 r17 r18 r19 = some R := by
  obtain ⟨q, e, h⟩ := bd_s h
  exact ⟨_, _, _, _, _, _, _, _, _, _, _, _, _, _, _, _, _, _, _, _, e, h⟩
theorem bd20_go {T0 T1 T2 T3 T4 T5 T6 T7 T8 T9 T10 T11 T12 T13 T14 T15 T16 T17 T18 T19 β : Type} {k : T0 → T1 → T2 → T3 → T4 → T5 → T6 → T7 → T8 → T9 → T10 → T11 → T12 → T13 → T14 → T15 → T16 → T17 → T18 → T19 → Option β} {r0 : T0} {r1 : T1} {r2 : T2} {r3 : T3} {r4 : T4} {r5 : T5} {r6 : T6} {r7 : T7} {r8 : T8} {r9 : T9} {r10 : T10} {r11 : T11} {r12 : T12} {r13 : T13} {r14 : T14} {r15 : T15} {r16 : T16} {r17 : T17} {r18 : T18} {r19 : T19} : bd20 (some (r0, r1, r2, r3, r4, r5, r6, r7, r8, r9, r10, r11, r12, r13, r14, r15, r16, r17, r18, r19)) k = k r0 r1 r2 r3 r4 r5 r6 r7 r8 r9 r10 r11 r12 r13 r14 r15 r16 r17 r18 r19 := rfl
theorem bd_go {α β : Type} {k : α → Option β} {r : α} : Option.bind (some r) k = k r := rfl
def cp {β : Type} (na nb : Nat) (sp dp n : Int32) (k : Option β) : Option β := if ¬ sp < 0 ∧ ¬ dp < 0 ∧ ¬ n < 0 ∧ sp.toNatClampNeg + n.toNatClampNeg ≤ na ∧ dp.toNatClampNeg + n.toNatClampNeg ≤ nb then k else none
theorem cp_s {β : Type} {na nb : Nat} {sp dp n : Int32} {k : Option β} {R : β} (h : cp na nb sp dp n k = some R) : (¬ sp < 0 ∧ ¬ dp < 0 ∧ ¬ n < 0 ∧ sp.toNatClampNeg + n.toNatClampNeg ≤ na ∧ dp.toNatClampNeg + n.toNatClampNeg ≤ nb) ∧ k = some R := by
  unfold cp at h
  by_cases q : ¬ sp < 0 ∧ ¬ dp < 0 ∧ ¬ n < 0 ∧ sp.toNatClampNeg + n.toNatClampNeg ≤ na ∧ dp.toNatClampNeg + n.toNatClampNeg ≤ nb
  · rw [if_pos q] at h; exact ⟨q, h⟩
  · rw [if_neg q] at h; cases h
theorem sl_3 {i : Int32} (h : vp_in i 4) (h0 : ¬ i = 0) (h1 : ¬ i = 1) (h2 : ¬ i = 2) : i = 3 := by
  obtain ⟨j, hj, rfl⟩ := vp_in_of h (by decide)
  match j, hj, h0, h1, h2 with
  | 0, _, h0, _, _ => exact absurd rfl h0
  | 1, _, _, h1, _ => exact absurd rfl h1
  | 2, _, _, _, h2 => exact absurd rfl h2
  | 3, _, _, _, _ => rfl
def fil {α : Type} (n : Nat) (v : α) (f : Nat → α) : Nat → α := fun j => if j < n then v else f j
/-! the machine's side -/
abbrev tyL (g : Nat → ClassId) : List (ClassId × FieldType) := [(g 0, .int), (g 1, .long), (g 2, .byte), (g 3, .object "DecisionTableCompiler$Slot")]
def nk (U : State) : Prop := va_Nw (.methodLinkNest RX1 72 yX6_quotient "DecisionTableCompiler") U ∧ va_Nw (.methodLinkNest RX1 76 yX6_remainder "DecisionTableCompiler") U ∧ va_Nw (.methodLinkNest RX4 62 yX6_quotient "DecisionTableCompiler") U ∧ va_Nw (.methodLinkNest RX4 66 yX6_remainder "DecisionTableCompiler") U
def KK (D : va_G) (g : Nat → ClassId) (U : State) : Prop := va_K D vwCl (tyL g) U ∧ nk U
theorem KK.warm {D : va_G} {g : Nat → ClassId} {s U : State} (h : KK D g s) (hW : s.WarmedH U.vm) : KK D g U := ⟨va_K.moved hW.alike h.1, va_Nw.warmM hW h.2.1, va_Nw.warmM hW h.2.2.1, va_Nw.warmM hW h.2.2.2.1, va_Nw.warmM hW h.2.2.2.2⟩
theorem KK.call {D : va_G} {g : Nat → ClassId} {U : State} {f : JFrame} {mk : MethodId} {a : Array Value} (h : KK D g U) : KK D g (U.calling f mk a) := ⟨va_K.moved (u := U) (U := U.calling f mk a) (Vm.Alike.refl U.vm) h.1, va_Nw.same rfl rfl h.2.1, va_Nw.same rfl rfl h.2.2.1, va_Nw.same rfl rfl h.2.2.2.1, va_Nw.same rfl rfl h.2.2.2.2⟩
theorem P_nil {D : va_G} {cl : List vw_C} {H : Heap} : va_P D cl [] H := fun k q h => by simp at h
theorem D_nil {A : Nat → Prop} : va_D A [] := ⟨fun i j p q h => by simp at h, fun k q h => by simp at h⟩
/-- a method that only reads: the heap stays as it is -/
abbrev CR (l : Launch) (y : MethodName) (ws : List Cond) (fr lo : Nat) (D : va_G) (g : Nat → ClassId) (av : List Value) (w : va_W) (Qc : Array Value → State → Outcome → State → Prop) : Prop :=
  Met l y ws ({ frames := fr, cells := 0, slots := 0, locals := lo }) (va_Pc av (fun U => va_P D vwCl w U.heap ∧ KK D g U)) Qc 0 0 (fun _ => False)
abbrev QRi (r : Int32) : Array Value → State → Outcome → State → Prop := vp_Si (fun x => x = r)
abbrev QRl (r : Int64) : Array Value → State → Outcome → State → Prop := vp_Sl (fun x => x = r)
/-- a method that writes: its world w becomes w' -/
abbrev CM (l : Launch) (y : MethodName) (ws : List Cond) (fr lo sz : Nat) (D : va_G) (g : Nat → ClassId) (av : List Value) (w : va_W) (Qc : Array Value → State → Outcome → State → Prop) : Prop :=
  Met l y ws ({ frames := fr, cells := 0, slots := 0, locals := lo }) (va_Pc av (fun U => U.heap.size = sz ∧ va_P D vwCl w U.heap ∧ KK D g U ∧ va_D (fun _ => True) w)) Qc 0 0 (va_A w sz)
abbrev QMi (D : va_G) (w : va_W) (sz : Nat) (w' : va_W) (r : Int32) : Array Value → State → Outcome → State → Prop := va_Qi (fun (x : Int32) (_ : Unit) => x = r) (fun _ t => va_P D vwCl w' t.heap ∧ va_D (va_A w sz) w') (va_A w sz)
abbrev QMl (D : va_G) (w : va_W) (sz : Nat) (w' : va_W) (r : Int64) : Array Value → State → Outcome → State → Prop := va_Ql (fun (x : Int64) (_ : Unit) => x = r) (fun _ t => va_P D vwCl w' t.heap ∧ va_D (va_A w sz) w') (va_A w sz)
abbrev QMv (D : va_G) (w : va_W) (sz : Nat) (w' : va_W) : Array Value → State → Outcome → State → Prop := va_Qv (fun (_ : Unit) => True) (fun _ t => va_P D vwCl w' t.heap ∧ va_D (va_A w sz) w') (va_A w sz)
section BC
variable {p : Program} {l : Launch} {e : Env} {R : Room} {s : State} {m : MethodId} {args : Array Value} {below : List Frame} {meth : Method} {c : Code} {H H0 : Heap} {locs : List Loc} {cells slots : Nat} {Q : State → Prop}
variable {pc : Nat} {ls : Array Slot} {rest st0 As : List Value} {D : va_G} {g : Nat → ClassId} {a : Array Value} {A0 A : Nat → Prop}
theorem lb_eq {cc : ByteArray} (hx : p.tables.exec = Jvm.exec) (hb : c.code = cc) {b : Bool} {off : Int} {tgt : Nat} (hdg : decode cc pc = .ok (.ifCond .eq off, 3)) (ht : (pc : Int) + off = (tgt : Int))
    (kf : b = true → W p l e R s m args below meth c H locs cells slots Q (F0 m (pc + 3) ls rest)) (kt : ¬ b = true → W p l e R s m args below meth c H locs cells slots Q (F0 m tgt ls rest)) : W p l e R s m args below meth c H locs cells slots Q (F0 m pc ls (.int (bI b) :: rest)) :=
  lv_if_eq hx hb hdg ht (fun h => kt (by rw [bI_0 h]; decide)) (fun h => kf (bI_1 h))
theorem lb_ne {cc : ByteArray} (hx : p.tables.exec = Jvm.exec) (hb : c.code = cc) {b : Bool} {off : Int} {tgt : Nat} (hdg : decode cc pc = .ok (.ifCond .ne off, 3)) (ht : (pc : Int) + off = (tgt : Int))
    (kt : b = true → W p l e R s m args below meth c H locs cells slots Q (F0 m tgt ls rest)) (kf : ¬ b = true → W p l e R s m args below meth c H locs cells slots Q (F0 m (pc + 3) ls rest)) : W p l e R s m args below meth c H locs cells slots Q (F0 m pc ls (.int (bI b) :: rest)) :=
  lv_if_ne hx hb hdg ht (fun h => kt (bI_1 h)) (fun h => kf (by rw [bI_0 h]; decide))
theorem pr_v {w : va_W} {b : Nat} {C : String} (hK : KK D g s) (hP : va_P D vwCl w H) {q0 ci : Nat} {q : vw_C} {fs : List Value} (hc : vwCl[ci]? = some q) (he : w[q0]? = some (b, .inr (ci, fs))) (hC : q.1 = C) : PreV s H C b (va_Pc (.ref b :: As) (fun U => va_P D vwCl w U.heap ∧ KK D g U)) As :=
  ⟨fun a U f mk q => ⟨q.1, q.2.1, q.2.2.call⟩, by subst hC; exact va_recv hK.1 hP hc he, fun U hU hW => ⟨rfl, by rw [hU]; exact hP, hK.warm hW⟩⟩
theorem pr_s {w : va_W} (hK : KK D g s) (hP : va_P D vwCl w H) : PreS s H (va_Pc As (fun U => va_P D vwCl w U.heap ∧ KK D g U)) As :=
  ⟨fun a U f mk q => ⟨q.1, q.2.1, q.2.2.call⟩, fun U hU hW => ⟨rfl, by rw [hU]; exact hP, hK.warm hW⟩⟩
theorem pw_v {w : va_W} {b : Nat} {C : String} (hK : KK D g s) (hP : va_P D vwCl w H) (hD : va_D A0 w) {q0 ci : Nat} {q : vw_C} {fs : List Value} (hc : vwCl[ci]? = some q) (he : w[q0]? = some (b, .inr (ci, fs))) (hC : q.1 = C) : PreV s H C b (va_Pc (.ref b :: As) (fun U => U.heap.size = H.size ∧ va_P D vwCl w U.heap ∧ KK D g U ∧ va_D (fun _ => True) w)) As :=
  ⟨fun a U f mk q => ⟨q.1, q.2.1, q.2.2.1, q.2.2.2.1.call, q.2.2.2.2⟩, by subst hC; exact va_recv hK.1 hP hc he, fun U hU hW => ⟨rfl, by rw [hU], by rw [hU]; exact hP, hK.warm hW, hD.weaken (fun _ _ _ _ => trivial)⟩⟩
theorem pw_s {w : va_W} (hK : KK D g s) (hP : va_P D vwCl w H) (hD : va_D A0 w) : PreS s H (va_Pc As (fun U => U.heap.size = H.size ∧ va_P D vwCl w U.heap ∧ KK D g U ∧ va_D (fun _ => True) w)) As :=
  ⟨fun a U f mk q => ⟨q.1, q.2.1, q.2.2.1, q.2.2.2.1.call, q.2.2.2.2⟩, fun U hU hW => ⟨rfl, by rw [hU], by rw [hU]; exact hP, hK.warm hW, hD.weaken (fun _ _ _ _ => trivial)⟩⟩
theorem cr_i {r : Int32} (hr : va_Run p l e R s m args below meth c H locs cells slots 0 0 (F0 m pc ls st0) rest (QRi r a) (fun _ => False)) (kk : W p l e R s m args below meth c H locs cells slots Q (F0 m (pc + 3) ls (.int r :: rest))) : W p l e R s m args below meth c H locs cells slots Q (F0 m pc ls st0) := by
  intro T hT X
  obtain ⟨v, st₀, t, T', L, h0, X', hL, e1, e2, ⟨r', hv, hp, hh⟩, st⟩ := hr T hT X
  cases hv
  subst hp
  have hLn : L = [] := List.eq_nil_iff_forall_not_mem.mpr (fun q hq => hL q hq)
  subst hLn
  rw [List.append_nil] at X'
  obtain ⟨t2, a1, b1⟩ := kk T' (by rw [e1, hh, h0]) X'
  exact ⟨t2, st t2 a1, b1⟩
theorem cr_l {r : Int64} (hr : va_Run p l e R s m args below meth c H locs cells slots 0 0 (F0 m pc ls st0) rest (QRl r a) (fun _ => False)) (kk : W p l e R s m args below meth c H locs cells slots Q (F0 m (pc + 3) ls (.long r :: rest))) : W p l e R s m args below meth c H locs cells slots Q (F0 m pc ls st0) := by
  intro T hT X
  obtain ⟨v, st₀, t, T', L, h0, X', hL, e1, e2, ⟨r', hv, hp, hh⟩, st⟩ := hr T hT X
  cases hv
  subst hp
  have hLn : L = [] := List.eq_nil_iff_forall_not_mem.mpr (fun q hq => hL q hq)
  subst hLn
  rw [List.append_nil] at X'
  obtain ⟨t2, a1, b1⟩ := kk T' (by rw [e1, hh, h0]) X'
  exact ⟨t2, st t2 a1, b1⟩
/-- behind a call that writes: the callee's cells are the places isC of the caller's world, the others (isR) stay -/
theorem mj {ws wc wr w1 : va_W} {H1 : Heap} (hP : va_P D vwCl ws H) (hD : va_D A0 ws) (isC isR : List Nat) (hC : isC.map (fun i => ws[i]?) = wc.map some) (hR : isR.map (fun i => ws[i]?) = wr.map some) (hn : va_nd isR = true) (hdis : ∀ i ∈ isR, i ∉ isC)
    (hk : ∀ q : Nat, q < H.size → ¬ va_A wc H.size q → H1[q]? = H[q]?) (hF : ∀ q, va_A wc H.size q → A0 q) (hP1 : va_P D vwCl w1 H1) (hD1 : va_D (va_A wc H.size) w1) : va_P D vwCl (wr ++ w1) H1 ∧ va_D A0 (wr ++ w1) := va_join hP hD isC isR hC hR hn hdis hk hF hP1 hD1
theorem cm_i {ws wc w1 : va_W} {r : Int32} {isC : List Nat} (hr : va_Run p l e R s m args below meth c H locs cells slots 0 0 (F0 m pc ls st0) rest (QMi D wc H.size w1 r a) (va_A wc H.size)) (hP : va_P D vwCl ws H) (hD : va_D A0 ws) (hS : va_S A0 H0 H locs) (hA : ∀ q, H0.size ≤ q → A0 q) (hC : isC.map (fun i => ws[i]?) = wc.map some)
    (isR : List Nat) {wr : va_W} (hR : isR.map (fun i => ws[i]?) = wr.map some) (hn : va_nd isR = true) (hdis : ∀ i ∈ isR, i ∉ isC) (isP : List Nat) {w2 : va_W} (hPm : isP.map (fun i => (wr ++ w1)[i]?) = w2.map some) (hn2 : va_nd isP = true)
    (kk : ∀ (H1 : Heap) (locs1 : List Loc), va_P D vwCl w2 H1 → va_D A0 w2 → va_S A0 H0 H1 locs1 → W p l e R s m args below meth c H1 locs1 cells slots Q (F0 m (pc + 3) ls (.int r :: rest))) : W p l e R s m args below meth c H locs cells slots Q (F0 m pc ls st0) := by
  have hFc := va_free (wc := wc) hD hS hA isC hC
  refine va_calli hr hS (fun q _ h => hFc q h) hFc (fun r2 u t H1 locs1 ht hvm hw hB hz1 hk1 hS => ?_)
  subst hw
  rw [ht] at hB
  obtain ⟨hP2, hD2⟩ := va_join hP hD isC isR hC hR hn hdis hk1 hFc hB.1 hB.2
  have hD3 := hD2.sub isP hn2 hPm
  refine kk H1 locs1 (fun k q hq => ?_) hD3 hS
  have h1 : (isP.map (fun i => (wr ++ w1)[i]?))[k]? = some (some q) := by rw [hPm, List.getElem?_map, hq]; rfl
  rw [List.getElem?_map] at h1
  cases hi : isP[k]? with
  | none => rw [hi] at h1; cases h1
  | some i => rw [hi] at h1; exact hP2 i q (Option.some.inj h1)
theorem cm_v {ws wc w1 : va_W} {isC : List Nat} (hr : va_Run p l e R s m args below meth c H locs cells slots 0 0 (F0 m pc ls st0) rest (QMv D wc H.size w1 a) (va_A wc H.size)) (hP : va_P D vwCl ws H) (hD : va_D A0 ws) (hS : va_S A0 H0 H locs) (hA : ∀ q, H0.size ≤ q → A0 q) (hC : isC.map (fun i => ws[i]?) = wc.map some)
    (isR : List Nat) {wr : va_W} (hR : isR.map (fun i => ws[i]?) = wr.map some) (hn : va_nd isR = true) (hdis : ∀ i ∈ isR, i ∉ isC) (isP : List Nat) {w2 : va_W} (hPm : isP.map (fun i => (wr ++ w1)[i]?) = w2.map some) (hn2 : va_nd isP = true)
    (kk : ∀ (H1 : Heap) (locs1 : List Loc), va_P D vwCl w2 H1 → va_D A0 w2 → va_S A0 H0 H1 locs1 → W p l e R s m args below meth c H1 locs1 cells slots Q (F0 m (pc + 3) ls rest)) : W p l e R s m args below meth c H locs cells slots Q (F0 m pc ls st0) := by
  have hFc := va_free (wc := wc) hD hS hA isC hC
  refine va_callv hr hS (fun q _ h => hFc q h) hFc (fun u t H1 locs1 ht hvm hw hB hz1 hk1 hS => ?_)
  rw [ht] at hB
  obtain ⟨hP2, hD2⟩ := va_join hP hD isC isR hC hR hn hdis hk1 hFc hB.1 hB.2
  have hD3 := hD2.sub isP hn2 hPm
  refine kk H1 locs1 (fun k q hq => ?_) hD3 hS
  have h1 : (isP.map (fun i => (wr ++ w1)[i]?))[k]? = some (some q) := by rw [hPm, List.getElem?_map, hq]; rfl
  rw [List.getElem?_map] at h1
  cases hi : isP[k]? with
  | none => rw [hi] at h1; cases h1
  | some i => rw [hi] at h1; exact hP2 i q (Option.some.inj h1)
end BC
abbrev wX0 (g : Nat → ClassId) (a : Nat → Nat) (length : Int32) (bytes : Nat → Int32) : va_W := [(a 0, .inr (0, [.int length, .ref (a 1)])), (a 1, .inl (g 2, 40, .inl bytes))]
abbrev wX1 (g : Nat → ClassId) (a : Nat → Nat) (cubes : Int32) (steps : Nat → Int32) (weights : Nat → Int32) (actions : Nat → Int32) (ranks : Nat → Int64) : va_W := [(a 0, .inr (1, [.int cubes, .ref (a 1), .ref (a 2), .ref (a 3), .ref (a 4)])), (a 1, .inl (g 0, 4, .inl steps)), (a 2, .inl (g 0, 1296, .inl weights)), (a 3, .inl (g 0, 1296, .inl actions)), (a 4, .inl (g 1, 1296, .inr (.inl ranks)))]
abbrev wX2 (g : Nat → ClassId) (a : Nat → Nat) (action : Int32) (sets : Nat → Int32) (state : Int32) (condition : Int32) : va_W := [(a 0, .inr (2, [.int action, .ref (a 1), .int state, .int condition])), (a 1, .inl (g 0, 4, .inl sets))]
abbrev wX3 (g : Nat → ClassId) (a : Nat → Nat) (used : Bool) (type : Int32) (size : Int32) (elements : Nat → Int64) : va_W := [(a 0, .inr (3, [.int (bI used), .int type, .int size, .ref (a 1)])), (a 1, .inl (g 1, 700, .inr (.inl elements)))]
abbrev wX4 (g : Nat → ClassId) (a : Nat → Nat) (conditions : Int32) (cases : Int32) (rules : Int32) (defaultAction : Int32) (sizes : Nat → Int32) (strides : Nat → Int32) (costs : Nat → Int32) (weights : Nat → Int32) (sets : Nat → Int32) (actions : Nat → Int32) (rulesWith : Nat → Int32) : va_W := [(a 0, .inr (4, [.int conditions, .int cases, .int rules, .int defaultAction, .ref (a 1), .ref (a 2), .ref (a 3), .ref (a 4), .ref (a 5), .ref (a 6), .ref (a 7)])), (a 1, .inl (g 0, 4, .inl sizes)), (a 2, .inl (g 0, 4, .inl strides)), (a 3, .inl (g 0, 4, .inl costs)), (a 4, .inl (g 0, 20, .inl weights)), (a 5, .inl (g 0, 48, .inl sets)), (a 6, .inl (g 0, 12, .inl actions)), (a 7, .inl (g 0, 20, .inl rulesWith))]
abbrev wX5 (g : Nat → ClassId) (a : Nat → Nat) (count : Int32) (worst : Int32) (expected : Int64) (classCount : Int32) (tests : Nat → Int32) (actions : Nat → Int32) (extents : Nat → Int32) (depths : Nat → Int32) (classes : Nat → Int32) (lowest : Nat → Int32) (leafClasses : Nat → Int32) : va_W := [(a 0, .inr (5, [.int count, .int worst, .long expected, .int classCount, .ref (a 1), .ref (a 2), .ref (a 3), .ref (a 4), .ref (a 5), .ref (a 6), .ref (a 7)])), (a 1, .inl (g 0, 781, .inl tests)), (a 2, .inl (g 0, 781, .inl actions)), (a 3, .inl (g 0, 781, .inl extents)), (a 4, .inl (g 0, 781, .inl depths)), (a 5, .inl (g 0, 781, .inl classes)), (a 6, .inl (g 0, 167, .inl lowest)), (a 7, .inl (g 0, 11, .inl leafClasses))]
abbrev wX7 (g : Nat → ClassId) (a : Nat → Nat) (conditions : Int32) (sizes : Nat → Int32) (weights : Nat → Int32) (costs : Nat → Int32) (rules : Int32) (sets : Nat → Int32) (acts : Nat → Int32) (standard : Int32) (isCompiled : Bool) (input : Nat → Int32) (typed : Int32) (read : Nat → Int32) (readAct : Int32) (same : Nat → Int32) (best : Nat → Int64) (nodesOf : Nat → Int32) (tests : Nat → Int32) (nodes : Int32) (condition : Nat → Int32) (act : Nat → Int32) (size : Nat → Int32) (depth : Nat → Int32) (spent : Nat → Int32) (expected : Int64) (types : Nat → Int32) (lengths : Nat → Int32) (items : Nat → Int64) (moved : Nat → Int64) (isKept : Bool) (keptConditions : Int32) (keptSizes : Nat → Int32) (keptWeights : Nat → Int32) (keptCosts : Nat → Int32) (keptRules : Int32) (keptSets : Nat → Int32) (keptActs : Nat → Int32) (keptStandard : Int32) : va_W := [(a 0, .inr (7, [.int conditions, .ref (a 1), .ref (a 2), .ref (a 3), .int rules, .ref (a 4), .ref (a 5), .int standard, .int (bI isCompiled), .ref (a 6), .int typed, .ref (a 7), .int readAct, .ref (a 8), .ref (a 9), .ref (a 10), .ref (a 11), .int nodes, .ref (a 12), .ref (a 13), .ref (a 14), .ref (a 15), .ref (a 16), .long expected, .ref (a 17), .ref (a 18), .ref (a 19), .ref (a 20), .int (bI isKept), .int keptConditions, .ref (a 21), .ref (a 22), .ref (a 23), .int keptRules, .ref (a 24), .ref (a 25), .int keptStandard])), (a 1, .inl (g 0, 4, .inl sizes)), (a 2, .inl (g 0, 20, .inl weights)), (a 3, .inl (g 0, 4, .inl costs)), (a 4, .inl (g 0, 48, .inl sets)), (a 5, .inl (g 0, 12, .inl acts)), (a 6, .inl (g 0, 40, .inl input)), (a 7, .inl (g 0, 4, .inl read)), (a 8, .inl (g 0, 1296, .inl same)), (a 9, .inl (g 1, 1296, .inr (.inl best))), (a 10, .inl (g 0, 1296, .inl nodesOf)), (a 11, .inl (g 0, 1296, .inl tests)), (a 12, .inl (g 0, 781, .inl condition)), (a 13, .inl (g 0, 781, .inl act)), (a 14, .inl (g 0, 781, .inl size)), (a 15, .inl (g 0, 781, .inl depth)), (a 16, .inl (g 0, 781, .inl spent)), (a 17, .inl (g 0, 4, .inl types)), (a 18, .inl (g 0, 4, .inl lengths)), (a 19, .inl (g 1, 2800, .inr (.inl items))), (a 20, .inl (g 1, 700, .inr (.inl moved))), (a 21, .inl (g 0, 4, .inl keptSizes)), (a 22, .inl (g 0, 20, .inl keptWeights)), (a 23, .inl (g 0, 4, .inl keptCosts)), (a 24, .inl (g 0, 48, .inl keptSets)), (a 25, .inl (g 0, 12, .inl keptActs))]
def sl4 (s0 s1 s2 s3 : Nat → Nat) : Nat → Option Nat := fun k => match k with
  | 0 => some (s0 0)
  | 1 => some (s1 0)
  | 2 => some (s2 0)
  | _ => some (s3 0)
abbrev wX6 (g : Nat → ClassId) (a t v i r p e s0 s1 s2 s3 : Nat → Nat) (hasSaved compiled : Bool) : va_W := [(a 0, .inr (6, [.ref (t 0), .ref (v 0), .ref (i 0), .ref (r 0), .ref (p 0), .ref (e 0), .ref (a 1), .int (bI hasSaved), .int (bI compiled)])), (a 1, .inl (g 3, 4, .inr (.inr (.inr (.inr (sl4 s0 s1 s2 s3))))))]
