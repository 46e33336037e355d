/-! the reference's small methods -/
set_option maxRecDepth 20000 in
theorem M_works_ok {d t p : Nat} {w : Int} {μ : Mem} {α : Al} {Q : AV → Mem → Prop} (hv : vM μ α) (hw : wf α) (ht : t < α.1 0 1) (hp : p < α.1 0 1) (h : Q (xI (sp_works α t p w)) μ) : GM (d + 2) 153 [xR 61, xI (t : Int), xI (p : Int), xI w] μ Q := by
  have hT := wf_T hw
  have h1 := wf_kind hw t ht
  have h2 := wf_keep hw p hp
  have h3 := wf_P hw
  have h4 := wf_keep hw t ht
  have h5 := wf_one hw _ h2
  refine ge_M_works ?_
  simp (disch := omega) only [iw_50, iw_k1, iw_k2, iw_k3, iw_6, wb_eq, Int.toNat_natCast, vM_kind hv, vM_word hv, vM_keep hv, vM_pow hv, vM_one hv, ii_eq, ii_0, ii_1, ii_2, ii_p]
  unfold sp_works at h
  by_cases c0 : w = ((α.1 5 t : Nat) : Int)
  · rw [if_pos c0]
    rw [if_pos c0.symm] at h
    rcases (show α.1 2 t = 0 ∨ α.1 2 t = 1 ∨ α.1 2 t = 2 ∨ α.1 2 t = 3 by omega) with e | e | e | e <;> simp only [e] at h ⊢ <;> simp at h ⊢
    · exact h
    · exact h
    · split <;> simp_all
    · split
      · simp_all
      · split <;> simp_all
  · rw [if_neg c0]
    rw [if_neg (fun e => c0 e.symm)] at h
    exact h
set_option maxRecDepth 20000 in
theorem M_isOpen_ok {d n p : Nat} {μ : Mem} {α : Al} {Q : AV → Mem → Prop} (hv : vM μ α) (hw : wf α) (hn : n < α.1 0 2) (hp : p < α.1 0 1) (h : Q (xI (if sp_open α n p then 1 else 0)) μ) : GM (d + 2) 158 [xR 61, xI (n : Int), xI (p : Int)] μ Q := by
  have hT := wf_T hw
  have hN := wf_N hw
  have h2 := wf_keep hw p hp
  have h3 := wf_P hw
  have h4 := wf_night hw n hn
  refine ge_M_isOpen ?_
  simp (disch := omega) only [iw_50, iw_k2, wb_eq, Int.toNat_natCast, vM_keep hv, vM_one hv, vM_night hv, ii_eq, ii_0, ii_1, ii_2, ii_3, ii_p, sp_bit1]
  unfold sp_open at h
  by_cases c0 : α.1 1 (α.1 4 p) = 3
  · simp [c0] at h ⊢; exact h
  · by_cases c1 : (α.1 7 n).testBit (α.1 4 p) = true
    · by_cases c2 : α.1 1 (α.1 4 p) = 1 <;> simp [c0, c1, c2] at h ⊢ <;> exact h
    · simp [c0, c1] at h ⊢; exact h
set_option maxRecDepth 20000 in
theorem M_mayBe_ok {d n a b : Nat} {μ : Mem} {α : Al} {Q : AV → Mem → Prop} (hv : vM μ α) (hw : wf α) (hn : n < α.1 0 2) (ha : a < α.1 0 1) (hb : b < α.1 0 1) (h : Q (xI (if a ≠ b ∧ sp_may α n a b = true then 1 else 0)) μ) : GM (d + 3) 157 [xR 61, xI (n : Int), xI (a : Int), xI (b : Int)] μ Q := by
  have hT := wf_T hw
  refine ge_M_mayBe ?_
  simp (disch := omega) only [iw_50, iw_k1, wb_eq, Int.toNat_natCast, vM_look hv, ii_eq]
  unfold sp_may at h
  by_cases c0 : a = b
  · simp [c0] at h ⊢; exact h
  · by_cases c1 : α.1 3 a = α.1 3 b
    · simp only [c0, c1, if_true, if_false]
      refine M_isOpen_ok hv hw hn ha ?_
      by_cases c2 : sp_open α n a = true
      · simp only [c2, if_true, gI]
        rw [if_neg (by decide)]
        refine M_isOpen_ok hv hw hn hb ?_
        by_cases c3 : sp_open α n b = true <;> simp [c0, c1, c2, c3, gI] at h ⊢ <;> exact h
      · simp [c0, c1, c2, gI] at h ⊢; exact h
    · simp [c0, c1] at h ⊢; exact h
/-! the place where a thing lies -/
def sp_first (f : Nat → Bool) : Nat → Nat
  | 0 => 0
  | n + 1 => if sp_first f n < n then sp_first f n else if f n then n else n + 1
theorem sp_first_hit {f : Nat → Bool} {n : Nat} : ∀ m, n < m → f n = true → (∀ j, j < n → f j = false) → sp_first f m = n := by
  have h0 : ∀ k, (∀ j, j < k → f j = false) → sp_first f k = k := by
    intro k
    induction k with
    | zero => intro _; rfl
    | succ k ih =>
      intro h
      rw [sp_first, ih (fun j hj => h j (by omega)), if_neg (by omega), if_neg (by rw [h k (by omega)]; decide)]
  intro m
  induction m with
  | zero => intro h; omega
  | succ m ih =>
    intro h1 h2 h3
    rw [sp_first]
    rcases Nat.lt_or_ge n m with q | q
    · rw [ih q h2 h3, if_pos q]
    · have e : n = m := by omega
      subst e
      rw [h0 n h3, if_neg (by omega), if_pos h2]
theorem sp_first_no {f : Nat → Bool} : ∀ m, (∀ j, j < m → f j = false) → sp_first f m = m := by
  intro m
  induction m with
  | zero => intro _; rfl
  | succ m ih =>
    intro h
    rw [sp_first, ih (fun j hj => h j (by omega)), if_neg (by omega), if_neg (by rw [h m (by omega)]; decide)]
def sp_at (α : Al) (t : Nat) : Nat := sp_first (fun p => α.1 9 p == t) (α.1 0 1)
theorem sp_holes : ∀ (m n : Nat) (f : Nat → Nat), (∀ i, i < n → f i < m) → (∀ i j, i < n → j < n → f i = f j → i = j) → n ≤ m := by
  intro m
  induction m with
  | zero =>
    intro n f h1 h2
    cases n with
    | zero => exact Nat.le_refl 0
    | succ n => exact absurd (h1 0 (by omega)) (by omega)
  | succ m ih =>
    intro n f h1 h2
    cases n with
    | zero => exact Nat.zero_le _
    | succ n =>
      have := ih n (fun i => if f i = m then f n else f i) (fun i hi => by
        have h3 := h1 n (by omega)
        have h4 := h1 i (by omega)
        split
        · next e => 
          have : f n ≠ m := fun e2 => by have := h2 i n (by omega) (by omega) (by omega); omega
          omega
        · omega) (fun i j hi hj e => by
        split at e
        · next ei =>
          split at e
          · next ej => exact h2 i j (by omega) (by omega) (by omega)
          · next ej => have := h2 n j (by omega) (by omega) e; omega
        · next ei =>
          split at e
          · next ej => have := h2 i n (by omega) (by omega) e; omega
          · next ej => exact h2 i j (by omega) (by omega) e)
      omega
theorem sp_onto {n : Nat} {f : Nat → Nat} (h1 : ∀ i, i < n → f i < n) (h2 : ∀ i j, i < n → j < n → f i = f j → i = j) {y : Nat} (hy : y < n) : ∃ i, i < n ∧ f i = y := by
  apply Decidable.byContradiction
  intro hc
  have hne : ∀ i, i < n → f i ≠ y := fun i hi e => hc ⟨i, hi, e⟩
  cases n with
  | zero => omega
  | succ n =>
    have := sp_holes n (n + 1) (fun i => if f i = n then y else f i) (fun i hi => by
      have := h1 i hi
      have := hne i hi
      split
      · omega
      · omega) (fun i j hi hj e => by
      have a1 := hne i hi
      have a2 := hne j hj
      split at e
      · next ei =>
        split at e
        · next ej => exact h2 i j hi hj (by omega)
        · next ej => omega
      · next ei =>
        split at e
        · next ej => omega
        · next ej => exact h2 i j hi hj e)
    omega
theorem sp_at_ok {α : Al} (hw : wf α) {t : Nat} (ht : t < α.1 0 1) : sp_at α t < α.1 0 1 ∧ α.1 9 (sp_at α t) = t ∧ ∀ p, p < α.1 0 1 → α.1 9 p = t → p = sp_at α t := by
  obtain ⟨i, hi, he⟩ := sp_onto (fun i hi => (wf_lie hw i hi).1) (wf_inj hw) ht
  have e : sp_at α t = i := sp_first_hit _ hi (by simp [he]) (fun j hj => by
    have : α.1 9 j ≠ t := fun e2 => by have := wf_inj hw j i (by omega) hi (by omega); omega
    simp [this])
  rw [e]
  exact ⟨hi, he, fun p hp h => wf_inj hw p i hp hi (by omega)⟩
set_option maxRecDepth 20000 in
theorem M_whereIs_ok {d t : Nat} {μ : Mem} {α : Al} {Q : AV → Mem → Prop} (hv : vM μ α) (hw : wf α) (ht : t < α.1 0 1) (h : Q (xI ((sp_at α t : Nat) : Int)) μ) : GM d 151 [xR 61, xI (t : Int)] μ Q := by
  have hT := wf_T hw
  obtain ⟨a1, a2, a3⟩ := sp_at_ok hw ht
  refine ge_M_whereIs ?_
  have key : ∀ n q, q + n = sp_at α t → DW d 151 2 [xR 61, xI (t : Int), xI (q : Int)] μ Q := by
    intro n
    induction n with
    | zero =>
      intro q hq
      refine sg_M_whereIs_2 ?_
      simp (disch := omega) only [vM_T hv, ii_lt, wb_eq, Int.toNat_natCast, vM_lie hv, ii_eq]
      rw [if_pos (by omega), if_pos (by rw [show q = sp_at α t by omega]; exact a2), show q = sp_at α t by omega]
      exact h
    | succ n ih =>
      intro q hq
      refine sg_M_whereIs_2 ?_
      simp (disch := omega) only [vM_T hv, ii_lt, wb_eq, Int.toNat_natCast, vM_lie hv, ii_eq, iw_k1]
      rw [if_pos (by omega), if_neg (fun e => by have := a3 q (by omega) e; omega)]
      exact ih (q + 1) (by omega)
  exact key (sp_at α t) 0 (by omega)
