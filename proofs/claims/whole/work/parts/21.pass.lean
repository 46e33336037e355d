/-! a night passes -/
def st_still (α : Al) : Al := as1 α 0 4 (α.1 0 4 + 1)
def st_swap (α : Al) (a b : Nat) : Al := (fun r i => if r = 9 then (if i = b then α.1 9 a else if i = a then α.1 9 b else α.1 9 i) else if r = 0 ∧ i = 4 then α.1 0 4 + 1 else α.1 r i, fun r i => if r = 0 ∧ i = 0 then iw (α.2 0 0 + 1) else if r = 2 ∧ (i = a ∨ i = b) then iw (α.2 2 i + 1) else α.2 r i)
def r_pass (α : Al) (a b : Int) : Int :=
  if a = -1 then (if b = -1 then (if α.1 0 4 = α.1 0 2 then -4 else ((α.1 0 4 + 1 : Nat) : Int)) else if b < 0 then -2 else if b < ((α.1 0 1 : Nat) : Int) then -3 else -2)
  else if a < 0 then -2 else if a < ((α.1 0 1 : Nat) : Int) then (if b = -1 then -3 else if b < 0 then -2 else if b < ((α.1 0 1 : Nat) : Int) then (if a = b then -3 else if α.1 0 4 = α.1 0 2 then -4 else if sp_may α (α.1 0 4) a.toNat b.toNat then ((α.1 0 4 + 1 : Nat) : Int) else -4) else -2) else -2
def t_pass (α : Al) (a b : Int) : Al :=
  if a = -1 then (if b = -1 then (if α.1 0 4 = α.1 0 2 then α else st_still α) else α)
  else if a < 0 then α else if a < ((α.1 0 1 : Nat) : Int) then (if b < 0 then α else if b < ((α.1 0 1 : Nat) : Int) then (if a = b then α else if α.1 0 4 = α.1 0 2 then α else if sp_may α (α.1 0 4) a.toNat b.toNat then st_swap α a.toNat b.toNat else α) else α) else α
theorem st_swap_9 (α : Al) (a b i : Nat) : (st_swap α a b).1 9 i = if i = b then α.1 9 a else if i = a then α.1 9 b else α.1 9 i := rfl
theorem st_swap_c (α : Al) (a b i : Nat) : (st_swap α a b).2 2 i = if i = a ∨ i = b then iw (α.2 2 i + 1) else α.2 2 i := by
  show (if 2 = 0 ∧ i = 0 then iw (α.2 0 0 + 1) else if 2 = 2 ∧ (i = a ∨ i = b) then iw (α.2 2 i + 1) else α.2 2 i) = _
  rw [if_neg (fun e => by cases e.1)]
  by_cases c : i = a ∨ i = b
  · rw [if_pos ⟨rfl, c⟩, if_pos c]
  · rw [if_neg (fun e => c e.2), if_neg c]
theorem wf_still {α : Al} (hw : wf α) (h : α.1 0 4 ≠ α.1 0 2) : wf (st_still α) := ⟨(@wf_P α hw), (@wf_T α hw), (@wf_N α hw), (@wf_B α hw), (Nat.lt_of_le_of_ne (wf_Ps hw) h), (@wf_Kn α hw), (@wf_S α hw), (@wf_one α hw), (@wf_kind α hw), (@wf_look α hw), (@wf_keep α hw), (@wf_word α hw), (@wf_pow0 α hw), (@wf_night α hw), (@wf_text α hw), (@wf_lie α hw), (@wf_inj α hw), (@wf_pow α hw), (@wf_sp α hw), (@wf_sw α hw), (@wf_sv α hw), (@wf_kf α hw), (@wf_kS0 α hw), (@wf_kL0 α hw), (@wf_kI0 α hw), (@wf_kS1 α hw), (@wf_kL1 α hw), (@wf_kI1 α hw)⟩
theorem wf_swap {α : Al} (hw : wf α) {a b : Nat} (h : α.1 0 4 ≠ α.1 0 2) (ha : a < α.1 0 1) (hb : b < α.1 0 1) (hl : α.1 3 a = α.1 3 b) : wf (st_swap α a b) := by
  have lieE : ∀ i : Nat, i < α.1 0 1 → (st_swap α a b).1 9 i < α.1 0 1 ∧ α.1 3 ((st_swap α a b).1 9 i) = α.1 3 i := by
    intro i hi
    rw [st_swap_9]
    split
    · next e => subst e; exact ⟨(wf_lie hw a ha).1, by rw [(wf_lie hw a ha).2, hl]⟩
    · split
      · next e => subst e; exact ⟨(wf_lie hw b hb).1, by rw [(wf_lie hw b hb).2, hl]⟩
      · exact wf_lie hw i hi
  have injE : ∀ i j : Nat, i < α.1 0 1 → j < α.1 0 1 → (st_swap α a b).1 9 i = (st_swap α a b).1 9 j → i = j := by
    intro i j hi hj e
    have I := wf_inj hw
    rw [st_swap_9, st_swap_9] at e
    split at e
    · next e1 =>
      split at e
      · omega
      · split at e
        · next e2 => have := I a b ha hb e; omega
        · next e3 e2 => have := I a j ha hj e; omega
    · next n1 =>
      split at e
      · next e1 =>
        split at e
        · next e2 => have := I b a hb ha e; omega
        · split at e
          · omega
          · have := I b j hb hj e; omega
      · next n2 =>
        split at e
        · next e2 => have := I i a hi ha e; omega
        · split at e
          · next e2 => have := I i b hi hb e; omega
          · exact I i j hi hj e
  exact ⟨(@wf_P α hw), (@wf_T α hw), (@wf_N α hw), (@wf_B α hw), (Nat.lt_of_le_of_ne (wf_Ps hw) h), (@wf_Kn α hw), (@wf_S α hw), (@wf_one α hw), (@wf_kind α hw), (@wf_look α hw), (@wf_keep α hw), (@wf_word α hw), (@wf_pow0 α hw), (@wf_night α hw), (@wf_text α hw), lieE, injE, (@wf_pow α hw), (@wf_sp α hw), (@wf_sw α hw), (@wf_sv α hw), (@wf_kf α hw), (@wf_kS0 α hw), (@wf_kL0 α hw), (@wf_kI0 α hw), (@wf_kS1 α hw), (@wf_kL1 α hw), (@wf_kI1 α hw)⟩
theorem vX_still {μ : Mem} {α : Al} (hv : vX μ α) : vX (xset μ 3 1 ((α.1 0 4 + 1 : Nat) : Int)) (st_still α) := ⟨(@vX_P μ α hv), (@vX_T μ α hv), (@vX_N μ α hv), (@vX_B μ α hv), rfl, (@vX_Kn μ α hv), (@vX_S μ α hv), (@vX_one μ α hv), (@vX_kind μ α hv), (@vX_look μ α hv), (@vX_keep μ α hv), (@vX_word μ α hv), (@vX_pow0 μ α hv), (@vX_night μ α hv), (@vX_text μ α hv), (@vX_lie μ α hv), (@vX_pow μ α hv), (@vX_sp μ α hv), (@vX_sw μ α hv), (@vX_sv μ α hv), (@vX_Ch μ α hv), (@vX_wk μ α hv), (@vX_ca μ α hv), (@vX_kf μ α hv), (@vX_kP0 μ α hv), (@vX_kA0 μ α hv), (@vX_kP1 μ α hv), (@vX_kA1 μ α hv)⟩
theorem vM_still {μ : Mem} {α : Al} (hv : vM μ α) (hw : wf α) : vM (xset μ 67 24 ((α.1 0 4 + 1 : Nat) : Int)) (st_still α) := by
  have hT := wf_T hw
  have e : ∀ j, j ≠ 24 → (xset μ 67 24 ((α.1 0 4 + 1 : Nat) : Int)) 67 j = μ 67 j := fun j hj => xs_j hj
  exact ⟨(@vM_P μ α hv), (@vM_T μ α hv), (@vM_N μ α hv), (@vM_B μ α hv), rfl, (@vM_Kn μ α hv), (@vM_S μ α hv), (@vM_one μ α hv), (@vM_kind μ α hv), (@vM_look μ α hv), (@vM_keep μ α hv), (@vM_word μ α hv), (@vM_pow0 μ α hv), (@vM_night μ α hv), (@vM_text μ α hv), (fun i hi => (e i (by have : i < α.1 0 1 := hi; omega)).trans (vM_lie hv i hi)), (fun i hi => (e (6 + i) (by have : i < α.1 0 1 := hi; omega)).trans (vM_pow hv i hi)), (@vM_sp μ α hv), (@vM_sw μ α hv), (@vM_sv μ α hv), (@vM_Ch μ α hv), (fun i hi => (e (12 + i) (by have : i < α.1 0 1 := hi; omega)).trans (vM_wk hv i hi)), (fun i hi => (e (18 + i) (by have : i < α.1 0 1 := hi; omega)).trans (vM_ca hv i hi)), (@vM_kf μ α hv), (@vM_kP0 μ α hv), (@vM_kA0 μ α hv), (@vM_kP1 μ α hv), (@vM_kA1 μ α hv)⟩
theorem vM_swap {μ : Mem} {α : Al} {a b : Nat} (hv : vM μ α) (hw : wf α) (ha : a < α.1 0 1) (hb : b < α.1 0 1) (hab : a ≠ b) : vM (xset (xset (xset (xset (xset (xset μ 67 24 ((α.1 0 4 + 1 : Nat) : Int)) 67 a ((α.1 9 b : Nat) : Int)) 67 b ((α.1 9 a : Nat) : Int)) 67 25 (iw (α.2 0 0 + 1))) 67 (18 + a) (iw (α.2 2 a + 1))) 67 (18 + b) (iw (α.2 2 b + 1))) (st_swap α a b) := by
  have hT := wf_T hw
  have e : ∀ j, (xset (xset (xset (xset (xset (xset μ 67 24 ((α.1 0 4 + 1 : Nat) : Int)) 67 a ((α.1 9 b : Nat) : Int)) 67 b ((α.1 9 a : Nat) : Int)) 67 25 (iw (α.2 0 0 + 1))) 67 (18 + a) (iw (α.2 2 a + 1))) 67 (18 + b) (iw (α.2 2 b + 1))) 67 j = if j = 18 + b then iw (α.2 2 b + 1) else if j = 18 + a then iw (α.2 2 a + 1) else if j = 25 then iw (α.2 0 0 + 1) else if j = b then ((α.1 9 a : Nat) : Int) else if j = a then ((α.1 9 b : Nat) : Int) else if j = 24 then ((α.1 0 4 + 1 : Nat) : Int) else μ 67 j := by
    intro j
    simp only [xs_if, true_and]
  have e2 : ∀ j, j ≠ 18 + b → j ≠ 18 + a → j ≠ 25 → j ≠ b → j ≠ a → j ≠ 24 → (xset (xset (xset (xset (xset (xset μ 67 24 ((α.1 0 4 + 1 : Nat) : Int)) 67 a ((α.1 9 b : Nat) : Int)) 67 b ((α.1 9 a : Nat) : Int)) 67 25 (iw (α.2 0 0 + 1))) 67 (18 + a) (iw (α.2 2 a + 1))) 67 (18 + b) (iw (α.2 2 b + 1))) 67 j = μ 67 j := by
    intro j h1 h2 h3 h4 h5 h6
    rw [e, if_neg h1, if_neg h2, if_neg h3, if_neg h4, if_neg h5, if_neg h6]
  have lieE : ∀ i : Nat, i < α.1 0 1 → (xset (xset (xset (xset (xset (xset μ 67 24 ((α.1 0 4 + 1 : Nat) : Int)) 67 a ((α.1 9 b : Nat) : Int)) 67 b ((α.1 9 a : Nat) : Int)) 67 25 (iw (α.2 0 0 + 1))) 67 (18 + a) (iw (α.2 2 a + 1))) 67 (18 + b) (iw (α.2 2 b + 1))) 67 i = (((st_swap α a b).1 9 i : Nat) : Int) := by
    intro i hi
    rw [e, if_neg (by omega), if_neg (by omega), if_neg (by omega), st_swap_9]
    by_cases c : i = b
    · rw [if_pos c, if_pos c]
    · rw [if_neg c, if_neg c]
      by_cases c2 : i = a
      · rw [if_pos c2, if_pos c2]
      · rw [if_neg c2, if_neg c2, if_neg (by omega)]; exact vM_lie hv i hi
  have caE : ∀ i : Nat, i < α.1 0 1 → (xset (xset (xset (xset (xset (xset μ 67 24 ((α.1 0 4 + 1 : Nat) : Int)) 67 a ((α.1 9 b : Nat) : Int)) 67 b ((α.1 9 a : Nat) : Int)) 67 25 (iw (α.2 0 0 + 1))) 67 (18 + a) (iw (α.2 2 a + 1))) 67 (18 + b) (iw (α.2 2 b + 1))) 67 (18 + i) = (st_swap α a b).2 2 i := by
    intro i hi
    rw [e, st_swap_c]
    by_cases c : i = b
    · rw [if_pos (by omega), if_pos (Or.inr c), c]
    · rw [if_neg (by omega)]
      by_cases c2 : i = a
      · rw [if_pos (by omega), if_pos (Or.inl c2), c2]
      · rw [if_neg (by omega), if_neg (by omega), if_neg (by omega), if_neg (by omega), if_neg (by omega), if_neg (by omega)]; exact vM_ca hv i hi
  have psE : (xset (xset (xset (xset (xset (xset μ 67 24 ((α.1 0 4 + 1 : Nat) : Int)) 67 a ((α.1 9 b : Nat) : Int)) 67 b ((α.1 9 a : Nat) : Int)) 67 25 (iw (α.2 0 0 + 1))) 67 (18 + a) (iw (α.2 2 a + 1))) 67 (18 + b) (iw (α.2 2 b + 1))) 67 24 = (((st_swap α a b).1 0 4 : Nat) : Int) := by
    rw [e, if_neg (by omega), if_neg (by omega), if_neg (by omega), if_neg (by omega), if_neg (by omega), if_pos rfl]; rfl
  have chE : (xset (xset (xset (xset (xset (xset μ 67 24 ((α.1 0 4 + 1 : Nat) : Int)) 67 a ((α.1 9 b : Nat) : Int)) 67 b ((α.1 9 a : Nat) : Int)) 67 25 (iw (α.2 0 0 + 1))) 67 (18 + a) (iw (α.2 2 a + 1))) 67 (18 + b) (iw (α.2 2 b + 1))) 67 25 = (st_swap α a b).2 0 0 := by
    rw [e, if_neg (by omega), if_neg (by omega), if_pos rfl]; rfl
  exact ⟨(@vM_P μ α hv), (@vM_T μ α hv), (@vM_N μ α hv), (@vM_B μ α hv), psE, ((e2 26 (by omega) (by omega) (by omega) (by omega) (by omega) (by omega)).trans (@vM_Kn μ α hv)), (@vM_S μ α hv), (@vM_one μ α hv), (@vM_kind μ α hv), (@vM_look μ α hv), (@vM_keep μ α hv), (@vM_word μ α hv), (@vM_pow0 μ α hv), (@vM_night μ α hv), (@vM_text μ α hv), lieE, (fun i hi => (e2 (6 + i) (by have : i < α.1 0 1 := hi; omega) (by have : i < α.1 0 1 := hi; omega) (by have : i < α.1 0 1 := hi; omega) (by have : i < α.1 0 1 := hi; omega) (by have : i < α.1 0 1 := hi; omega) (by have : i < α.1 0 1 := hi; omega)).trans (vM_pow hv i hi)), (@vM_sp μ α hv), (@vM_sw μ α hv), (@vM_sv μ α hv), chE, (fun i hi => (e2 (12 + i) (by have : i < α.1 0 1 := hi; omega) (by have : i < α.1 0 1 := hi; omega) (by have : i < α.1 0 1 := hi; omega) (by have : i < α.1 0 1 := hi; omega) (by have : i < α.1 0 1 := hi; omega) (by have : i < α.1 0 1 := hi; omega)).trans (vM_wk hv i hi)), caE, (@vM_kf μ α hv), (@vM_kP0 μ α hv), (@vM_kA0 μ α hv), (@vM_kP1 μ α hv), (@vM_kA1 μ α hv)⟩
theorem vX_swap {μ : Mem} {α : Al} {a b : Nat} (hv : vX μ α) (hab : a ≠ b) : vX (xset (xset (xset (xset (xset (xset μ 23 a ((α.1 9 b : Nat) : Int)) 23 b ((α.1 9 a : Nat) : Int)) 24 a (iw (α.2 2 a + 1))) 24 b (iw (α.2 2 b + 1))) 3 2 (iw (α.2 0 0 + 1))) 3 1 ((α.1 0 4 + 1 : Nat) : Int)) (st_swap α a b) := by
  have lieE : ∀ i : Nat, i < α.1 0 1 → (xset (xset (xset (xset (xset (xset μ 23 a ((α.1 9 b : Nat) : Int)) 23 b ((α.1 9 a : Nat) : Int)) 24 a (iw (α.2 2 a + 1))) 24 b (iw (α.2 2 b + 1))) 3 2 (iw (α.2 0 0 + 1))) 3 1 ((α.1 0 4 + 1 : Nat) : Int)) 23 i = (((st_swap α a b).1 9 i : Nat) : Int) := by
    intro i hi
    rw [xs_c (by decide), xs_c (by decide), xs_c (by decide), xs_c (by decide), xs_if, xs_if, st_swap_9]
    by_cases c : i = b
    · rw [if_pos ⟨rfl, c⟩, if_pos c]
    · rw [if_neg (fun w => c w.2), if_neg c]
      by_cases c2 : i = a
      · rw [if_pos ⟨rfl, c2⟩, if_pos c2]
      · rw [if_neg (fun w => c2 w.2), if_neg c2]; exact vX_lie hv i hi
  have caE : ∀ i : Nat, i < α.1 0 1 → (xset (xset (xset (xset (xset (xset μ 23 a ((α.1 9 b : Nat) : Int)) 23 b ((α.1 9 a : Nat) : Int)) 24 a (iw (α.2 2 a + 1))) 24 b (iw (α.2 2 b + 1))) 3 2 (iw (α.2 0 0 + 1))) 3 1 ((α.1 0 4 + 1 : Nat) : Int)) 24 i = (st_swap α a b).2 2 i := by
    intro i hi
    rw [xs_c (by decide), xs_c (by decide), xs_if, xs_if, st_swap_c]
    by_cases c : i = b
    · rw [if_pos ⟨rfl, c⟩, if_pos (Or.inr c), c]
    · rw [if_neg (fun w => c w.2)]
      by_cases c2 : i = a
      · rw [if_pos ⟨rfl, c2⟩, if_pos (Or.inl c2), c2]
      · rw [if_neg (fun w => c2 w.2), if_neg (by omega), xs_c (by decide), xs_c (by decide)]; exact vX_ca hv i hi
  exact ⟨(@vX_P μ α hv), (@vX_T μ α hv), (@vX_N μ α hv), (@vX_B μ α hv), rfl, (@vX_Kn μ α hv), (@vX_S μ α hv), (@vX_one μ α hv), (@vX_kind μ α hv), (@vX_look μ α hv), (@vX_keep μ α hv), (@vX_word μ α hv), (@vX_pow0 μ α hv), (@vX_night μ α hv), (@vX_text μ α hv), lieE, (@vX_pow μ α hv), (@vX_sp μ α hv), (@vX_sw μ α hv), (@vX_sv μ α hv), rfl, (@vX_wk μ α hv), caE, (@vX_kf μ α hv), (@vX_kP0 μ α hv), (@vX_kA0 μ α hv), (@vX_kP1 μ α hv), (@vX_kA1 μ α hv)⟩
theorem wf_tp {α : Al} (hw : wf α) (a b : Int) : wf (t_pass α a b) := by
  unfold t_pass
  split
  · split
    · split
      · exact hw
      · exact wf_still hw (by assumption)
    · exact hw
  split
  · exact hw
  split
  · split
    · exact hw
    split
    · split
      · exact hw
      split
      · exact hw
      split
      · next hm =>
        unfold sp_may at hm
        simp only [Bool.and_eq_true, beq_iff_eq] at hm
        exact wf_swap hw (by assumption) (by omega) (by omega) hm.1.1
      · exact hw
    · exact hw
  · exact hw
set_option maxRecDepth 20000 in
theorem M_pass_ok {d : Nat} {a b : Int} {μ : Mem} {α : Al} {Q : AV → Mem → Prop} (hv : vM μ α) (hw : wf α) (h : ∀ μ', vM μ' (t_pass α a b) → Q (xI (r_pass α a b)) μ') : GM (d + 4) 159 [xR 61, xI a, xI b] μ Q := by
  have hT := wf_T hw
  have hN := wf_N hw
  have hPs := wf_Ps hw
  refine ge_M_pass ?_
  unfold r_pass t_pass at h
  rw [vM_T hv, iw_m1 (by omega)]
  by_cases a1 : a = -1
  · rw [if_pos a1, if_pos a1] at h
    by_cases b1 : b = -1
    · rw [if_pos b1, if_pos b1] at h
      simp only [if_pos a1, if_pos b1]
      refine sg_M_pass_26 ?_
      rw [if_neg (by decide)]
      refine sg_M_pass_40 ?_
      rw [vM_Ps hv, vM_N hv]
      refine wi (fun c => ?_) (fun c => ?_)
      · have c' : α.1 0 4 = α.1 0 2 := by omega
        rw [if_pos c', if_pos c'] at h; exact h μ hv
      have c' : ¬ α.1 0 4 = α.1 0 2 := by omega
      rw [if_neg c', if_neg c'] at h
      rw [if_neg (by decide)]
      refine sg_M_pass_61 ?_
      rw [if_neg (by decide), vM_Ps hv, iw_k1 (by omega)]
      refine sg_M_pass_118 ?_
      rw [xs_s]
      exact h _ (vM_still hv hw)
    · rw [if_neg b1, if_neg b1] at h
      simp only [if_pos a1, if_neg b1]
      refine wi (fun c => ?_) (fun c => ?_)
      · rw [if_pos c] at h; exact h μ hv
      rw [if_neg c] at h
      refine wi (fun c2 => ?_) (fun c2 => ?_)
      · rw [if_neg (by omega)] at h; exact h μ hv
      rw [if_pos (by omega)] at h
      refine sg_M_pass_26 ?_
      rw [if_pos rfl, if_neg (by omega), if_pos a1]
      exact h μ hv
  · rw [if_neg a1, if_neg a1] at h
    simp only [if_neg a1]
    refine wi (fun c => ?_) (fun c => ?_)
    · rw [if_pos c, if_pos c] at h; exact h μ hv
    rw [if_neg c, if_neg c] at h
    refine wi (fun c2 => ?_) (fun c2 => ?_)
    · have c2' : ¬ a < ((α.1 0 1 : Nat) : Int) := by omega
      rw [if_neg c2', if_neg c2'] at h; exact h μ hv
    have c2' : a < ((α.1 0 1 : Nat) : Int) := by omega
    rw [if_pos c2', if_pos c2'] at h
    by_cases b1 : b = -1
    · rw [if_pos b1] at h
      have b0 : b < 0 := by omega
      rw [if_pos b0] at h
      simp only [if_pos b1]
      refine sg_M_pass_26 ?_
      rw [if_pos rfl, if_neg (by omega), if_neg a1, if_pos b1]
      exact h μ hv
    · rw [if_neg b1] at h
      simp only [if_neg b1]
      refine wi (fun c3 => ?_) (fun c3 => ?_)
      · rw [if_pos c3, if_pos c3] at h; exact h μ hv
      rw [if_neg c3, if_neg c3] at h
      refine wi (fun c4 => ?_) (fun c4 => ?_)
      · have c4' : ¬ b < ((α.1 0 1 : Nat) : Int) := by omega
        rw [if_neg c4', if_neg c4'] at h; exact h μ hv
      have c4' : b < ((α.1 0 1 : Nat) : Int) := by omega
      rw [if_pos c4', if_pos c4'] at h
      refine sg_M_pass_26 ?_
      rw [if_pos rfl]
      refine wi (fun ab => ?_) (fun ab => ?_)
      · rw [if_pos ab, if_pos ab] at h; exact h μ hv
      rw [if_neg ab, if_neg ab] at h
      rw [if_neg a1, if_neg b1]
      obtain ⟨a, rfl⟩ := Int.eq_ofNat_of_zero_le (show 0 ≤ a by omega)
      obtain ⟨b, rfl⟩ := Int.eq_ofNat_of_zero_le (show 0 ≤ b by omega)
      simp only [Int.toNat_natCast] at h
      have ha : a < α.1 0 1 := by omega
      have hb : b < α.1 0 1 := by omega
      have hab : a ≠ b := fun e => ab (by rw [e])
      refine sg_M_pass_40 ?_
      rw [vM_Ps hv, vM_N hv]
      refine wi (fun c5 => ?_) (fun c5 => ?_)
      · have c' : α.1 0 4 = α.1 0 2 := by omega
        rw [if_pos c', if_pos c'] at h; exact h μ hv
      have c' : ¬ α.1 0 4 = α.1 0 2 := by omega
      rw [if_neg c', if_neg c'] at h
      rw [if_pos rfl]
      refine M_mayBe_ok hv hw (by omega) ha hb ?_
      refine gI_mk ?_
      by_cases cm : sp_may α (α.1 0 4) a b = true
      · rw [if_pos cm, if_pos cm] at h
        have e : (if a ≠ b ∧ sp_may α (α.1 0 4) a b = true then (1 : Int) else 0) = 1 := if_pos ⟨hab, cm⟩
        rw [e, if_neg (by decide)]
        refine sg_M_pass_61 ?_
        rw [if_pos rfl]
        simp (disch := omega) only [iw_18, Int.toNat_natCast, wb_eq, xs_s, xs_j, vM_Ps hv, vM_lie hv, vM_Ch hv, vM_ca hv, iw_k1]
        refine sg_M_pass_118 ?_
        have hv' := vM_swap hv hw ha hb hab
        have e := vM_Ps hv'
        rw [e]
        exact h _ hv'
      · rw [if_neg cm, if_neg cm] at h
        have e : (if a ≠ b ∧ sp_may α (α.1 0 4) a b = true then (1 : Int) else 0) = 0 := if_neg (fun e => cm e.2)
        rw [e, if_pos rfl]
        exact h μ hv
set_option maxRecDepth 20000 in
theorem X_change_ok {d a b : Nat} {μ : Mem} {α : Al} {Q : AV → Mem → Prop} (hv : vX μ α) (hw : wf α) (ha : a < α.1 0 1) (hb : b < α.1 0 1) (hab : a ≠ b) (h : Q (xI 0) (xset (xset (xset (xset (xset μ 23 a ((α.1 9 b : Nat) : Int)) 23 b ((α.1 9 a : Nat) : Int)) 24 a (iw (α.2 2 a + 1))) 24 b (iw (α.2 2 b + 1))) 3 2 (iw (α.2 0 0 + 1)))) : GM d 60 [xR 3, xI (a : Int), xI (b : Int)] μ Q := by
  have hT := wf_T hw
  refine ge_Now_change ?_
  have hab' : b ≠ a := fun e => hab e.symm
  have e24 : ∀ (ν : Mem) (x : Int), xset ν 24 a x 24 b = ν 24 b := fun ν x => xs_j hab'
  have e1 : ∀ (ν : Mem) (x y : Int), xset (xset ν 23 a x) 23 b y 24 b = ν 24 b := fun ν x y => by rw [xs_c (by decide), xs_c (by decide)]
  simp (disch := omega) only [Int.toNat_natCast, wb_eq, e24, e1, vX_lie hv, vX_Ch hv, vX_ca hv]
  exact h
set_option maxRecDepth 20000 in
theorem X_pass_ok {d : Nat} {a b : Int} {μ : Mem} {α : Al} {Q : AV → Mem → Prop} (hv : vX μ α) (hw : wf α) (h : ∀ μ', (∀ c j, c ≠ 3 → c ≠ 23 → c ≠ 24 → μ' c j = μ c j) → vX μ' (t_pass α a b) → Q (xI (r_pass α a b)) μ') : GM (d + 3) 59 [xR 0, xI a, xI b] μ Q := by
  have hT := wf_T hw
  have hN := wf_N hw
  have hPs := wf_Ps hw
  have rf : ∀ c j, c ≠ 3 → c ≠ 23 → c ≠ 24 → μ c j = μ c j := fun _ _ _ _ _ => rfl
  refine ge_X_pass ?_
  unfold r_pass t_pass at h
  rw [vX_T hv]
  by_cases a1 : a = -1
  · rw [if_pos a1, if_pos a1] at h
    by_cases b1 : b = -1
    · rw [if_pos b1, if_pos b1] at h
      simp only [if_pos a1, if_pos b1]
      refine sg_X_pass_28 ?_
      rw [if_neg (by decide)]
      refine sg_X_pass_42 ?_
      rw [vX_Ps hv, vX_N hv]
      refine wi (fun c => ?_) (fun c => ?_)
      · have c' : ¬ α.1 0 4 = α.1 0 2 := by omega
        rw [if_neg c', if_neg c'] at h
        refine sg_X_pass_52 ?_
        rw [if_neg (by decide)]
        refine sg_X_pass_71 ?_
        rw [vX_Ps hv, iw_k1 (by omega)]
        exact h _ (fun c j h3 _ _ => xs_c h3) (vX_still hv)
      · have c' : α.1 0 4 = α.1 0 2 := by omega
        rw [if_pos c', if_pos c'] at h; exact h μ rf hv
    · rw [if_neg b1, if_neg b1] at h
      simp only [if_pos a1, if_neg b1]
      refine wi (fun c => ?_) (fun c => ?_)
      · rw [if_pos c] at h; exact h μ rf hv
      rw [if_neg c] at h
      refine wi (fun c2 => ?_) (fun c2 => ?_)
      · rw [if_pos c2] at h
        refine sg_X_pass_28 ?_
        rw [if_pos rfl, if_neg (by omega), if_pos a1]
        exact h μ rf hv
      · rw [if_neg c2] at h; exact h μ rf hv
  · rw [if_neg a1, if_neg a1] at h
    simp only [if_neg a1]
    refine wi (fun c => ?_) (fun c => ?_)
    · rw [if_pos c, if_pos c] at h; exact h μ rf hv
    rw [if_neg c, if_neg c] at h
    refine wi (fun c2 => ?_) (fun c2 => ?_)
    · rw [if_pos c2, if_pos c2] at h
      by_cases b1 : b = -1
      · rw [if_pos b1] at h
        have b0 : b < 0 := by omega
        rw [if_pos b0] at h
        simp only [if_pos b1]
        refine sg_X_pass_28 ?_
        rw [if_pos rfl, if_neg (by omega), if_neg a1, if_pos b1]
        exact h μ rf hv
      · rw [if_neg b1] at h
        simp only [if_neg b1]
        refine wi (fun c3 => ?_) (fun c3 => ?_)
        · rw [if_pos c3, if_pos c3] at h; exact h μ rf hv
        rw [if_neg c3, if_neg c3] at h
        refine wi (fun c4 => ?_) (fun c4 => ?_)
        · rw [if_pos c4, if_pos c4] at h
          refine sg_X_pass_28 ?_
          rw [if_pos rfl]
          refine wi (fun ab => ?_) (fun ab => ?_)
          · rw [if_pos ab, if_pos ab] at h; exact h μ rf hv
          rw [if_neg ab, if_neg ab] at h
          rw [if_neg a1, if_neg b1]
          obtain ⟨a, rfl⟩ := Int.eq_ofNat_of_zero_le (show 0 ≤ a by omega)
          obtain ⟨b, rfl⟩ := Int.eq_ofNat_of_zero_le (show 0 ≤ b by omega)
          simp only [Int.toNat_natCast] at h
          have ha : a < α.1 0 1 := by omega
          have hb : b < α.1 0 1 := by omega
          have hab : a ≠ b := fun e => ab (by rw [e])
          refine sg_X_pass_42 ?_
          rw [vX_Ps hv, vX_N hv]
          refine wi (fun c5 => ?_) (fun c5 => ?_)
          · have c' : ¬ α.1 0 4 = α.1 0 2 := by omega
            rw [if_neg c', if_neg c'] at h
            refine sg_X_pass_52 ?_
            rw [if_pos rfl, vX_Ps hv]
            refine X_allows_ok hv hw (by omega) ha hb ?_
            refine gI_mk ?_
            by_cases cm : sp_may α (α.1 0 4) a b = true
            · rw [if_pos cm, if_pos cm] at h
              rw [if_pos cm, if_neg (by decide)]
              refine X_change_ok hv hw ha hb hab ?_
              refine gV_mk ?_
              refine sg_X_pass_71 ?_
              have e : ∀ (x : Int) (ν : Mem), xset ν 3 2 x 3 1 = ν 3 1 := fun x ν => xs_j (by decide)
              rw [e, xs_c (by decide), xs_c (by decide), xs_c (by decide), xs_c (by decide), vX_Ps hv, iw_k1 (by omega)]
              exact h _ (fun c j h3 h23 h24 => by rw [xs_c h3, xs_c h3, xs_c h24, xs_c h24, xs_c h23, xs_c h23]) (vX_swap hv hab)
            · rw [if_neg cm, if_neg cm] at h
              rw [if_neg cm, if_pos rfl]
              exact h μ rf hv
          · have c' : α.1 0 4 = α.1 0 2 := by omega
            rw [if_pos c', if_pos c'] at h; exact h μ rf hv
        · rw [if_neg c4, if_neg c4] at h; exact h μ rf hv
    · rw [if_neg c2, if_neg c2] at h; exact h μ rf hv

