/-! the reference's small methods -/
set_option maxRecDepth 20000 in
theorem M_works_ok {d t p : Nat} {w : Int} {μ : Mem} {α : Al} {Q : AV → Mem → Prop} (hv : vM μ α) (hw : wf α) (ht : t < α.1 0 1) (hp : p < α.1 0 1) (h : Q (xI (sp_works α t p w)) μ) : GM (d + 2) 153 [xR 61, xI (t : Int), xI (p : Int), xI w] μ Q := by
  have hT := wf_T hw
  have h1 := wf_kind hw t ht
  have h2 := wf_keep hw p hp
  have h3 := wf_P hw
  have h4 := wf_keep hw t ht
  have h5 := wf_one hw _ h2
  refine ge_M_works ?_
  simp (disch := omega) only [iw_50, iw_k1, iw_k2, iw_k3, iw_6, wb_eq, Int.toNat_natCast, vM_kind hv, vM_word hv, vM_keep hv, vM_pow hv, vM_one hv, ii_eq, ii_0, ii_1, ii_2, ii_p]
  unfold sp_works at h
  by_cases c0 : w = ((α.1 5 t : Nat) : Int)
  · rw [if_pos c0]
    rw [if_pos c0.symm] at h
    rcases (show α.1 2 t = 0 ∨ α.1 2 t = 1 ∨ α.1 2 t = 2 ∨ α.1 2 t = 3 by omega) with e | e | e | e <;> simp only [e] at h ⊢ <;> simp at h ⊢
    · exact h
    · exact h
    · split <;> simp_all
    · split
      · simp_all
      · split <;> simp_all
  · rw [if_neg c0]
    rw [if_neg (fun e => c0 e.symm)] at h
    exact h
set_option maxRecDepth 20000 in
theorem M_isOpen_ok {d n p : Nat} {μ : Mem} {α : Al} {Q : AV → Mem → Prop} (hv : vM μ α) (hw : wf α) (hn : n < α.1 0 2) (hp : p < α.1 0 1) (h : Q (xI (if sp_open α n p then 1 else 0)) μ) : GM (d + 2) 158 [xR 61, xI (n : Int), xI (p : Int)] μ Q := by
  have hT := wf_T hw
  have hN := wf_N hw
  have h2 := wf_keep hw p hp
  have h3 := wf_P hw
  have h4 := wf_night hw n hn
  refine ge_M_isOpen ?_
  simp (disch := omega) only [iw_50, iw_k2, wb_eq, Int.toNat_natCast, vM_keep hv, vM_one hv, vM_night hv, ii_eq, ii_0, ii_1, ii_2, ii_3, ii_p, sp_bit1]
  unfold sp_open at h
  by_cases c0 : α.1 1 (α.1 4 p) = 3
  · simp [c0] at h ⊢; exact h
  · by_cases c1 : (α.1 7 n).testBit (α.1 4 p) = true
    · by_cases c2 : α.1 1 (α.1 4 p) = 1 <;> simp [c0, c1, c2] at h ⊢ <;> exact h
    · simp [c0, c1] at h ⊢; exact h
set_option maxRecDepth 20000 in
theorem M_mayBe_ok {d n a b : Nat} {μ : Mem} {α : Al} {Q : AV → Mem → Prop} (hv : vM μ α) (hw : wf α) (hn : n < α.1 0 2) (ha : a < α.1 0 1) (hb : b < α.1 0 1) (h : Q (xI (if a ≠ b ∧ sp_may α n a b = true then 1 else 0)) μ) : GM (d + 3) 157 [xR 61, xI (n : Int), xI (a : Int), xI (b : Int)] μ Q := by
  have hT := wf_T hw
  refine ge_M_mayBe ?_
  simp (disch := omega) only [iw_50, iw_k1, wb_eq, Int.toNat_natCast, vM_look hv, ii_eq]
  unfold sp_may at h
  by_cases c0 : a = b
  · simp [c0] at h ⊢; exact h
  · by_cases c1 : α.1 3 a = α.1 3 b
    · simp only [c0, c1, if_true, if_false]
      refine M_isOpen_ok hv hw hn ha ?_
      by_cases c2 : sp_open α n a = true
      · simp only [c2, if_true]
        refine wi (fun e => by cases e) (fun _ => ?_)
        refine M_isOpen_ok hv hw hn hb ?_
        by_cases c3 : sp_open α n b = true <;> simp [c0, c1, c2, c3, gI] at h ⊢ <;> exact h
      · simp [c0, c1, c2, gI] at h ⊢; exact h
    · simp [c0, c1] at h ⊢; exact h
