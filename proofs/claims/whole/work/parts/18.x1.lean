/-! the class's small methods -/
set_option maxRecDepth 20000 in
theorem X_works_ok {d t p : Nat} {w : Int} {μ : Mem} {α : Al} {Q : AV → Mem → Prop} (hv : vX μ α) (hw : wf α) (ht : t < α.1 0 1) (hp : p < α.1 0 1) (h : Q (xI (sp_works α t p w)) μ) : GM (d + 1) 52 [xR 3, xI (t : Int), xI (p : Int), xI w] μ Q := by
  have hT := wf_T hw
  have h1 := wf_kind hw t ht
  have h2 := wf_keep hw p hp
  have h3 := wf_P hw
  refine ge_Now_works ?_
  simp (disch := omega) only [wb_eq, Int.toNat_natCast, vX_kind hv, vX_word hv, vX_keep hv, vX_pow hv, vX_one hv, ii_eq, ii_0, ii_1, ii_2, ii_3, ii_p]
  unfold sp_works at h
  by_cases c0 : ((α.1 5 t : Nat) : Int) = w
  · rw [if_pos c0] at h ⊢
    rcases (show α.1 2 t = 0 ∨ α.1 2 t = 1 ∨ α.1 2 t = 2 ∨ α.1 2 t = 3 by omega) with e | e | e | e <;> simp only [e] at h ⊢ <;> simp at h ⊢
    · exact h
    · exact h
    · split <;> simp_all
    · split
      · simp_all
      · split <;> simp_all
  · rw [if_neg c0] at h ⊢
    exact h
set_option maxRecDepth 20000 in
theorem X_isOpen_ok {d n p : Nat} {μ : Mem} {α : Al} {Q : AV → Mem → Prop} (hv : vX μ α) (hw : wf α) (hn : n < α.1 0 2) (hp : p < α.1 0 1) (h : Q (xI (if sp_open α n p then 1 else 0)) μ) : GM (d + 1) 58 [xR 2, xI (n : Int), xI (p : Int)] μ Q := by
  have hT := wf_T hw
  have hN := wf_N hw
  have h2 := wf_keep hw p hp
  have h3 := wf_P hw
  have h4 := wf_night hw n hn
  refine ge_Told_isOpen ?_
  simp (disch := omega) only [wb_eq, Int.toNat_natCast, vX_keep hv, vX_one hv, vX_night hv, ii_eq, ii_0, ii_1, ii_2, ii_3, ii_p, sp_bit1]
  unfold sp_open at h
  by_cases c0 : α.1 1 (α.1 4 p) = 3
  · simp [c0] at h ⊢; exact h
  · by_cases c1 : (α.1 7 n).testBit (α.1 4 p) = true
    · by_cases c2 : α.1 1 (α.1 4 p) = 1 <;> simp [c0, c1, c2] at h ⊢ <;> exact h
    · simp [c0, c1] at h ⊢; exact h
set_option maxRecDepth 20000 in
theorem X_allows_ok {d n a b : Nat} {μ : Mem} {α : Al} {Q : AV → Mem → Prop} (hv : vX μ α) (hw : wf α) (hn : n < α.1 0 2) (ha : a < α.1 0 1) (hb : b < α.1 0 1) (h : Q (xI (if sp_may α n a b then 1 else 0)) μ) : GM (d + 2) 57 [xR 2, xI (n : Int), xI (a : Int), xI (b : Int)] μ Q := by
  have hT := wf_T hw
  refine ge_Told_allows ?_
  simp (disch := omega) only [wb_eq, Int.toNat_natCast, vX_look hv, ii_eq]
  unfold sp_may at h
  by_cases c1 : α.1 3 a = α.1 3 b
  · rw [if_pos c1]
    refine X_isOpen_ok hv hw hn ha ?_
    refine gI_mk ?_
    by_cases c2 : sp_open α n a = true
    · rw [if_pos c2, if_neg (by decide)]
      refine X_isOpen_ok hv hw hn hb ?_
      refine gI_mk ?_
      by_cases c3 : sp_open α n b = true <;> simp [c1, c2, c3] at h ⊢ <;> exact h
    · rw [if_neg c2, if_pos rfl]
      simp [c1, c2] at h
      exact h
  · rw [if_neg c1]
    simp [c1] at h
    exact h
set_option maxRecDepth 20000 in
theorem X_placeOf_ok {d t : Nat} {μ : Mem} {α : Al} {Q : AV → Mem → Prop} (hv : vX μ α) (hw : wf α) (ht : t < α.1 0 1) (h : Q (xI ((sp_at α t : Nat) : Int)) μ) : GM d 50 [xR 3, xI (t : Int)] μ Q := by
  have hT := wf_T hw
  obtain ⟨a1, a2, a3⟩ := sp_at_ok hw ht
  refine ge_Now_placeOf ?_
  have key : ∀ n q, q + n = sp_at α t → DW d 50 2 [xR 3, xI (t : Int), xI (q : Int)] μ Q := by
    intro n
    induction n with
    | zero =>
      intro q hq
      refine sg_Now_placeOf_2 ?_
      simp (disch := omega) only [vX_T hv, ii_lt, wb_eq, Int.toNat_natCast, vX_lie hv, ii_eq]
      rw [if_pos (by omega), if_pos (by rw [show q = sp_at α t by omega]; exact a2), show q = sp_at α t by omega]
      exact h
    | succ n ih =>
      intro q hq
      refine sg_Now_placeOf_2 ?_
      simp (disch := omega) only [vX_T hv, ii_lt, wb_eq, Int.toNat_natCast, vX_lie hv, ii_eq, iw_k1]
      rw [if_pos (by omega), if_neg (fun e => by have := a3 q (by omega) e; omega)]
      exact ih (q + 1) (by omega)
  exact key (sp_at α t) 0 (by omega)
set_option maxRecDepth 20000 in
theorem X_placesOf_ok {d p : Nat} {μ : Mem} {α : Al} {Q : AV → Mem → Prop} (hv : vX μ α) (hw : wf α) (h : Q (xI ((sp_bits (fun q => α.1 4 q == p) (α.1 0 1) : Nat) : Int)) μ) : GM d 43 [xR 2, xI (p : Int)] μ Q := by
  have hT := wf_T hw
  refine ge_Told_placesOf ?_
  have key : ∀ n q, q + n = α.1 0 1 → DW d 43 4 [xR 2, xI (p : Int), xI ((sp_bits (fun q => α.1 4 q == p) q : Nat) : Int), xI (q : Int)] μ Q := by
    intro n
    induction n with
    | zero =>
      intro q hq
      refine sg_Told_placesOf_4 ?_
      rw [vX_T hv, if_neg (by omega), show q = α.1 0 1 by omega]
      exact h
    | succ n ih =>
      intro q hq
      refine sg_Told_placesOf_4 ?_
      simp (disch := omega) only [vX_T hv, ii_lt, wb_eq, Int.toNat_natCast, vX_keep hv, ii_eq, iw_k1]
      rw [if_pos (by omega)]
      by_cases c : α.1 4 q = p
      · rw [if_pos c, sp_bits_or (by omega) (by simp [c])]
        exact ih (q + 1) (by omega)
      · rw [if_neg c, ← sp_bits_no (n := q) (by simp [c])]
        exact ih (q + 1) (by omega)
  exact key (α.1 0 1) 0 (by omega)
set_option maxRecDepth 20000 in
theorem X_nightsOf_ok {d p : Nat} {μ : Mem} {α : Al} {Q : AV → Mem → Prop} (hv : vX μ α) (hw : wf α) (hp : p < α.1 0 0) (h : Q (xI ((sp_bits (fun n => α.1 1 p == 3 || (α.1 7 n).testBit p) (α.1 0 2) : Nat) : Int)) μ) : GM (d + 1) 44 [xR 2, xI (p : Int)] μ Q := by
  have hN := wf_N hw
  have hP := wf_P hw
  refine ge_Told_nightsOf ?_
  generalize hf : (fun n => α.1 1 p == 3 || (α.1 7 n).testBit p) = f at h
  have key : ∀ n q, q + n = α.1 0 2 → DW (d + 1) 44 4 [xR 2, xI (p : Int), xI ((sp_bits f q : Nat) : Int), xI (q : Int)] μ Q := by
    intro n
    induction n with
    | zero =>
      intro q hq
      refine sg_Told_nightsOf_4 ?_
      rw [vX_N hv, if_neg (by omega), show q = α.1 0 2 by omega]
      exact h
    | succ n ih =>
      intro q hq
      have h4 := wf_night hw q (by omega)
      refine sg_Told_nightsOf_4 ?_
      simp (disch := omega) only [vX_N hv, ii_lt, wb_eq, Int.toNat_natCast, vX_one hv, vX_night hv, ii_3, sp_bit1, iw_k1]
      rw [if_pos (by omega)]
      have hfq : f q = (α.1 1 p == 3 || (α.1 7 q).testBit p) := by rw [← hf]
      by_cases c0 : α.1 1 p = 3
      · rw [if_pos c0, sp_bits_or (by omega) (by rw [hfq]; simp [c0])]
        exact ih (q + 1) (by omega)
      · rw [if_neg c0]
        by_cases c1 : (α.1 7 q).testBit p = true
        · rw [if_pos c1, sp_bits_or (by omega) (by rw [hfq]; simp [c1])]
          exact ih (q + 1) (by omega)
        · rw [if_neg c1, ← sp_bits_no (f := f) (n := q) (by rw [hfq]; simp [c0, c1])]
          exact ih (q + 1) (by omega)
  exact key (α.1 0 2) 0 (by omega)
set_option maxRecDepth 20000 in
theorem X_one_ok {d : Nat} {p w : Int} {μ : Mem} {α : Al} {Q : AV → Mem → Prop} (hv : vX μ α) (hw : wf α) (h : Q (xI (r_one α p w)) μ) : GM (d + 2) 41 [xR 0, xI p, xI w] μ Q := by
  have hT := wf_T hw
  have hP := wf_P hw
  refine ge_X_one ?_
  unfold r_one at h
  rw [vX_P hv]
  by_cases c0 : p < 0
  · rw [if_pos c0] at h ⊢; exact h
  rw [if_neg c0] at h ⊢
  by_cases c1 : p < ((α.1 0 0 : Nat) : Int)
  · rw [if_pos c1] at h ⊢
    obtain ⟨p, rfl⟩ := Int.eq_ofNat_of_zero_le (show 0 ≤ p by omega)
    rw [Int.toNat_natCast] at h
    have hp : p < α.1 0 0 := by omega
    have hk := wf_Kn hw
    simp (disch := omega) only [wb_eq, Int.toNat_natCast, vX_one hv, vX_Kn hv, sp_bit]
    by_cases w0 : w = 0
    · rw [if_pos w0] at h ⊢; exact h
    rw [if_neg w0] at h ⊢
    by_cases w1 : w = 1
    · rw [if_pos w1] at h ⊢
      exact X_placesOf_ok hv hw h
    rw [if_neg w1] at h ⊢
    by_cases w2 : w = 2
    · rw [if_pos w2] at h ⊢; exact h
    rw [if_neg w2] at h ⊢
    by_cases w3 : w = 3
    · rw [if_pos w3] at h ⊢
      exact X_nightsOf_ok hv hw hp h
    rw [if_neg w3] at h ⊢
    exact h
  · rw [if_neg c1] at h ⊢
    exact h
set_option maxRecDepth 20000 in
theorem X_ownWith_ok {d p : Nat} {μ : Mem} {α : Al} {Q : AV → Mem → Prop} (hv : vX μ α) (hw : wf α) (h : Q (xI ((sp_own α p : Nat) : Int)) μ) : GM d 48 [xR 3, xI (p : Int)] μ Q := by
  have hT := wf_T hw
  refine ge_Now_ownWith ?_
  unfold sp_own at h
  have key : ∀ n q, q + n = α.1 0 1 → DW d 48 4 [xR 3, xI (p : Int), xI ((sp_cnt (fun q => α.1 4 q == p && α.1 4 (α.1 9 q) == p) q : Nat) : Int), xI (q : Int)] μ Q := by
    intro n
    induction n with
    | zero =>
      intro q hq
      refine sg_Now_ownWith_4 ?_
      rw [vX_T hv, if_neg (by omega), show q = α.1 0 1 by omega]
      exact h
    | succ n ih =>
      intro q hq
      have hb := sp_cnt_le (fun q => α.1 4 q == p && α.1 4 (α.1 9 q) == p) q
      have hl := (wf_lie hw q (by omega)).1
      refine sg_Now_ownWith_4 ?_
      simp (disch := omega) only [vX_T hv, ii_lt, wb_eq, Int.toNat_natCast, vX_keep hv, vX_lie hv, ii_eq, iw_k1]
      rw [if_pos (by omega)]
      have hi := ih (q + 1) (by omega)
      rw [sp_cnt] at hi
      by_cases c : α.1 4 q = p
      · rw [if_pos c]
        by_cases c2 : α.1 4 (α.1 9 q) = p
        · rw [if_pos c2]
          simpa [c, c2] using hi
        · rw [if_neg c2]
          simpa [c, c2] using hi
      · rw [if_neg c]
        simpa [c] using hi
  exact key (α.1 0 1) 0 (by omega)
