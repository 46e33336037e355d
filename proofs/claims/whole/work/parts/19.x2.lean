/-! kinds over one another -/
theorem isU0_step {d ax step : Nat} {k : Int} {v1 : AV} {μ : Mem} {Q : AV → Mem → Prop} (h1 : ax < 5) (h2 : step < 5) (h : if (ax : Int) = k then Q (xI 1) μ else DW d 47 4 [xR 140, v1, xI k, xI (([-1, 0, 1, 1, 0] : List Int).getD ax 0), xI ((step + 1 : Nat) : Int)] μ Q) : DW d 47 4 [xR 140, v1, xI k, xI (ax : Int), xI (step : Int)] μ Q := by
  refine sg_X_isUnder_140_4 ?_
  rw [if_pos (by omega), if_neg (by omega), if_pos (by omega), iw_k1 (by omega), Int.toNat_natCast, wb_eq (by omega) (by omega)]
  exact h
theorem isU0_end {d step : Nat} {k : Int} {v1 : AV} {μ : Mem} {Q : AV → Mem → Prop} (h2 : step < 5) (h : Q (xI 0) μ) : DW d 47 4 [xR 140, v1, xI k, xI (-1), xI (step : Int)] μ Q := by
  refine sg_X_isUnder_140_4 ?_
  rw [if_pos (by omega), if_pos (by omega)]
  exact h
theorem isU1_step {d ax step : Nat} {k : Int} {v1 : AV} {μ : Mem} {Q : AV → Mem → Prop} (h1 : ax < 6) (h2 : step < 6) (h : if (ax : Int) = k then Q (xI 1) μ else DW d 47 4 [xR 141, v1, xI k, xI (([-1, 0, 0, 2, 2, 3] : List Int).getD ax 0), xI ((step + 1 : Nat) : Int)] μ Q) : DW d 47 4 [xR 141, v1, xI k, xI (ax : Int), xI (step : Int)] μ Q := by
  refine sg_X_isUnder_141_4 ?_
  rw [if_pos (by omega), if_neg (by omega), if_pos (by omega), iw_k1 (by omega), Int.toNat_natCast, wb_eq (by omega) (by omega)]
  exact h
theorem isU1_end {d step : Nat} {k : Int} {v1 : AV} {μ : Mem} {Q : AV → Mem → Prop} (h2 : step < 6) (h : Q (xI 0) μ) : DW d 47 4 [xR 141, v1, xI k, xI (-1), xI (step : Int)] μ Q := by
  refine sg_X_isUnder_141_4 ?_
  rw [if_pos (by omega), if_pos (by omega)]
  exact h
set_option maxRecDepth 20000 in
theorem X_isU0_ok {d kd : Nat} {k : Int} {μ : Mem} {Q : AV → Mem → Prop} (hk : kd < 4) (h : Q (xI (if sp_asOk kd k then 1 else 0)) μ) : GM d 47 [xR 140, xI ((kd + 1 : Nat) : Int), xI k] μ Q := by
  refine ge_X_isUnder_140 ?_
  refine isU0_step (ax := kd + 1) (step := 0) (by omega) (by decide) ?_
  rcases (show kd = 0 ∨ kd = 1 ∨ kd = 2 ∨ kd = 3 by omega) with rfl | rfl | rfl | rfl
  · refine wi (fun e => ?_) (fun e => ?_)
    · simpa [sp_asOk, ← e] using h
    refine isU0_step (ax := 0) (step := 1) (by decide) (by decide) (wi (fun e2 => ?_) (fun e2 => ?_))
    · simpa [sp_asOk, ← e2] using h
    refine isU0_end (step := 2) (by decide) ?_
    have : sp_asOk 0 k = false := by simp [sp_asOk]; omega
    simpa [this] using h
  · refine wi (fun e => ?_) (fun e => ?_)
    · simpa [sp_asOk, ← e] using h
    refine isU0_step (ax := 1) (step := 1) (by decide) (by decide) (wi (fun e2 => ?_) (fun e2 => ?_))
    · simpa [sp_asOk, ← e2] using h
    refine isU0_step (ax := 0) (step := 2) (by decide) (by decide) (wi (fun e3 => ?_) (fun e3 => ?_))
    · simpa [sp_asOk, ← e3] using h
    refine isU0_end (step := 3) (by decide) ?_
    have : sp_asOk 1 k = false := by simp [sp_asOk]; omega
    simpa [this] using h
  · refine wi (fun e => ?_) (fun e => ?_)
    · simpa [sp_asOk, ← e] using h
    refine isU0_step (ax := 1) (step := 1) (by decide) (by decide) (wi (fun e2 => ?_) (fun e2 => ?_))
    · simpa [sp_asOk, ← e2] using h
    refine isU0_step (ax := 0) (step := 2) (by decide) (by decide) (wi (fun e3 => ?_) (fun e3 => ?_))
    · simpa [sp_asOk, ← e3] using h
    refine isU0_end (step := 3) (by decide) ?_
    have : sp_asOk 2 k = false := by simp [sp_asOk]; omega
    simpa [this] using h
  · refine wi (fun e => ?_) (fun e => ?_)
    · simpa [sp_asOk, ← e] using h
    refine isU0_step (ax := 0) (step := 1) (by decide) (by decide) (wi (fun e2 => ?_) (fun e2 => ?_))
    · simpa [sp_asOk, ← e2] using h
    refine isU0_end (step := 2) (by decide) ?_
    have : sp_asOk 3 k = false := by simp [sp_asOk]; omega
    simpa [this] using h
set_option maxRecDepth 20000 in
theorem X_isU1_ok {d kd : Nat} {k : Int} {μ : Mem} {Q : AV → Mem → Prop} (hk : kd < 4) (h0 : 0 ≤ k) (h5 : k < 6) (h : Q (xI (if sp_tasOk kd k then 1 else 0)) μ) : GM d 47 [xR 141, xI (([1, 3, 4, 5] : List Int).getD kd 0), xI k] μ Q := by
  obtain ⟨k, rfl⟩ := Int.eq_ofNat_of_zero_le h0
  have hk6 : k < 6 := by omega
  have fin : ∀ (b : Bool), sp_tasOk kd (k : Int) = b → Q (xI (if b then 1 else 0)) μ := fun b hb => by rw [← hb]; exact h
  refine ge_X_isUnder_141 ?_
  rcases (show kd = 0 ∨ kd = 1 ∨ kd = 2 ∨ kd = 3 by omega) with rfl | rfl | rfl | rfl
  · refine isU1_step (ax := 1) (step := 0) (by decide) (by decide) (wi (fun e => ?_) (fun e => ?_))
    · exact fin true (by simp [sp_tasOk, ← e])
    refine isU1_step (ax := 0) (step := 1) (by decide) (by decide) (wi (fun e2 => ?_) (fun e2 => ?_))
    · exact fin true (by simp [sp_tasOk, ← e2])
    refine isU1_end (step := 2) (by decide) ?_
    exact fin false (by
      rcases (show k = 2 ∨ k = 3 ∨ k = 4 ∨ k = 5 by omega) with rfl | rfl | rfl | rfl <;> decide)
  · refine isU1_step (ax := 3) (step := 0) (by decide) (by decide) (wi (fun e => ?_) (fun e => ?_))
    · exact fin true (by simp [sp_tasOk, ← e])
    refine isU1_step (ax := 2) (step := 1) (by decide) (by decide) (wi (fun e2 => ?_) (fun e2 => ?_))
    · exact fin true (by simp [sp_tasOk, ← e2])
    refine isU1_step (ax := 0) (step := 2) (by decide) (by decide) (wi (fun e3 => ?_) (fun e3 => ?_))
    · exact fin true (by simp [sp_tasOk, ← e3])
    refine isU1_end (step := 3) (by decide) ?_
    exact fin false (by
      rcases (show k = 1 ∨ k = 4 ∨ k = 5 by omega) with rfl | rfl | rfl <;> decide)
  · refine isU1_step (ax := 4) (step := 0) (by decide) (by decide) (wi (fun e => ?_) (fun e => ?_))
    · exact fin true (by simp [sp_tasOk, ← e])
    refine isU1_step (ax := 2) (step := 1) (by decide) (by decide) (wi (fun e2 => ?_) (fun e2 => ?_))
    · exact fin true (by simp [sp_tasOk, ← e2])
    refine isU1_step (ax := 0) (step := 2) (by decide) (by decide) (wi (fun e3 => ?_) (fun e3 => ?_))
    · exact fin true (by simp [sp_tasOk, ← e3])
    refine isU1_end (step := 3) (by decide) ?_
    exact fin false (by
      rcases (show k = 1 ∨ k = 3 ∨ k = 5 by omega) with rfl | rfl | rfl <;> decide)
  · refine isU1_step (ax := 5) (step := 0) (by decide) (by decide) (wi (fun e => ?_) (fun e => ?_))
    · exact fin true (by simp [sp_tasOk, ← e])
    refine isU1_step (ax := 3) (step := 1) (by decide) (by decide) (wi (fun e2 => ?_) (fun e2 => ?_))
    · exact fin true (by simp [sp_tasOk, ← e2])
    refine isU1_step (ax := 2) (step := 2) (by decide) (by decide) (wi (fun e3 => ?_) (fun e3 => ?_))
    · exact fin true (by simp [sp_tasOk, ← e3])
    refine isU1_step (ax := 0) (step := 3) (by decide) (by decide) (wi (fun e4 => ?_) (fun e4 => ?_))
    · exact fin true (by simp [sp_tasOk, ← e4])
    refine isU1_end (step := 4) (by decide) ?_
    exact fin false (by
      rcases (show k = 1 ∨ k = 4 by omega) with rfl | rfl <;> decide)
set_option maxRecDepth 20000 in
theorem X_as_ok {d : Nat} {p k : Int} {μ : Mem} {α : Al} {Q : AV → Mem → Prop} (hv : vX μ α) (hw : wf α) (h : Q (xI (r_as α p k)) μ) : GM (d + 1) 46 [xR 0, xI p, xI k] μ Q := by
  have hP := wf_P hw
  refine ge_X_as ?_
  unfold r_as at h
  rw [vX_P hv]
  by_cases c0 : p < 0
  · rw [if_pos c0] at h ⊢; exact h
  rw [if_neg c0] at h ⊢
  by_cases c1 : p < ((α.1 0 0 : Nat) : Int)
  · rw [if_pos c1] at h ⊢
    by_cases k0 : k < 0
    · rw [if_pos k0] at h ⊢; exact h
    rw [if_neg k0] at h ⊢
    by_cases k4 : 4 < k
    · rw [if_pos k4] at h
      rw [if_neg (by omega)]; exact h
    rw [if_neg k4] at h
    rw [if_pos (by omega)]
    obtain ⟨p, rfl⟩ := Int.eq_ofNat_of_zero_le (show 0 ≤ p by omega)
    rw [Int.toNat_natCast] at h
    have hp : p < α.1 0 0 := by omega
    have hk := wf_one hw p hp
    rw [wb_eq (by omega) (by omega), Int.toNat_natCast, vX_one hv p hp, iw_k1 (by omega)]
    refine X_isU0_ok hk ?_
    refine gI_mk ?_
    by_cases c : sp_asOk (α.1 1 p) k = true
    · rw [if_pos c] at h ⊢
      rw [if_neg (by decide)]
      exact X_ownWith_ok hv hw h
    · rw [if_neg c] at h ⊢
      rw [if_pos rfl]
      exact h
  · rw [if_neg c1] at h ⊢
    exact h
set_option maxRecDepth 20000 in
theorem X_thing_ok {d : Nat} {t w : Int} {μ : Mem} {α : Al} {Q : AV → Mem → Prop} (hv : vX μ α) (hw : wf α) (h : Q (xI (r_thing α t w)) μ) : GM (d + 1) 49 [xR 0, xI t, xI w] μ Q := by
  have hT := wf_T hw
  refine ge_X_thing ?_
  unfold r_thing at h
  rw [vX_T hv]
  by_cases c0 : t < 0
  · rw [if_pos c0] at h ⊢; exact h
  rw [if_neg c0] at h ⊢
  by_cases c1 : t < ((α.1 0 1 : Nat) : Int)
  · rw [if_pos c1] at h ⊢
    obtain ⟨t, rfl⟩ := Int.eq_ofNat_of_zero_le (show 0 ≤ t by omega)
    rw [Int.toNat_natCast] at h
    have ht : t < α.1 0 1 := by omega
    simp (disch := omega) only [wb_eq, Int.toNat_natCast, vX_kind hv, vX_look hv, vX_word hv, vX_pow hv, vX_wk hv]
    by_cases w0 : w = 0
    · rw [if_pos w0] at h ⊢; exact h
    rw [if_neg w0] at h ⊢
    by_cases w1 : w = 1
    · rw [if_pos w1] at h ⊢; exact h
    rw [if_neg w1] at h ⊢
    by_cases w2 : w = 2
    · rw [if_pos w2] at h ⊢; exact h
    rw [if_neg w2] at h ⊢
    by_cases w3 : w = 3
    · rw [if_pos w3] at h ⊢; exact h
    rw [if_neg w3] at h ⊢
    by_cases w4 : w = 4
    · rw [if_pos w4] at h ⊢
      exact X_placeOf_ok hv hw ht h
    rw [if_neg w4] at h ⊢
    by_cases w5 : w = 5
    · rw [if_pos w5] at h ⊢; exact h
    rw [if_neg w5] at h ⊢
    exact h
  · rw [if_neg c1] at h ⊢
    exact h
set_option maxRecDepth 20000 in
theorem X_place_ok {d : Nat} {t w : Int} {μ : Mem} {α : Al} {Q : AV → Mem → Prop} (hv : vX μ α) (hw : wf α) (h : Q (xI (r_place α t w)) μ) : GM (d + 1) 54 [xR 0, xI t, xI w] μ Q := by
  have hT := wf_T hw
  refine ge_X_place ?_
  unfold r_place at h
  rw [vX_T hv]
  by_cases c0 : t < 0
  · rw [if_pos c0] at h ⊢; exact h
  rw [if_neg c0] at h ⊢
  by_cases c1 : t < ((α.1 0 1 : Nat) : Int)
  · rw [if_pos c1] at h ⊢
    obtain ⟨t, rfl⟩ := Int.eq_ofNat_of_zero_le (show 0 ≤ t by omega)
    rw [Int.toNat_natCast] at h
    have ht : t < α.1 0 1 := by omega
    simp (disch := omega) only [wb_eq, Int.toNat_natCast, vX_keep hv, vX_lie hv, vX_ca hv]
    by_cases w0 : w = 0
    · rw [if_pos w0] at h ⊢; exact h
    rw [if_neg w0] at h ⊢
    by_cases w1 : w = 1
    · rw [if_pos w1] at h ⊢; exact h
    rw [if_neg w1] at h ⊢
    by_cases w2 : w = 2
    · rw [if_pos w2] at h ⊢; exact h
    rw [if_neg w2] at h ⊢
    exact h
  · rw [if_neg c1] at h ⊢
    exact h
set_option maxRecDepth 20000 in
theorem X_thingAs_ok {d : Nat} {t k : Int} {μ : Mem} {α : Al} {Q : AV → Mem → Prop} (hv : vX μ α) (hw : wf α) (h : Q (xI (r_thingAs α t k)) μ) : GM (d + 2) 51 [xR 0, xI t, xI k] μ Q := by
  have hT := wf_T hw
  refine ge_X_thingAs ?_
  unfold r_thingAs at h
  rw [vX_T hv]
  by_cases c0 : t < 0
  · rw [if_pos c0] at h ⊢; exact h
  rw [if_neg c0] at h ⊢
  by_cases c1 : t < ((α.1 0 1 : Nat) : Int)
  · rw [if_pos c1] at h ⊢
    by_cases k0 : k < 0
    · rw [if_pos k0] at h ⊢; exact h
    rw [if_neg k0] at h ⊢
    by_cases k4 : 5 < k
    · rw [if_pos k4] at h
      rw [if_neg (by omega)]; exact h
    rw [if_neg k4] at h
    rw [if_pos (by omega)]
    obtain ⟨t, rfl⟩ := Int.eq_ofNat_of_zero_le (show 0 ≤ t by omega)
    rw [Int.toNat_natCast] at h
    have ht : t < α.1 0 1 := by omega
    have hk := wf_kind hw t ht
    have a1 := (sp_at_ok hw ht).1
    rw [wb_eq (by omega) (by omega), Int.toNat_natCast, vX_kind hv t ht, Int.toNat_natCast, wb_eq (by omega) (by omega)]
    refine X_isU1_ok hk (by omega) (by omega) ?_
    refine gI_mk ?_
    by_cases c : sp_tasOk (α.1 2 t) k = true
    · rw [if_pos c] at h ⊢
      rw [if_neg (by decide)]
      refine X_placeOf_ok hv hw ht ?_
      refine gI_mk ?_
      rw [wb_eq (by omega) (by omega), vX_word hv t ht]
      refine X_works_ok hv hw ht a1 ?_
      refine gI_mk ?_
      rcases sp_works01 α t (sp_at α t) ((α.1 5 t : Nat) : Int) with e | e <;> rw [e] at h ⊢
      · rw [if_pos rfl]; exact h
      · rw [if_neg (by decide)]; exact h
    · rw [if_neg c] at h ⊢
      rw [if_pos rfl]
      exact h
  · rw [if_neg c1] at h ⊢
    exact h
set_option maxRecDepth 20000 in
theorem X_may_ok {d : Nat} {n a b : Int} {μ : Mem} {α : Al} {Q : AV → Mem → Prop} (hv : vX μ α) (hw : wf α) (h : Q (xI (r_may α n a b)) μ) : GM (d + 3) 55 [xR 0, xI n, xI a, xI b] μ Q := by
  have hT := wf_T hw
  have hN := wf_N hw
  refine ge_X_may ?_
  unfold r_may at h
  rw [vX_T hv, vX_N hv]
  by_cases c0 : n < 0
  · rw [if_pos c0] at h ⊢; exact h
  rw [if_neg c0] at h ⊢
  by_cases c1 : n < ((α.1 0 2 : Nat) : Int)
  · rw [if_pos c1] at h ⊢
    by_cases a0 : a < 0
    · rw [if_pos a0] at h ⊢; exact h
    rw [if_neg a0] at h ⊢
    by_cases a1 : a < ((α.1 0 1 : Nat) : Int)
    · rw [if_pos a1] at h ⊢
      by_cases b0 : b < 0
      · rw [if_pos b0] at h ⊢; exact h
      rw [if_neg b0] at h ⊢
      by_cases b1 : b < ((α.1 0 1 : Nat) : Int)
      · rw [if_pos b1] at h ⊢
        by_cases ab : a = b
        · rw [if_pos ab] at h ⊢; exact h
        rw [if_neg ab] at h ⊢
        obtain ⟨n, rfl⟩ := Int.eq_ofNat_of_zero_le (show 0 ≤ n by omega)
        obtain ⟨a, rfl⟩ := Int.eq_ofNat_of_zero_le (show 0 ≤ a by omega)
        obtain ⟨b, rfl⟩ := Int.eq_ofNat_of_zero_le (show 0 ≤ b by omega)
        simp only [Int.toNat_natCast] at h
        refine X_allows_ok hv hw (by omega) (by omega) (by omega) ?_
        refine gI_mk ?_
        by_cases c : sp_may α n a b = true <;> simp [c] at h ⊢ <;> exact h
      · rw [if_neg b1] at h ⊢; exact h
    · rw [if_neg a1] at h ⊢; exact h
  · rw [if_neg c1] at h ⊢
    exact h
set_option maxRecDepth 20000 in
theorem X_show_ok {d : Nat} {p : Int} {μ : Mem} {α : Al} {Q : AV → Mem → Prop} (hv : vX μ α) (hw : wf α) (h : Q (xI (r_show α p)) μ) : GM (d + 3) 72 [xR 0, xI p] μ Q := by
  have hT := wf_T hw
  have hP := wf_P hw
  refine ge_X_show ?_
  unfold r_show at h
  rw [vX_P hv]
  by_cases c0 : p < 0
  · rw [if_pos c0] at h ⊢; exact h
  rw [if_neg c0] at h ⊢
  by_cases c1 : p < ((α.1 0 0 : Nat) : Int)
  · rw [if_pos c1] at h ⊢
    obtain ⟨p, rfl⟩ := Int.eq_ofNat_of_zero_le (show 0 ≤ p by omega)
    rw [Int.toNat_natCast] at h
    refine ge_Now_showable ?_
    generalize hf : (fun q => α.1 4 q == p && decide (sp_works α (α.1 9 q) q ((α.1 5 q : Nat) : Int) = 1)) = f at h
    have hfq : ∀ q, f q = (α.1 4 q == p && decide (sp_works α (α.1 9 q) q ((α.1 5 q : Nat) : Int) = 1)) := fun q => by rw [← hf]
    have key : ∀ n q, q + n = α.1 0 1 → DW (d + 2) 73 4 [xR 3, xI (p : Int), xI ((sp_cnt f q : Nat) : Int), xI (q : Int)] μ (gI (fun r2 m1 => Q (xI r2) m1)) := by
      intro n
      induction n with
      | zero =>
        intro q hq
        refine sg_Now_showable_4 ?_
        rw [vX_T hv, if_neg (by omega), show q = α.1 0 1 by omega]
        exact h
      | succ n ih =>
        intro q hq
        have hb := sp_cnt_le f q
        have hl := (wf_lie hw q (by omega)).1
        have hi := ih (q + 1) (by omega)
        rw [sp_cnt, hfq] at hi
        refine sg_Now_showable_4 ?_
        simp (disch := omega) only [vX_T hv, ii_lt, wb_eq, Int.toNat_natCast, vX_keep hv, vX_lie hv, vX_word hv, ii_eq, iw_k1]
        rw [if_pos (by omega)]
        by_cases c : α.1 4 q = p
        · rw [if_pos c]
          refine X_works_ok hv hw hl (by omega) ?_
          refine gI_mk ?_
          rcases sp_works01 α (α.1 9 q) q ((α.1 5 q : Nat) : Int) with e | e <;> rw [e] at hi ⊢
          · rw [if_pos rfl]; simpa [c] using hi
          · rw [if_neg (by decide)]; simpa [c] using hi
        · rw [if_neg c]
          simpa [c] using hi
    exact key (α.1 0 1) 0 (by omega)
  · rw [if_neg c1] at h ⊢
    exact h
set_option maxRecDepth 20000 in
theorem X_rings_ok {d : Nat} {μ : Mem} {α : Al} {Q : AV → Mem → Prop} (hv : vX μ α) (hw : wf α) (h : Q (xI (r_rings α)) μ) : GM (d + 1) 67 [xR 0] μ Q := by
  have hT := wf_T hw
  have hl : ∀ i, i < α.1 0 1 → α.1 9 i < α.1 0 1 := fun i hi => (wf_lie hw i hi).1
  refine ge_X_rings ?_
  refine ge_Now_ringCount ?_
  have h' : (gI fun r2 m1 => Q (xI r2) m1) (xI (r_rings α)) μ := gI_mk h
  clear h
  generalize (gI fun r2 m1 => Q (xI r2) m1) = Q' at h' ⊢
  have inner : ∀ (p c n step gone q : Nat), step + n = α.1 0 1 → gone < 64 → q < α.1 0 1 → (∀ v4 v5 : AV, DW d 68 48 [xR 3, xI (c : Int), xI ((rg_go (α.1 9) n gone q : Nat) : Int), xI (p : Int), v4, v5] μ Q') → DW d 68 23 [xR 3, xI (c : Int), xI (gone : Int), xI (p : Int), xI (q : Int), xI (step : Int)] μ Q' := by
    intro p c n
    induction n with
    | zero =>
      intro step gone q hs hg hq hx
      refine sg_Now_ringCount_23 ?_
      rw [vX_T hv, if_neg (by omega)]
      exact hx _ _
    | succ n ih =>
      intro step gone q hs hg hq hx
      refine sg_Now_ringCount_23 ?_
      rw [vX_T hv, if_pos (by omega)]
      rw [rg_go] at hx
      rw [sp_bit (by omega) (by omega)]
      cases e : gone.testBit q with
      | true =>
        rw [e, if_pos rfl] at hx
        rw [if_neg (by simp)]
        exact hx _ _
      | false =>
        have h2 : (2 : Nat) ^ q < 2 ^ 6 := Nat.pow_lt_pow_right (by decide) (by omega)
        rw [e, if_neg (by decide)] at hx
        rw [if_pos (by simp)]
        simp (disch := omega) only [wb_eq, Int.toNat_natCast, vX_lie hv, sp_one, xior_nat, iw_k1]
        exact ih _ _ _ (by omega) (Nat.or_lt_two_pow (n := 6) hg h2) (hl q hq) hx
  have outer : ∀ n p, p + n = α.1 0 1 → ∀ v4 v5 : AV, DW d 68 6 [xR 3, xI (((rg_all (α.1 9) (α.1 0 1) p).1 : Nat) : Int), xI (((rg_all (α.1 9) (α.1 0 1) p).2 : Nat) : Int), xI (p : Int), v4, v5] μ Q' := by
    intro n
    induction n with
    | zero =>
      intro p hp v4 v5
      refine sg_Now_ringCount_6 ?_
      rw [vX_T hv, if_neg (by omega), show p = α.1 0 1 by omega]
      exact h'
    | succ n ih =>
      intro p hp v4 v5
      obtain ⟨g1, g2⟩ := rg_all_lt hT hl p (by omega)
      refine sg_Now_ringCount_6 ?_
      rw [vX_T hv, if_pos (by omega), sp_bit (by omega) (by omega)]
      have hi := ih (p + 1) (by omega)
      rw [rg_all] at hi
      dsimp only at hi
      cases e : (rg_all (α.1 9) (α.1 0 1) p).2.testBit p with
      | true =>
        rw [e, if_pos rfl] at hi
        rw [if_neg (by simp)]
        refine inner p _ (α.1 0 1) 0 _ p (by omega) g1 (by omega) (fun v4 v5 => ?_)
        refine sg_Now_ringCount_48 ?_
        rw [iw_k1 (by omega)]
        exact hi _ _
      | false =>
        rw [e, if_neg (by decide)] at hi
        rw [if_pos (by simp), iw_k1 (by omega)]
        refine inner p _ (α.1 0 1) 0 _ p (by omega) g1 (by omega) (fun v4 v5 => ?_)
        refine sg_Now_ringCount_48 ?_
        rw [iw_k1 (by omega)]
        exact hi _ _
  exact outer (α.1 0 1) 0 (by omega) _ _
