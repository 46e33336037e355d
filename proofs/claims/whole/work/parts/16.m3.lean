set_option maxRecDepth 20000 in
theorem M_thing_ok {d : Nat} {t w : Int} {μ : Mem} {α : Al} {Q : AV → Mem → Prop} (hv : vM μ α) (hw : wf α) (h : Q (xI (r_thing α t w)) μ) : GM (d + 2) 146 [xR 61, xI t, xI w] μ Q := by
  have hT := wf_T hw
  refine ge_M_thing ?_
  unfold r_thing at h
  simp (disch := omega) only [vM_T hv, in_lo]
  by_cases c0 : t < 0
  · rw [if_pos c0] at h ⊢; exact h
  rw [if_neg c0] at h ⊢
  by_cases c1 : t < ((α.1 0 1 : Nat) : Int)
  · rw [if_pos c1] at h
    rw [if_neg (fun e => e c1)]
    obtain ⟨t, rfl⟩ := Int.eq_ofNat_of_zero_le (show 0 ≤ t by omega)
    rw [Int.toNat_natCast] at h
    have ht : t < α.1 0 1 := by omega
    simp (disch := omega) only [iw_50, iw_k1, iw_k3, iw_6, iw_12, wb_eq, Int.toNat_natCast, vM_kind hv, vM_look hv, vM_word hv, vM_pow hv, vM_wk hv]
    by_cases w0 : w = 0
    · rw [if_pos w0] at h ⊢; exact h
    rw [if_neg w0] at h ⊢
    by_cases w1 : w = 1
    · rw [if_pos w1] at h ⊢; exact h
    rw [if_neg w1] at h ⊢
    by_cases w2 : w = 2
    · rw [if_pos w2] at h ⊢; exact h
    rw [if_neg w2] at h ⊢
    by_cases w3 : w = 3
    · rw [if_pos w3] at h ⊢; exact h
    rw [if_neg w3] at h ⊢
    by_cases w4 : w = 4
    · rw [if_pos w4] at h ⊢
      exact M_whereIs_ok hv hw ht h
    rw [if_neg w4] at h ⊢
    by_cases w5 : w = 5
    · rw [if_pos w5] at h ⊢; exact h
    rw [if_neg w5] at h ⊢
    exact h
  · rw [if_neg c1] at h
    rw [if_pos c1]
    exact h
set_option maxRecDepth 20000 in
theorem M_place_ok {d : Nat} {t w : Int} {μ : Mem} {α : Al} {Q : AV → Mem → Prop} (hv : vM μ α) (hw : wf α) (h : Q (xI (r_place α t w)) μ) : GM (d + 2) 155 [xR 61, xI t, xI w] μ Q := by
  have hT := wf_T hw
  refine ge_M_place ?_
  unfold r_place at h
  simp (disch := omega) only [vM_T hv, in_lo]
  by_cases c0 : t < 0
  · rw [if_pos c0] at h ⊢; exact h
  rw [if_neg c0] at h ⊢
  by_cases c1 : t < ((α.1 0 1 : Nat) : Int)
  · rw [if_pos c1] at h
    rw [if_neg (fun e => e c1)]
    obtain ⟨t, rfl⟩ := Int.eq_ofNat_of_zero_le (show 0 ≤ t by omega)
    rw [Int.toNat_natCast] at h
    have ht : t < α.1 0 1 := by omega
    simp (disch := omega) only [iw_50, iw_k2, iw_18, wb_eq, Int.toNat_natCast, vM_keep hv, vM_lie hv, vM_ca hv]
    by_cases w0 : w = 0
    · rw [if_pos w0] at h ⊢; exact h
    rw [if_neg w0] at h ⊢
    by_cases w1 : w = 1
    · rw [if_pos w1] at h ⊢; exact h
    rw [if_neg w1] at h ⊢
    by_cases w2 : w = 2
    · rw [if_pos w2] at h ⊢; exact h
    rw [if_neg w2] at h ⊢
    exact h
  · rw [if_neg c1] at h
    rw [if_pos c1]
    exact h
set_option maxRecDepth 20000 in
theorem M_thingAs_key {d t : Nat} {k : Int} {μ : Mem} {α : Al} {Q : AV → Mem → Prop} (hv : vM μ α) (hw : wf α) (ht : t < α.1 0 1) (b : Bool) (v2 v3 : AV) (hb : sp_tasOk (α.1 2 t) k = b) (h : Q (xI (if sp_tasOk (α.1 2 t) k then sp_works α t (sp_at α t) ((α.1 5 t : Nat) : Int) else -4)) μ) : DW (d + 3) 152 55 [xR 61, xI (t : Int), v2, v3, xI (if b then 1 else 0)] μ Q := by
  have hT := wf_T hw
  have a1 := (sp_at_ok hw ht).1
  refine sg_M_thingAs_55 ?_
  cases b with
  | false => rw [hb] at h; exact h
  | true =>
    rw [hb] at h
    rw [if_neg (by decide)]
    refine M_whereIs_ok hv hw ht ?_
    refine gI_mk ?_
    simp (disch := omega) only [iw_50, iw_k3, wb_eq, Int.toNat_natCast, vM_word hv]
    refine M_works_ok hv hw ht a1 ?_
    rw [if_pos rfl] at h
    rcases sp_works01 α t (sp_at α t) ((α.1 5 t : Nat) : Int) with e | e <;> rw [e] at h ⊢ <;> simpa [gI] using h
set_option maxRecDepth 20000 in
theorem M_thingAs_ok {d : Nat} {t k : Int} {μ : Mem} {α : Al} {Q : AV → Mem → Prop} (hv : vM μ α) (hw : wf α) (h : Q (xI (r_thingAs α t k)) μ) : GM (d + 3) 152 [xR 61, xI t, xI k] μ Q := by
  have hT := wf_T hw
  refine ge_M_thingAs ?_
  unfold r_thingAs at h
  rw [vM_T hv, iw_m1 (by omega)]
  by_cases c0 : t < 0
  · rw [if_pos c0] at h ⊢; exact h
  rw [if_neg c0] at h ⊢
  by_cases c1 : t < ((α.1 0 1 : Nat) : Int)
  · rw [if_pos c1] at h
    rw [if_neg (by omega)]
    by_cases k0 : k < 0
    · rw [if_pos k0] at h ⊢; exact h
    rw [if_neg k0] at h ⊢
    by_cases k4 : 5 < k
    · rw [if_pos k4] at h ⊢; exact h
    rw [if_neg k4] at h ⊢
    obtain ⟨t, rfl⟩ := Int.eq_ofNat_of_zero_le (show 0 ≤ t by omega)
    rw [Int.toNat_natCast] at h
    have ht : t < α.1 0 1 := by omega
    have a1 := (sp_at_ok hw ht).1
    have key : ∀ (b : Bool) (v2 v3 : AV), sp_tasOk (α.1 2 t) k = b → DW (d + 3) 152 55 [xR 61, xI (t : Int), v2, v3, xI (if b then 1 else 0)] μ Q := fun b v2 v3 hb => M_thingAs_key hv hw ht b v2 v3 hb h
    have hk : μ 63 (iw (5 * (t : Int))).toNat = ((α.1 2 t : Nat) : Int) := by rw [iw_50 (by omega), Int.toNat_natCast]; exact vM_kind hv t ht
    generalize μ 63 (iw (5 * (t : Int))).toNat = kk at hk ⊢
    rw [wb_eq (by rw [iw_50 (by omega)]; omega) (by rw [iw_50 (by omega)]; omega)]
    refine wi (fun e0 => ?_) (fun e0 => ?_)
    · exact key true _ _ (by simp [sp_tasOk, e0])
    refine wi (fun e1 => ?_) (fun e1 => ?_)
    · refine wi (fun e3 => ?_) (fun e3 => ?_)
      · exact key true _ _ (by have : α.1 2 t = 0 := by omega
                               simp [sp_tasOk, e1, this])
      · exact key false _ _ (by have : α.1 2 t ≠ 0 := by omega
                                simp [sp_tasOk, e1, this])
    refine wi (fun e2 => ?_) (fun e2 => ?_)
    · refine wi (fun e3 => ?_) (fun e3 => ?_)
      · exact key true _ _ (by have : 0 < α.1 2 t := by omega
                               simp [sp_tasOk, e2, this])
      · exact key false _ _ (by have : α.1 2 t = 0 := by omega
                                simp [sp_tasOk, e2, this])
    refine wi (fun e5 => ?_) (fun e5 => ?_)
    · refine wi (fun e3 => ?_) (fun e3 => ?_)
      · exact key true _ _ (by have : α.1 2 t = 1 := by omega
                               simp [sp_tasOk, e5, this])
      · refine wi (fun e6 => ?_) (fun e6 => ?_)
        · exact key true _ _ (by have : α.1 2 t = 3 := by omega
                                 simp [sp_tasOk, e5, this])
        · exact key false _ _ (by have h1 : α.1 2 t ≠ 1 := by omega
                                  have h3 : α.1 2 t ≠ 3 := by omega
                                  simp [sp_tasOk, e5, h1, h3])
    refine wi (fun e7 => ?_) (fun e7 => ?_)
    · refine wi (fun e3 => ?_) (fun e3 => ?_)
      · exact key true _ _ (by have : α.1 2 t = 2 := by omega
                               simp [sp_tasOk, e7, this])
      · exact key false _ _ (by have : α.1 2 t ≠ 2 := by omega
                                simp [sp_tasOk, e7, this])
    refine wi (fun e3 => ?_) (fun e3 => ?_)
    · exact key true _ _ (by have : α.1 2 t = 3 := by omega
                             simp [sp_tasOk, e0, e1, e2, e5, e7, this])
    · exact key false _ _ (by have : α.1 2 t ≠ 3 := by omega
                              simp [sp_tasOk, e0, e1, e2, e5, e7, this])
  · rw [if_neg c1] at h
    rw [if_pos (by omega)]
    exact h
set_option maxRecDepth 20000 in
theorem M_may_ok {d : Nat} {n a b : Int} {μ : Mem} {α : Al} {Q : AV → Mem → Prop} (hv : vM μ α) (hw : wf α) (h : Q (xI (r_may α n a b)) μ) : GM (d + 4) 156 [xR 61, xI n, xI a, xI b] μ Q := by
  have hT := wf_T hw
  have hN := wf_N hw
  refine ge_M_may ?_
  unfold r_may at h
  simp (disch := omega) only [vM_T hv, vM_N hv, in_lo]
  by_cases c0 : n < 0
  · rw [if_pos c0] at h ⊢; exact h
  rw [if_neg c0] at h ⊢
  by_cases c1 : n < ((α.1 0 2 : Nat) : Int)
  · rw [if_pos c1] at h
    rw [if_neg (fun e => e c1)]
    by_cases a0 : a < 0
    · rw [if_pos a0] at h ⊢; exact h
    rw [if_neg a0] at h ⊢
    by_cases a1 : a < ((α.1 0 1 : Nat) : Int)
    · rw [if_pos a1] at h
      rw [if_neg (fun e => e a1)]
      by_cases b0 : b < 0
      · rw [if_pos b0] at h ⊢; exact h
      rw [if_neg b0] at h ⊢
      by_cases b1 : b < ((α.1 0 1 : Nat) : Int)
      · rw [if_pos b1] at h
        rw [if_neg (fun e => e b1)]
        by_cases ab : a = b
        · rw [if_pos ab] at h ⊢; exact h
        rw [if_neg ab] at h ⊢
        obtain ⟨n, rfl⟩ := Int.eq_ofNat_of_zero_le (show 0 ≤ n by omega)
        obtain ⟨a, rfl⟩ := Int.eq_ofNat_of_zero_le (show 0 ≤ a by omega)
        obtain ⟨b, rfl⟩ := Int.eq_ofNat_of_zero_le (show 0 ≤ b by omega)
        simp only [Int.toNat_natCast] at h
        refine M_mayBe_ok hv hw (by omega) (by omega) (by omega) ?_
        have hne : a ≠ b := fun e => ab (by rw [e])
        by_cases c : sp_may α n a b = true <;> simp [c, hne, gI] at h ⊢ <;> exact h
      · rw [if_neg b1] at h
        rw [if_pos b1]; exact h
    · rw [if_neg a1] at h
      rw [if_pos a1]; exact h
  · rw [if_neg c1] at h
    rw [if_pos c1]
    exact h
set_option maxRecDepth 20000 in
theorem M_show_ok {d : Nat} {p : Int} {μ : Mem} {α : Al} {Q : AV → Mem → Prop} (hv : vM μ α) (hw : wf α) (h : Q (xI (r_show α p)) μ) : GM (d + 3) 165 [xR 61, xI p] μ Q := by
  have hT := wf_T hw
  have hP := wf_P hw
  refine ge_M_show ?_
  unfold r_show at h
  simp (disch := omega) only [vM_P hv, in_lo]
  by_cases c0 : p < 0
  · rw [if_pos c0] at h ⊢; exact h
  rw [if_neg c0] at h ⊢
  by_cases c1 : p < ((α.1 0 0 : Nat) : Int)
  · rw [if_pos c1] at h
    rw [if_neg (fun e => e c1)]
    obtain ⟨p, rfl⟩ := Int.eq_ofNat_of_zero_le (show 0 ≤ p by omega)
    rw [Int.toNat_natCast] at h
    generalize hf : (fun q => α.1 4 q == p && decide (sp_works α (α.1 9 q) q ((α.1 5 q : Nat) : Int) = 1)) = f at h
    have hfq : ∀ q, f q = (α.1 4 q == p && decide (sp_works α (α.1 9 q) q ((α.1 5 q : Nat) : Int) = 1)) := fun q => by rw [← hf]
    have key : ∀ n q, q + n = α.1 0 1 → DW (d + 3) 165 10 [xR 61, xI (p : Int), xI ((sp_cnt f q : Nat) : Int), xI (q : Int)] μ Q := by
      intro n
      induction n with
      | zero =>
        intro q hq
        refine sg_M_show_10 ?_
        simp (disch := omega) only [vM_T hv, ii_lt]
        rw [if_neg (by omega), show q = α.1 0 1 by omega]
        exact h
      | succ n ih =>
        intro q hq
        have hb := sp_cnt_le f q
        have hl := (wf_lie hw q (by omega)).1
        have hi := ih (q + 1) (by omega)
        rw [sp_cnt, hfq] at hi
        refine sg_M_show_10 ?_
        simp (disch := omega) only [vM_T hv, ii_lt, iw_50, iw_k2, iw_k3, wb_eq, Int.toNat_natCast, vM_keep hv, vM_lie hv, vM_word hv, ii_eq, iw_k1, iw_n0]
        rw [if_pos (by omega)]
        by_cases c : α.1 4 q = p
        · rw [if_pos c]
          refine M_works_ok hv hw hl (by omega) ?_
          rcases sp_works01 α (α.1 9 q) q ((α.1 5 q : Nat) : Int) with e | e <;> rw [e] at hi ⊢ <;> simpa [gI, c] using hi
        · rw [if_neg c]
          simpa [c] using hi
    exact key (α.1 0 1) 0 (by omega)
  · rw [if_neg c1] at h
    rw [if_pos c1]
    exact h
