/-! answers, as functions of the abstract state -/
def sp_cnt (f : Nat → Bool) : Nat → Nat
  | 0 => 0
  | n + 1 => sp_cnt f n + (if f n then 1 else 0)
theorem sp_cnt_le (f : Nat → Bool) : ∀ n, sp_cnt f n ≤ n
  | 0 => Nat.le_refl 0
  | n + 1 => by
    have := sp_cnt_le f n
    rw [sp_cnt]
    split <;> omega
def r_one (α : Al) (p w : Int) : Int :=
  if p < 0 then -2 else if p < ((α.1 0 0 : Nat) : Int) then (if w = 0 then ((α.1 1 p.toNat : Nat) : Int) else if w = 1 then ((sp_bits (fun q => α.1 4 q == p.toNat) (α.1 0 1) : Nat) : Int) else if w = 2 then (if (α.1 0 5).testBit p.toNat then 1 else 0) else if w = 3 then ((sp_bits (fun n => α.1 1 p.toNat == 3 || (α.1 7 n).testBit p.toNat) (α.1 0 2) : Nat) : Int) else -3) else -2
def sp_own (α : Al) (p : Nat) : Nat := sp_cnt (fun q => α.1 4 q == p && α.1 4 (α.1 9 q) == p) (α.1 0 1)
def sp_asOk (kd : Nat) (k : Int) : Bool := decide (k = 0) || (if k = 1 then !(kd == 3) else decide ((kd : Int) = k - 1))
def r_as (α : Al) (p k : Int) : Int :=
  if p < 0 then -2 else if p < ((α.1 0 0 : Nat) : Int) then (if k < 0 then -3 else if 4 < k then -3 else if sp_asOk (α.1 1 p.toNat) k then ((sp_own α p.toNat : Nat) : Int) else -4) else -2
def r_thing (α : Al) (t w : Int) : Int :=
  if t < 0 then -2 else if t < ((α.1 0 1 : Nat) : Int) then (if w = 0 then ((α.1 2 t.toNat : Nat) : Int) else if w = 1 then ((α.1 3 t.toNat : Nat) : Int) else if w = 2 then ((α.1 5 t.toNat : Nat) : Int) else if w = 3 then ((α.1 10 t.toNat : Nat) : Int) else if w = 4 then ((sp_at α t.toNat : Nat) : Int) else if w = 5 then α.2 1 t.toNat else -3) else -2
def sp_tasOk (kd : Nat) (k : Int) : Bool := decide (k = 0) || (if k = 1 then kd == 0 else if k = 2 then decide (0 < kd) else if k = 3 then (kd == 1 || kd == 3) else if k = 4 then kd == 2 else kd == 3)
def r_thingAs (α : Al) (t k : Int) : Int :=
  if t < 0 then -2 else if t < ((α.1 0 1 : Nat) : Int) then (if k < 0 then -3 else if 5 < k then -3 else if sp_tasOk (α.1 2 t.toNat) k then sp_works α t.toNat (sp_at α t.toNat) ((α.1 5 t.toNat : Nat) : Int) else -4) else -2
def r_place (α : Al) (p w : Int) : Int :=
  if p < 0 then -2 else if p < ((α.1 0 1 : Nat) : Int) then (if w = 0 then ((α.1 4 p.toNat : Nat) : Int) else if w = 1 then ((α.1 9 p.toNat : Nat) : Int) else if w = 2 then α.2 2 p.toNat else -3) else -2
def sp_pl (α : Al) (p : Int) : Prop := 0 ≤ p ∧ p < ((α.1 0 1 : Nat) : Int)
def r_may (α : Al) (n a b : Int) : Int :=
  if n < 0 then -2 else if n < ((α.1 0 2 : Nat) : Int) then (if a < 0 then -2 else if a < ((α.1 0 1 : Nat) : Int) then (if b < 0 then -2 else if b < ((α.1 0 1 : Nat) : Int) then (if a = b then -3 else if sp_may α n.toNat a.toNat b.toNat then 1 else 0) else -2) else -2) else -2
def r_show (α : Al) (p : Int) : Int :=
  if p < 0 then -2 else if p < ((α.1 0 0 : Nat) : Int) then ((sp_cnt (fun q => α.1 4 q == p.toNat && decide (sp_works α (α.1 9 q) q ((α.1 5 q : Nat) : Int) = 1)) (α.1 0 1) : Nat) : Int) else -2
theorem sp_works01 (α : Al) (t p : Nat) (w : Int) : sp_works α t p w = 0 ∨ sp_works α t p w = 1 := by
  unfold sp_works
  (repeat' split) <;> simp
theorem in_lo {n : Nat} {p : Int} (hn : n < 1000000) : (iw ((n : Int) - 1) < p) = ¬ (p < (n : Int)) := by
  rw [iw_m1 hn]
  apply propext
  omega
set_option maxRecDepth 20000 in
theorem M_nightsOf_ok {d p : Nat} {μ : Mem} {α : Al} {Q : AV → Mem → Prop} (hv : vM μ α) (hw : wf α) (hp : p < α.1 0 0) (h : Q (xI ((sp_bits (fun n => α.1 1 p == 3 || (α.1 7 n).testBit p) (α.1 0 2) : Nat) : Int)) μ) : GM (d + 1) 143 [xR 61, xI (p : Int)] μ Q := by
  have hN := wf_N hw
  have hP := wf_P hw
  refine ge_M_nightsOf ?_
  generalize hf : (fun n => α.1 1 p == 3 || (α.1 7 n).testBit p) = f at h
  have key : ∀ n q, q + n = α.1 0 2 → DW (d + 1) 143 4 [xR 61, xI (p : Int), xI ((sp_bits f q : Nat) : Int), xI (q : Int)] μ Q := by
    intro n
    induction n with
    | zero =>
      intro q hq
      refine sg_M_nightsOf_4 ?_
      simp (disch := omega) only [vM_N hv, ii_lt]
      rw [if_neg (by omega), show q = α.1 0 2 by omega]
      exact h
    | succ n ih =>
      intro q hq
      have h4 := wf_night hw q (by omega)
      have hb := sp_bits_lt f q
      have hb2 : 2 ^ q ≤ 2 ^ 6 := Nat.pow_le_pow_right (by decide) (by omega)
      refine sg_M_nightsOf_4 ?_
      simp (disch := omega) only [vM_N hv, ii_lt, wb_eq, Int.toNat_natCast, vM_one hv, vM_night hv, ii_3, sp_bit1, iw_k1, xior_0]
      rw [if_pos (by omega)]
      have hfq : f q = (α.1 1 p == 3 || (α.1 7 q).testBit p) := by rw [← hf]
      by_cases c0 : α.1 1 p = 3
      · rw [if_pos c0, sp_bits_or (by omega) (by rw [hfq]; simp [c0])]
        exact ih (q + 1) (by omega)
      · rw [if_neg c0]
        by_cases c1 : (α.1 7 q).testBit p = true
        · rw [if_pos c1, sp_bits_or (by omega) (by rw [hfq]; simp [c1])]
          exact ih (q + 1) (by omega)
        · rw [if_neg c1, ← sp_bits_no (f := f) (n := q) (by rw [hfq]; simp [c0, c1])]
          exact ih (q + 1) (by omega)
  exact key (α.1 0 2) 0 (by omega)
set_option maxRecDepth 20000 in
theorem M_one_ok {d : Nat} {p w : Int} {μ : Mem} {α : Al} {Q : AV → Mem → Prop} (hv : vM μ α) (hw : wf α) (h : Q (xI (r_one α p w)) μ) : GM (d + 2) 140 [xR 61, xI p, xI w] μ Q := by
  have hT := wf_T hw
  have hP := wf_P hw
  refine ge_M_one ?_
  unfold r_one at h
  simp (disch := omega) only [vM_P hv, in_lo]
  by_cases c0 : p < 0
  · rw [if_pos c0] at h ⊢; exact h
  rw [if_neg c0] at h ⊢
  by_cases c1 : p < ((α.1 0 0 : Nat) : Int)
  · rw [if_pos c1] at h
    rw [if_neg (fun e => e c1)]
    obtain ⟨p, rfl⟩ := Int.eq_ofNat_of_zero_le (show 0 ≤ p by omega)
    rw [Int.toNat_natCast] at h
    have hp : p < α.1 0 0 := by omega
    have key : ∀ n q, q + n = α.1 0 1 → DW (d + 2) 140 10 [xR 61, xI (p : Int), xI w, xI ((sp_bits (fun q => α.1 4 q == p) q : Nat) : Int), xI (q : Int)] μ Q := by
      intro n
      induction n with
      | zero =>
        intro q hq
        refine sg_M_one_10 ?_
        simp (disch := omega) only [vM_T hv, ii_lt]
        rw [if_neg (by omega), show q = α.1 0 1 by omega]
        refine sg_M_one_30 ?_
        have hk := wf_Kn hw
        simp (disch := omega) only [wb_eq, Int.toNat_natCast, vM_one hv, vM_Kn hv, sp_bit]
        by_cases w0 : w = 0
        · rw [if_pos w0] at h ⊢; exact h
        rw [if_neg w0] at h ⊢
        by_cases w1 : w = 1
        · rw [if_pos w1] at h ⊢; exact h
        rw [if_neg w1] at h ⊢
        by_cases w2 : w = 2
        · rw [if_pos w2] at h ⊢; exact h
        rw [if_neg w2] at h ⊢
        by_cases w3 : w = 3
        · rw [if_pos w3] at h ⊢
          exact M_nightsOf_ok hv hw hp h
        rw [if_neg w3] at h ⊢
        exact h
      | succ n ih =>
        intro q hq
        have hb := sp_bits_lt (fun q => α.1 4 q == p) q
        have hb2 : 2 ^ q ≤ 2 ^ 6 := Nat.pow_le_pow_right (by decide) (by omega)
        refine sg_M_one_10 ?_
        simp (disch := omega) only [vM_T hv, ii_lt, iw_50, iw_k2, wb_eq, Int.toNat_natCast, vM_keep hv, ii_eq, iw_k1, xior_0]
        rw [if_pos (by omega)]
        by_cases c : α.1 4 q = p
        · rw [if_pos c, sp_bits_or (by omega) (by simp [c])]
          exact ih (q + 1) (by omega)
        · rw [if_neg c, ← sp_bits_no (n := q) (by simp [c])]
          exact ih (q + 1) (by omega)
    exact key (α.1 0 1) 0 (by omega)
  · rw [if_neg c1] at h
    rw [if_pos c1]
    exact h
set_option maxRecDepth 20000 in
theorem M_as_ok {d : Nat} {p k : Int} {μ : Mem} {α : Al} {Q : AV → Mem → Prop} (hv : vM μ α) (hw : wf α) (h : Q (xI (r_as α p k)) μ) : GM (d + 2) 145 [xR 61, xI p, xI k] μ Q := by
  have hT := wf_T hw
  have hP := wf_P hw
  refine ge_M_as ?_
  unfold r_as at h
  simp (disch := omega) only [vM_P hv, in_lo]
  by_cases c0 : p < 0
  · rw [if_pos c0] at h ⊢; exact h
  rw [if_neg c0] at h ⊢
  by_cases c1 : p < ((α.1 0 0 : Nat) : Int)
  · rw [if_pos c1] at h
    rw [if_neg (fun e => e c1)]
    by_cases k0 : k < 0
    · rw [if_pos k0] at h ⊢; exact h
    rw [if_neg k0] at h ⊢
    by_cases k4 : 4 < k
    · rw [if_pos k4] at h ⊢; exact h
    rw [if_neg k4] at h ⊢
    obtain ⟨p, rfl⟩ := Int.eq_ofNat_of_zero_le (show 0 ≤ p by omega)
    rw [Int.toNat_natCast] at h
    have hp : p < α.1 0 0 := by omega
    have key : ∀ (b : Bool) (v2 v3 : AV), sp_asOk (α.1 1 p) k = b → ∀ n q, q + n = α.1 0 1 → DW (d + 2) 145 40 [xR 61, xI (p : Int), v2, v3, xI (if b then 1 else 0), xI ((sp_cnt (fun q => α.1 4 q == p && α.1 4 (α.1 9 q) == p) q : Nat) : Int), xI (q : Int)] μ Q := by
      intro b v2 v3 hb n
      induction n with
      | zero =>
        intro q hq
        refine sg_M_as_40 ?_
        simp (disch := omega) only [vM_T hv, ii_lt]
        rw [if_neg (by omega), show q = α.1 0 1 by omega]
        refine sg_M_as_66 ?_
        cases b with
        | false => rw [hb] at h; simpa using h
        | true => rw [hb] at h; simpa [sp_own] using h
      | succ n ih =>
        intro q hq
        have hb := sp_cnt_le (fun q => α.1 4 q == p && α.1 4 (α.1 9 q) == p) q
        have hl := (wf_lie hw q (by omega)).1
        refine sg_M_as_40 ?_
        simp (disch := omega) only [vM_T hv, ii_lt, iw_50, iw_k2, wb_eq, Int.toNat_natCast, vM_keep hv, vM_lie hv, ii_eq, iw_k1, iw_n0]
        rw [if_pos (by omega)]
        have hi := ih (q + 1) (by omega)
        rw [sp_cnt] at hi
        by_cases c : α.1 4 q = p
        · rw [if_pos c]
          by_cases c2 : α.1 4 (α.1 9 q) = p
          · rw [if_pos c2]
            simpa [c, c2] using hi
          · rw [if_neg c2]
            simpa [c, c2] using hi
        · rw [if_neg c]
          simpa [c] using hi
    have fin : ∀ (b : Bool) (v2 v3 : AV), sp_asOk (α.1 1 p) k = b → DW (d + 2) 145 40 [xR 61, xI (p : Int), v2, v3, xI (if b then 1 else 0), xI 0, xI 0] μ Q := fun b v2 v3 hb => key b v2 v3 hb (α.1 0 1) 0 (by omega)
    simp (disch := omega) only [wb_eq, Int.toNat_natCast, vM_one hv, ii_3]
    by_cases e0 : k = 0
    · rw [if_pos e0]; exact fin true _ _ (by simp [sp_asOk, e0])
    rw [if_neg e0]
    by_cases e1 : k = 1
    · rw [if_pos e1]
      by_cases e3 : α.1 1 p = 3
      · rw [if_pos e3]; exact fin false _ _ (by simp [sp_asOk, e1, e3])
      · rw [if_neg e3]; exact fin true _ _ (by simp [sp_asOk, e1, e3])
    rw [if_neg e1, iw_id (by omega) (by omega)]
    by_cases e4 : ((α.1 1 p : Nat) : Int) = k - 1
    · rw [if_pos e4]; exact fin true _ _ (by simp [sp_asOk, e0, e1, e4])
    · rw [if_neg e4]; exact fin false _ _ (by simp [sp_asOk, e0, e1, e4])
  · rw [if_neg c1] at h
    rw [if_pos c1]
    exact h
