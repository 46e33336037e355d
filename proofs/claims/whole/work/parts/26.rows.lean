/-! the reference's arrangements -/
def b01 (b : Bool) : Int := if b then 1 else 0
theorem M_rowMany_ok {d T : Nat} {μ : Mem} {Q : AV → Mem → Prop} (hT : T ≤ 6) (ht : μ 61 2 = (T : Int)) (h : Q (xI ((fac T : Nat) : Int)) μ) : GM d 168 [xR 61] μ Q := by
  refine ge_M_rowMany ?_
  have key : ∀ m k, k + 1 + m = T + 1 → DW d 168 4 [xR 61, xI ((fac k : Nat) : Int), xI ((k + 1 : Nat) : Int)] μ Q := by
    intro m
    induction m with
    | zero =>
      intro k hk
      refine sg_M_rowMany_4 ?_
      rw [ht, if_pos (by omega), show k = T by omega]
      exact h
    | succ m ih =>
      intro k hk
      refine sg_M_rowMany_4 ?_
      rw [ht, if_neg (by omega), iw_k1 (by omega)]
      have e : iw (((fac k : Nat) : Int) * ((k + 1 : Nat) : Int)) = ((fac (k + 1) : Nat) : Int) := by
        have e1 : ((fac k : Nat) : Int) * ((k + 1 : Nat) : Int) = ((fac (k + 1) : Nat) : Int) := by
          rw [← Int.natCast_mul, fac, Nat.mul_comm]
        rw [e1, iw_nn (by have := (fac_le (k + 1) (by omega)).2; omega)]
      rw [e]
      exact ih (k + 1) (by omega)
  by_cases c : T = 0
  · subst c
    refine sg_M_rowMany_4 ?_
    rw [ht, if_pos (by decide)]
    exact h
  · exact key (T - 1) 1 (by omega)
theorem ly_t_lt : ∀ {f met skip t t' : Nat}, ly_t f met skip t = some t' → t' < t + f
  | 0, _, _, _, _, h => by cases h
  | f + 1, met, skip, t, t', h => by
    unfold ly_t at h
    split at h
    · have := ly_t_lt h; omega
    · split at h
      · have := ly_t_lt h; omega
      · have := Option.some.inj h; omega
theorem or64 {a t : Nat} (ha : a < 64) (ht : t < 6) : a ||| 2 ^ t < 64 := Nat.or_lt_two_pow (n := 6) ha (Nat.pow_lt_pow_right (by decide) ht)
theorem x_or {a t : Nat} (ha : a < 64) (ht : t < 6) : xior (a : Int) (xshl 1 (t : Int)) = ((a ||| 2 ^ t : Nat) : Int) := by
  have h2 : (2 : Nat) ^ t < 2147483648 := Nat.pow_lt_pow_right (n := 31) (by decide) (by omega)
  rw [sp_one (by omega), xior_nat (by omega) h2]
set_option maxRecDepth 20000 in
theorem M_lay_t {d met : Nat} {ν : Mem} {v1 : AV} {l2 l4 l5 : Int} {Q : AV → Mem → Prop} (hm : met < 64) {t' : Nat} (h : ∀ x, DW (d + 1) 169 50 [xR 61, v1, xI l2, xI (met : Int), xI l4, xI l5, xI x, xI (t' : Int)] ν Q) : ∀ f skip t, t + f = 6 → skip < 1000 → ly_t f met skip t = some t' → DW (d + 1) 169 31 [xR 61, v1, xI l2, xI (met : Int), xI l4, xI l5, xI (skip : Int), xI (t : Int)] ν Q := by
  intro f
  induction f with
  | zero => intro skip t _ _ e; cases e
  | succ f ih =>
    intro skip t ht hs e
    refine sg_M_lay_31 ?_
    unfold ly_t at e
    by_cases c : met.testBit t = true
    · rw [if_pos c] at e
      have c' : xand (xshr (met : Int) (t : Int)) 1 = 1 := by rw [sp_bit1 (by omega) (by omega)]; exact c
      rw [if_pos c', if_pos c', iw_s0 (by omega), iw_k1 (by omega)]
      exact ih skip (t + 1) (by omega) hs e
    · rw [if_neg c] at e
      have c' : ¬ xand (xshr (met : Int) (t : Int)) 1 = 1 := by rw [sp_bit1 (by omega) (by omega)]; exact c
      rw [if_neg c']
      by_cases c2 : 0 < skip
      · rw [if_pos c2] at e
        rw [if_pos (by omega), if_neg c', iw_s1 c2 (by omega), iw_k1 (by omega)]
        exact ih (skip - 1) (t + 1) (by omega) (by omega) e
      · rw [if_neg c2] at e
        rw [if_neg (by omega), Option.some.inj e]
        exact h _
set_option maxRecDepth 20000 in
theorem M_lay_go {d T : Nat} {v1 : AV} {Q : AV → Mem → Prop} (hT : T ≤ 6) : ∀ (n p left met ways : Nat) (l : List Nat) (ν : Mem) (v6 v7 : AV), p + n = T → ly n left met ways = some l → met < 64 → left < 1000 → ways < 1000 → ν 61 2 = (T : Int) → (∀ μ', (∀ c j, c ≠ 71 → μ' c j = ν c j) → (∀ i, i < n → μ' 71 (p + i) = ((l.getD i 0 : Nat) : Int)) → (∀ j, j < p → μ' 71 j = ν 71 j) → Q (xI 0) μ') → DW (d + 1) 169 9 [xR 61, v1, xI (left : Int), xI (met : Int), xI (ways : Int), xI (p : Int), v6, v7] ν Q := by
  intro n
  induction n with
  | zero =>
    intro p left met ways l ν v6 v7 hp _ _ _ _ ht h
    refine sg_M_lay_9 ?_
    rw [ht, if_neg (by omega)]
    exact h ν (fun _ _ _ => rfl) (fun i hi => absurd hi (Nat.not_lt_zero i)) (fun _ _ => rfl)
  | succ n ih =>
    intro p left met ways l ν v6 v7 hp hl hm hle hwa ht h
    unfold ly at hl
    split at hl
    · cases hl
    next hw0 =>
    split at hl
    · cases hl
    next t het =>
    split at hl
    · cases hl
    next l' hl' =>
    have el := Option.some.inj hl
    have htl := ly_t_lt het
    have hq : left / (ways / (n + 1)) < 1000 := Nat.lt_of_le_of_lt (Nat.div_le_self _ _) hle
    have hq2 : ways / (n + 1) < 1000 := Nat.lt_of_le_of_lt (Nat.div_le_self _ _) hwa
    have hq3 : left % (ways / (n + 1)) < 1000 := Nat.lt_of_le_of_lt (Nat.mod_le _ _) hle
    refine sg_M_lay_9 ?_
    have e1 : iw ((T : Int) - (p : Int)) = ((n + 1 : Nat) : Int) := by simp only [iw_def]; omega
    rw [ht, if_pos (by omega), e1, xdiv_nat (by omega), xdiv_nat (by omega), xrem_nat, wz_eq (by omega), wz_eq (by omega), wz_eq (by omega)]
    refine M_lay_t hm (fun x => ?_) 6 _ 0 rfl hq het
    refine sg_M_lay_50 ?_
    rw [wb_eq (by omega) (by omega), x_or hm (by omega), iw_k1 (by omega), Int.toNat_natCast]
    refine ih (p + 1) _ _ _ l' _ _ _ (by omega) hl' (or64 hm (by omega)) hq3 hq2 (by rw [xs_c (by decide)]; exact ht) ?_
    intro μ' h1 h2 h3
    refine h μ' (fun c j hc => by rw [h1 c j hc, xs_c hc]) (fun i hi => ?_) (fun j hj => ?_)
    · cases i with
      | zero => rw [← el, Nat.add_zero, h3 p (by omega), xs_s]; rfl
      | succ i =>
        have := h2 i (by omega)
        rw [show p + 1 + i = p + (i + 1) by omega] at this
        rw [this, ← el]; rfl
    · rw [h3 j (by omega), xs_j (by omega)]
theorem M_lay_ok {d T r : Nat} {μ : Mem} {Q : AV → Mem → Prop} (hT : T ≤ 6) (ht : μ 61 2 = (T : Int)) (hr : r < fac T) (h : ∀ μ', (∀ c j, c ≠ 71 → μ' c j = μ c j) → (∀ p, p < T → μ' 71 p = ((rv T r p : Nat) : Int)) → Q (xI 0) μ') : GM (d + 1) 169 [xR 61, xI (r : Int)] μ Q := by
  refine ge_M_lay ?_
  refine M_rowMany_ok hT ht ?_
  refine gI_mk ?_
  have hf := fac_le T hT
  refine M_lay_go hT T 0 r 0 (fac T) (rowL T r) μ _ _ (by omega) (rowL_ly hT hr) (by decide) (by omega) (by omega) ht ?_
  intro μ' h1 h2 _
  refine h μ' h1 (fun p hp => ?_)
  have := h2 p hp
  rw [Nat.zero_add] at this
  exact this
/-! the row of an arrangement -/
theorem sp_cnt_b {f : Nat → Bool} {n : Nat} : sp_cnt f n ≤ n := sp_cnt_le f n
set_option maxRecDepth 20000 in
theorem M_rowOf_t {d met t p : Nat} {ν : Mem} {l1 : Int} {Q : AV → Mem → Prop} (hm : met < 64) (ht : t < 6) (hp : p < 6) (hv : ν 71 p = (t : Int)) (h : ∀ x, DW (d + 1) 173 34 [xR 61, xI l1, xI (met : Int), xI (p : Int), xI ((sp_cnt (fun u => !met.testBit u) t : Nat) : Int), xI x] ν Q) : DW (d + 1) 173 15 [xR 61, xI l1, xI (met : Int), xI (p : Int), xI 0, xI 0] ν Q := by
  have key : ∀ m u, u + m = t → DW (d + 1) 173 15 [xR 61, xI l1, xI (met : Int), xI (p : Int), xI ((sp_cnt (fun u => !met.testBit u) u : Nat) : Int), xI (u : Int)] ν Q := by
    intro m
    induction m with
    | zero =>
      intro u hu
      refine sg_M_rowOf_15 ?_
      rw [wb_eq (by omega) (by omega), Int.toNat_natCast, hv, if_neg (by omega), show u = t by omega]
      exact h _
    | succ m ih =>
      intro u hu
      have hc := sp_cnt_le (fun u => !met.testBit u) u
      have e : sp_cnt (fun u => !met.testBit u) (u + 1) = sp_cnt (fun u => !met.testBit u) u + (if (!met.testBit u) = true then 1 else 0) := rfl
      refine sg_M_rowOf_15 ?_
      rw [wb_eq (by omega) (by omega), Int.toNat_natCast, hv, if_pos (by omega), iw_k1 (by omega), iw_n0 (by omega), iw_k1 (by omega)]
      by_cases c : met.testBit u = true
      · have c' : xand (xshr (met : Int) (u : Int)) 1 = 1 := by rw [sp_bit1 (by omega) (by omega)]; exact c
        rw [if_pos c']
        have := ih (u + 1) (by omega)
        rw [e, if_neg (by rw [c]; decide)] at this
        exact this
      · have c' : ¬ xand (xshr (met : Int) (u : Int)) 1 = 1 := by rw [sp_bit1 (by omega) (by omega)]; exact c
        rw [if_neg c']
        have := ih (u + 1) (by omega)
        rw [e, if_pos (by simp [c])] at this
        exact this
  exact key t 0 (by omega)
theorem row_bd {row n k : Nat} (h1 : row ≤ 6 ^ (6 - (n + 1))) (hn : n + 1 ≤ 6) (hk : k < 6) : row * (n + 1) + k ≤ 6 ^ (6 - n) * 2 := by
  have : row * (n + 1) ≤ 6 ^ (6 - (n + 1)) * 6 := Nat.mul_le_mul h1 hn
  have e : 6 ^ (6 - n) = 6 ^ (6 - (n + 1)) * 6 := by rw [← Nat.pow_succ]; congr 1; omega
  have : 0 < 6 ^ (6 - (n + 1)) := Nat.pow_pos (by decide)
  omega
set_option maxRecDepth 20000 in
theorem M_rowOf_go {d T : Nat} {ν : Mem} {Q : AV → Mem → Prop} (hT : T ≤ 6) (ht : ν 61 2 = (T : Int)) : ∀ (l : List Nat) (p row met : Nat) (v4 v5 : AV), p + l.length = T → (∀ i, i < l.length → ν 71 (p + i) = ((l.getD i 0 : Nat) : Int)) → (∀ x, x ∈ l → x < 6) → met < 64 → row < 7 ^ p → Q (xI ((ro l row met : Nat) : Int)) ν → DW (d + 1) 173 6 [xR 61, xI (row : Int), xI (met : Int), xI (p : Int), v4, v5] ν Q := by
  intro l
  induction l with
  | nil =>
    intro p row met v4 v5 hp _ _ _ _ h
    refine sg_M_rowOf_6 ?_
    simp only [List.length_nil] at hp
    rw [ht, if_neg (by omega)]
    exact h
  | cons t l ih =>
    intro p row met v4 v5 hp hl hx hm hr h
    rw [List.length_cons] at hp
    have h6 : t < 6 := hx t List.mem_cons_self
    refine sg_M_rowOf_6 ?_
    rw [ht, if_pos (by omega)]
    have hv : ν 71 p = (t : Int) := hl 0 (by simp)
    refine M_rowOf_t hm h6 (by omega) hv (fun x => ?_)
    refine sg_M_rowOf_34 ?_
    have hc := sp_cnt_le (fun u => !met.testBit u) t
    have e1 : iw ((T : Int) - (p : Int)) = ((l.length + 1 : Nat) : Int) := by simp only [iw_def]; omega
    have hp5 : p ≤ 5 := by omega
    have h7 : row < 16807 := Nat.lt_of_lt_of_le hr (Nat.pow_le_pow_right (n := 7) (by decide) hp5)
    have hrow : row * (l.length + 1) ≤ row * 6 := Nat.mul_le_mul_left _ (by omega)
    have hnew : row * (l.length + 1) + sp_cnt (fun u => !met.testBit u) t < 7 ^ (p + 1) := by
      rw [Nat.pow_succ]
      have : 0 < 7 ^ p := Nat.pow_pos (by decide)
      by_cases c : row = 0
      · subst c
        by_cases c2 : p = 0
        · subst c2; omega
        · have : 7 ^ 1 ≤ 7 ^ p := Nat.pow_le_pow_right (by decide) (by omega)
          omega
      · omega
    have e2 : iw ((row : Int) * ((l.length + 1 : Nat) : Int)) = ((row * (l.length + 1) : Nat) : Int) := by rw [← Int.natCast_mul, iw_nn (by omega)]
    have e3 : iw (((row * (l.length + 1) : Nat) : Int) + ((sp_cnt (fun u => !met.testBit u) t : Nat) : Int)) = ((row * (l.length + 1) + sp_cnt (fun u => !met.testBit u) t : Nat) : Int) := by rw [← Int.natCast_add, iw_nn (by omega)]
    rw [wb_eq (by omega) (by omega), Int.toNat_natCast, hv, ht, e1, e2, e3, x_or hm h6, iw_k1 (by omega)]
    refine ih (p + 1) _ _ _ _ (by omega) (fun i hi => ?_) (fun x hx' => hx x (List.mem_cons_of_mem t hx')) (or64 hm h6) hnew ?_
    · have := hl (i + 1) (by rw [List.length_cons]; omega)
      rw [show p + 1 + i = p + (i + 1) by omega, this]; rfl
    · exact h
theorem M_rowOf_ok {d T r : Nat} {μ : Mem} {Q : AV → Mem → Prop} (hT : T ≤ 6) (ht : μ 61 2 = (T : Int)) (hr : r < fac T) (hl : ∀ p, p < T → μ 71 p = ((rv T r p : Nat) : Int)) (h : Q (xI (r : Int)) μ) : GM (d + 1) 173 [xR 61] μ Q := by
  refine ge_M_rowOf ?_
  have hlen := rowL_len hT hr
  refine M_rowOf_go hT ht (rowL T r) 0 0 0 _ _ (by omega) (fun i hi => ?_) (fun x hx => ?_) (by decide) (by decide) ?_
  · rw [Nat.zero_add]; exact hl i (by omega)
  · have := ((ex_mem.1 (rowL_mem hT hr)).2.1 x hx).1; omega
  · rw [rowL_ro hT hr]; exact h
/-! what fits -/
def lawB (α : Al) (a : Nat → Nat) : Bool := sp_all (fun p => α.1 3 p == α.1 3 (a p)) (α.1 0 1)
def seenB (α : Al) (a : Nat → Nat) : Bool := sp_all (fun k => decide (sp_works α (a (α.1 11 k)) (α.1 11 k) ((α.1 12 k : Nat) : Int) = ((α.1 13 k : Nat) : Int))) (α.1 0 6)
def fitB (α : Al) (a : Nat → Nat) : Bool := lawB α a && seenB α a
set_option maxRecDepth 20000 in
theorem M_isLawful_ok {d : Nat} {a : Nat → Nat} {μ : Mem} {α : Al} {Q : AV → Mem → Prop} (hv : vM μ α) (hw : wf α) (ha : ∀ p, p < α.1 0 1 → a p < α.1 0 1) (hl : ∀ p, p < α.1 0 1 → μ 71 p = ((a p : Nat) : Int)) (h : Q (xI (b01 (lawB α a))) μ) : GM (d + 1) 170 [xR 61] μ Q := by
  have hT := wf_T hw
  refine ge_M_isLawful ?_
  have key : ∀ m p, p + m = α.1 0 1 → DW (d + 1) 170 4 [xR 61, xI (b01 (sp_all (fun p => α.1 3 p == α.1 3 (a p)) p)), xI (p : Int)] μ Q := by
    intro m
    induction m with
    | zero =>
      intro p hp
      refine sg_M_isLawful_4 ?_
      rw [vM_T hv, if_neg (by omega), show p = α.1 0 1 by omega]
      refine wb_i ?_ ?_ h
      · unfold b01; split <;> decide
      · unfold b01; split <;> decide
    | succ m ih =>
      intro p hp
      have hp' : p < α.1 0 1 := by omega
      have hap := ha p hp'
      have hi := ih (p + 1) (by omega)
      refine sg_M_isLawful_4 ?_
      simp (disch := omega) only [vM_T hv, iw_50, iw_k1, wb_eq, Int.toNat_natCast, hl p hp', vM_look hv, ii_eq, ii_lt]
      rw [if_pos hp']
      rw [sp_all] at hi
      cases e : sp_all (fun p => α.1 3 p == α.1 3 (a p)) p with
      | false =>
        rw [e] at hi
        rw [if_pos (by rfl)]
        exact hi
      | true =>
        rw [e] at hi
        rw [if_neg (by decide)]
        refine wi (fun c => ?_) (fun c => ?_)
        · rw [Bool.true_and, beq_iff_eq.2 c] at hi; exact hi
        · rw [Bool.true_and, beq_eq_false_iff_ne.2 c] at hi; exact hi
  exact key (α.1 0 1) 0 (by omega)
set_option maxRecDepth 20000 in
theorem M_isAsSeen_ok {d : Nat} {a : Nat → Nat} {μ : Mem} {α : Al} {Q : AV → Mem → Prop} (hv : vM μ α) (hw : wf α) (ha : ∀ p, p < α.1 0 1 → a p < α.1 0 1) (hl : ∀ p, p < α.1 0 1 → μ 71 p = ((a p : Nat) : Int)) (h : Q (xI (b01 (seenB α a))) μ) : GM (d + 4) 180 [xR 61] μ Q := by
  have hT := wf_T hw
  have hS := wf_S hw
  refine ge_M_isAsSeen ?_
  have key : ∀ m k v3, k + m = α.1 0 6 → DW (d + 4) 180 4 [xR 61, xI (b01 (sp_all (fun k => decide (sp_works α (a (α.1 11 k)) (α.1 11 k) ((α.1 12 k : Nat) : Int) = ((α.1 13 k : Nat) : Int))) k)), xI (k : Int), v3] μ Q := by
    intro m
    induction m with
    | zero =>
      intro k v3 hk
      refine sg_M_isAsSeen_4 ?_
      rw [vM_S hv, if_neg (by omega), show k = α.1 0 6 by omega]
      refine wb_i ?_ ?_ h
      · unfold b01; split <;> decide
      · unfold b01; split <;> decide
    | succ m ih =>
      intro k v3 hk
      have hk' : k < α.1 0 6 := by omega
      have hp := wf_sp hw k hk'
      have hap := ha _ hp
      have hsv := wf_sv hw k hk'
      refine sg_M_isAsSeen_4 ?_
      simp (disch := omega) only [vM_S hv, iw_3, iw_k1, iw_k2, wb_eq, Int.toNat_natCast, vM_sp hv, vM_sw hv, vM_sv hv, hl _ hp, ii_lt]
      rw [if_pos hk']
      have hi := ih (k + 1) (xI ((α.1 11 k : Nat) : Int)) (by omega)
      rw [sp_all] at hi
      cases e : sp_all (fun k => decide (sp_works α (a (α.1 11 k)) (α.1 11 k) ((α.1 12 k : Nat) : Int) = ((α.1 13 k : Nat) : Int))) k with
      | false =>
        rw [e] at hi
        rw [if_pos (by rfl)]
        exact hi
      | true =>
        rw [e, Bool.true_and] at hi
        rw [if_neg (by decide)]
        refine M_works_ok hv hw hap hp ?_
        refine gI_mk ?_
        have h01 := sp_works01 α (a (α.1 11 k)) (α.1 11 k) ((α.1 12 k : Nat) : Int)
        rw [vM_sv hv k hk']
        refine wi (fun c => ?_) (fun c => ?_)
        · refine wi (fun c2 => ?_) (fun c2 => ?_)
          · rw [decide_eq_true (show _ = _ by omega)] at hi; exact hi
          · rw [decide_eq_false (show ¬ _ = _ by omega)] at hi; exact hi
        · refine wi (fun c2 => ?_) (fun c2 => ?_)
          · rw [decide_eq_true (show _ = _ by omega)] at hi; exact hi
          · rw [decide_eq_false (show ¬ _ = _ by omega)] at hi; exact hi
  exact key (α.1 0 6) 0 _ (by omega)
