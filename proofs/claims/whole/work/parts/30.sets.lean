/-! the class's counts by sets -/
def bc (p0 : Int) : Int := (xand (iw ((iw ((xand (iw ((iw ((xand (iw (p0 - (xand (xushr p0 1) 1431655765))) 858993459) + (xand (xushr (iw (p0 - (xand (xushr p0 1) 1431655765))) 2) 858993459))) + (xushr (iw ((xand (iw (p0 - (xand (xushr p0 1) 1431655765))) 858993459) + (xand (xushr (iw (p0 - (xand (xushr p0 1) 1431655765))) 2) 858993459))) 4))) 252645135) + (xushr (xand (iw ((iw ((xand (iw (p0 - (xand (xushr p0 1) 1431655765))) 858993459) + (xand (xushr (iw (p0 - (xand (xushr p0 1) 1431655765))) 2) 858993459))) + (xushr (iw ((xand (iw (p0 - (xand (xushr p0 1) 1431655765))) 858993459) + (xand (xushr (iw (p0 - (xand (xushr p0 1) 1431655765))) 2) 858993459))) 4))) 252645135) 8))) + (xushr (iw ((xand (iw ((iw ((xand (iw (p0 - (xand (xushr p0 1) 1431655765))) 858993459) + (xand (xushr (iw (p0 - (xand (xushr p0 1) 1431655765))) 2) 858993459))) + (xushr (iw ((xand (iw (p0 - (xand (xushr p0 1) 1431655765))) 858993459) + (xand (xushr (iw (p0 - (xand (xushr p0 1) 1431655765))) 2) 858993459))) 4))) 252645135) + (xushr (xand (iw ((iw ((xand (iw (p0 - (xand (xushr p0 1) 1431655765))) 858993459) + (xand (xushr (iw (p0 - (xand (xushr p0 1) 1431655765))) 2) 858993459))) + (xushr (iw ((xand (iw (p0 - (xand (xushr p0 1) 1431655765))) 858993459) + (xand (xushr (iw (p0 - (xand (xushr p0 1) 1431655765))) 2) 858993459))) 4))) 252645135) 8))) 16))) 63)
theorem bc_chk : ∀ x, x < 64 → bc ((x : Nat) : Int) = ((pop x : Nat) : Int) := by decide +kernel
theorem X_bitCount_ok {d x : Nat} {μ : Mem} {Q : AV → Mem → Prop} (hx : x < 64) (h : Q (xI ((pop x : Nat) : Int)) μ) : GM d 77 [xI (x : Int)] μ Q := by
  refine ge_JInteger_bitCount ?_
  have e := bc_chk x hx
  unfold bc at e
  rw [e]
  exact h
theorem x_andn : ∀ a, a < 64 → ∀ s, s < 64 → xand ((a : Nat) : Int) (xxor ((s : Nat) : Int) (-1)) = ((a &&& (63 ^^^ s) : Nat) : Int) := by decide +kernel
theorem tb_63 : ∀ t, t < 6 → Nat.testBit 63 t = true := by decide
theorem tb_andn {a s t : Nat} (ht : t < 6) : (a &&& (63 ^^^ s)).testBit t = (a.testBit t && !s.testBit t) := by
  rw [Nat.testBit_and, Nat.testBit_xor, tb_63 t ht, Bool.true_xor]
theorem pop_le : ∀ T, T < 7 → ∀ s, s < 2 ^ T → pop s ≤ T ∧ (s < 2 ^ T - 1 → pop s < T) ∧ (0 < s → 0 < pop s) := by decide +kernel
theorem pop_full : ∀ T, T < 7 → pop (2 ^ T - 1) = T := by decide
theorem bit_lt : ∀ T, T < 7 → ∀ s, s < 2 ^ T → ∀ t, t < T → s ||| 2 ^ t < 2 ^ T ∧ s ^^^ 2 ^ t < 2 ^ T := by decide +kernel
theorem x_xo {a t : Nat} (ha : a < 64) (ht : t < 6) : xxor (a : Int) (xshl 1 (t : Int)) = ((a ^^^ 2 ^ t : Nat) : Int) := by
  have h2 : (2 : Nat) ^ t < 2147483648 := Nat.pow_lt_pow_right (n := 31) (by decide) (by omega)
  rw [sp_one (by omega), xxor_nat (by omega) h2]
theorem sp_all_no {f : Nat → Bool} {k : Nat} : ∀ {n : Nat}, k < n → f k = false → sp_all f n = false := by
  intro n hk hf
  cases e : sp_all f n with
  | false => rfl
  | true => have := sp_all_iff.1 e k hk; rw [hf] at this; cases this
set_option maxRecDepth 20000 in
theorem X_agrees_ok {d p t : Nat} {μ : Mem} {α : Al} {Q : AV → Mem → Prop} (hv : vX μ α) (hw : wf α) (hp : p < α.1 0 1) (ht : t < α.1 0 1) (h : Q (xI (b01 (sp_all (fun k => !(α.1 11 k == p) || decide (sp_works α t p ((α.1 12 k : Nat) : Int) = ((α.1 13 k : Nat) : Int))) (α.1 0 6)))) μ) : GM (d + 2) 91 [xR 7, xR 3, xI (t : Int), xI (p : Int)] μ Q := by
  have hS := wf_S hw
  refine ge_Seen_agrees ?_
  have key : ∀ m k, k + m = α.1 0 6 → (∀ j, j < k → (!(α.1 11 j == p) || decide (sp_works α t p ((α.1 12 j : Nat) : Int) = ((α.1 13 j : Nat) : Int))) = true) → DW (d + 2) 91 2 [xR 7, xR 3, xI (t : Int), xI (p : Int), xI (k : Int)] μ Q := by
    intro m
    induction m with
    | zero =>
      intro k hk hz
      refine sg_Seen_agrees_2 ?_
      rw [vX_S hv, if_neg (by omega)]
      have e := sp_all_iff.2 hz
      rw [show k = α.1 0 6 by omega] at e
      rw [e] at h
      exact h
    | succ m ih =>
      intro k hk hz
      have hk' : k < α.1 0 6 := by omega
      refine sg_Seen_agrees_2 ?_
      simp (disch := omega) only [vX_S hv, wb_eq, Int.toNat_natCast, vX_sp hv, vX_sw hv, vX_sv hv, iw_k1, ii_lt, ii_eq]
      rw [if_pos hk']
      have go : (!(α.1 11 k == p) || decide (sp_works α t p ((α.1 12 k : Nat) : Int) = ((α.1 13 k : Nat) : Int))) = true → DW (d + 2) 91 2 [xR 7, xR 3, xI (t : Int), xI (p : Int), xI ((k + 1 : Nat) : Int)] μ Q := fun e => by
        refine ih (k + 1) (by omega) (fun j hj => ?_)
        by_cases c : j = k
        · rw [c]; exact e
        · exact hz j (by omega)
      refine wi (fun c => ?_) (fun c => ?_)
      · refine X_works_ok hv hw ht hp ?_
        refine gI_mk ?_
        rw [vX_sv hv k hk']
        refine wi (fun c2 => ?_) (fun c2 => ?_)
        · exact go (by rw [decide_eq_true c2, Bool.or_true])
        · have e : (!(α.1 11 k == p) || decide (sp_works α t p ((α.1 12 k : Nat) : Int) = ((α.1 13 k : Nat) : Int))) = false := by
            rw [decide_eq_false c2, beq_iff_eq.2 c]; rfl
          rw [sp_all_no hk' e] at h
          exact h
      · exact go (by rw [beq_eq_false_iff_ne.2 c]; rfl)
  exact key (α.1 0 6) 0 (by omega) (fun j hj => absurd hj (Nat.not_lt_zero j))
set_option maxRecDepth 20000 in
theorem X_allowedIn_ok {d p : Nat} {μ : Mem} {α : Al} {Q : AV → Mem → Prop} (hv : vX μ α) (hw : wf α) (hp : p < α.1 0 1) (h : Q (xI ((sp_bits (al α p) (α.1 0 1) : Nat) : Int)) μ) : GM (d + 3) 90 [xR 10, xI (p : Int)] μ Q := by
  have hT := wf_T hw
  refine ge_Fits_allowedIn ?_
  have key : ∀ m t, t + m = α.1 0 1 → DW (d + 3) 90 4 [xR 10, xI (p : Int), xI ((sp_bits (al α p) t : Nat) : Int), xI (t : Int)] μ Q := by
    intro m
    induction m with
    | zero =>
      intro t ht
      refine sg_Fits_allowedIn_4 ?_
      rw [vX_T hv, if_neg (by omega), show t = α.1 0 1 by omega]
      exact h
    | succ m ih =>
      intro t ht
      have ht' : t < α.1 0 1 := by omega
      have hi := ih (t + 1) (by omega)
      refine sg_Fits_allowedIn_4 ?_
      simp (disch := omega) only [vX_T hv, wb_eq, Int.toNat_natCast, vX_look hv, iw_k1, ii_lt, ii_eq]
      rw [if_pos ht']
      have no : ¬ al α p t = true → DW (d + 3) 90 4 [xR 10, xI (p : Int), xI ((sp_bits (al α p) t : Nat) : Int), xI ((t + 1 : Nat) : Int)] μ Q := fun c => by
        rw [sp_bits_no c] at hi; exact hi
      refine wi (fun c => ?_) (fun c => ?_)
      · refine X_agrees_ok hv hw hp ht' ?_
        refine gI_mk ?_
        cases e : sp_all (fun k => !(α.1 11 k == p) || decide (sp_works α t p ((α.1 12 k : Nat) : Int) = ((α.1 13 k : Nat) : Int))) (α.1 0 6) with
        | false =>
          rw [if_pos (by rfl)]
          refine no (fun e2 => ?_)
          unfold al at e2
          rw [e, Bool.and_false] at e2
          cases e2
        | true =>
          rw [if_neg (by decide)]
          have e2 : al α p t = true := by unfold al; rw [e, beq_iff_eq.2 c]; rfl
          rw [sp_bits_or (by omega) e2]
          exact hi
      · refine no (fun e2 => ?_)
        unfold al at e2
        rw [beq_eq_false_iff_ne.2 c] at e2
        cases e2
  exact key (α.1 0 1) 0 (by omega)
theorem pw6 {T n : Nat} (hT : T ≤ 6) (hn : n ≤ 6) : T ^ n ≤ 46656 :=
  Nat.le_trans (Nat.pow_le_pow_left hT n) (Nat.pow_le_pow_right (n := 6) (by decide) hn)
def fh (α : Al) (k s : Nat) : Nat → Nat := fun t => if s.testBit t then (if al α k t then hd (α.1 0 1) (al α) k (s ^^^ 2 ^ t) else 0) else 0
def ftl (α : Al) (n s : Nat) : Nat → Nat := fun t => if s.testBit t then 0 else if al α (α.1 0 1 - (n + 1)) t then tl (α.1 0 1) (al α) n (s ||| 2 ^ t) else 0
theorem fh_le {α : Al} (hT : α.1 0 1 ≤ 6) {k s : Nat} (hk : k ≤ 6) (t : Nat) : fh α k s t ≤ 46656 := by
  have h := Nat.le_trans (hd_le (T := α.1 0 1) (al α) k (s ^^^ 2 ^ t)) (pw6 hT hk)
  unfold fh
  split
  · split
    · exact h
    · omega
  · omega
theorem ftl_le {α : Al} (hT : α.1 0 1 ≤ 6) {k s : Nat} (hk : k ≤ 6) (t : Nat) : ftl α k s t ≤ 46656 := by
  have h := Nat.le_trans (tl_le (T := α.1 0 1) (al α) k (s ||| 2 ^ t)) (pw6 hT hk)
  unfold ftl
  split
  · omega
  · split
    · exact h
    · omega
theorem iw_ad {a b : Nat} (h : a + b < 2147483648) : iw ((a : Int) + (b : Int)) = ((a + b : Nat) : Int) := by rw [← Int.natCast_add, iw_nn h]
def vA (μ : Mem) (α : Al) : Prop := ∀ p, p < α.1 0 1 → μ 51 p = ((sp_bits (al α p) (α.1 0 1) : Nat) : Int)
def vH (μ : Mem) (α : Al) (n : Nat) : Prop := ∀ s, s < n → μ 52 s = ((hd (α.1 0 1) (al α) (pop s) s : Nat) : Int)
def vT (μ : Mem) (α : Al) (n : Nat) : Prop := ∀ s, n ≤ s → s < 2 ^ α.1 0 1 → μ 53 s = ((tl (α.1 0 1) (al α) (α.1 0 1 - pop s) s : Nat) : Int)
set_option maxRecDepth 20000 in
theorem X_heads_ok {d : Nat} {μ : Mem} {α : Al} {Q : AV → Mem → Prop} (hv : vX μ α) (hw : wf α) (hA : vA μ α) (h : ∀ μ', (∀ c j, c ≠ 52 → μ' c j = μ c j) → vH μ' α (2 ^ α.1 0 1) → Q (xI 0) μ') : GM (d + 1) 92 [xR 10, xI ((2 ^ α.1 0 1 - 1 : Nat) : Int)] μ Q := by
  have hT := wf_T hw
  have h64 := p2 hT
  have hpos : 0 < 2 ^ α.1 0 1 := Nat.pow_pos (by decide)
  refine ge_Fits_weighHeads ?_
  have key : ∀ m s (ν : Mem) v3 v4 v5, s + m = 2 ^ α.1 0 1 → 0 < s → (∀ c j, c ≠ 52 → ν c j = μ c j) → vH ν α s → DW (d + 1) 92 7 [xR 10, xI ((2 ^ α.1 0 1 - 1 : Nat) : Int), xI (s : Int), v3, v4, v5] ν Q := by
    intro m
    induction m with
    | zero =>
      intro s ν v3 v4 v5 hs h0 hf hH
      refine sg_Fits_weighHeads_7 ?_
      rw [if_pos (by omega)]
      rw [show s = 2 ^ α.1 0 1 by omega] at hH
      exact h ν hf hH
    | succ m ih =>
      intro s ν v3 v4 v5 hs h0 hf hH
      have hs2 : s < 2 ^ α.1 0 1 := by omega
      have pl := pop_le _ (show α.1 0 1 < 7 by omega) s hs2
      have ppos := pl.2.2 h0
      obtain ⟨k, hk⟩ : ∃ k, pop s = k + 1 := ⟨pop s - 1, by omega⟩
      have hkT : k < α.1 0 1 := by omega
      have hT1 : ν 2 1 = ((α.1 0 1 : Nat) : Int) := (hf 2 1 (by decide)).trans (vX_T hv)
      have hAk := sp_bits64 (al α k) hT
      refine sg_Fits_weighHeads_7 ?_
      rw [if_neg (by omega)]
      refine X_bitCount_ok (by omega) ?_
      refine gI_mk ?_
      rw [hk, iw_s1 (by omega) (by omega), show k + 1 - 1 = k from rfl, wb_eq (by omega) (by omega), Int.toNat_natCast, hf 51 k (by decide), hA k hkT, xand_nat (by omega)]
      have inn : ∀ j t, t + j = α.1 0 1 → DW (d + 1) 92 25 [xR 10, xI ((2 ^ α.1 0 1 - 1 : Nat) : Int), xI (s : Int), xI ((s &&& sp_bits (al α k) (α.1 0 1) : Nat) : Int), xI ((sm (fh α k s) t : Nat) : Int), xI (t : Int)] ν Q := by
        intro j
        induction j with
        | zero =>
          intro t ht
          refine sg_Fits_weighHeads_25 ?_
          rw [hT1, if_neg (by omega)]
          refine sg_Fits_weighHeads_51 ?_
          rw [wb_eq (by omega) (by omega), iw_k1 (by omega), Int.toNat_natCast]
          refine ih (s + 1) _ _ _ _ (by omega) (by omega) (fun c j hc => by rw [xs_c hc]; exact hf c j hc) (fun s' hs' => ?_)
          by_cases c : s' = s
          · rw [c, xs_s, hk, show t = α.1 0 1 by omega]; rfl
          · rw [xs_j c]; exact hH s' (by omega)
        | succ j ihj =>
          intro t ht
          have htT : t < α.1 0 1 := by omega
          have hi := ihj (t + 1) (by omega)
          have hsl : s &&& sp_bits (al α k) (α.1 0 1) < 64 := Nat.lt_of_le_of_lt Nat.and_le_left (by omega)
          have hb := sm_le (f := fh α k s) (c := 46656) t (fun i _ => fh_le hT (by omega) i)
          have hb2 : t * 46656 ≤ 6 * 46656 := Nat.mul_le_mul_right _ (by omega)
          have hb3 := fh_le hT (k := k) (s := s) (show k ≤ 6 by omega) t
          refine sg_Fits_weighHeads_25 ?_
          rw [hT1, if_pos (by omega), iw_k1 (by omega)]
          have e : sm (fh α k s) (t + 1) = sm (fh α k s) t + fh α k s t := rfl
          rw [e] at hi
          by_cases c : s.testBit t = true ∧ al α k t = true
          · have c' : xand (xshr ((s &&& sp_bits (al α k) (α.1 0 1) : Nat) : Int) (t : Int)) 1 = 1 := by
              rw [sp_bit1 (by omega) (by omega), Nat.testBit_and, sp_bits_tb, c.1, c.2, decide_eq_true htT]; rfl
            have ck := (pop_chk s (by omega) t (by omega)).1 c.1
            have ef : fh α k s t = hd (α.1 0 1) (al α) k (s ^^^ 2 ^ t) := by unfold fh; rw [if_pos c.1, if_pos c.2]
            have eh := hH (s ^^^ 2 ^ t) ck.2.2.1
            rw [show pop (s ^^^ 2 ^ t) = k by omega] at eh
            rw [if_pos c', x_xo (by omega) (by omega), wb_eq (by omega) (by omega), Int.toNat_natCast, eh, ← ef, iw_ad (by omega)]
            exact hi
          · have c' : ¬ xand (xshr ((s &&& sp_bits (al α k) (α.1 0 1) : Nat) : Int) (t : Int)) 1 = 1 := by
              rw [sp_bit1 (by omega) (by omega), Nat.testBit_and, sp_bits_tb, decide_eq_true htT, Bool.true_and, Bool.and_eq_true]
              exact c
            have ef : fh α k s t = 0 := by
              unfold fh
              by_cases c1 : s.testBit t = true
              · rw [if_pos c1, if_neg (fun c2 => c ⟨c1, c2⟩)]
              · rw [if_neg c1]
            rw [if_neg c']
            rw [ef, Nat.add_zero] at hi
            exact hi
      exact inn (α.1 0 1) 0 (by omega)
  refine key (2 ^ α.1 0 1 - 1) 1 _ _ _ _ (by omega) (by decide) (fun c j hc => xs_c hc) (fun s hs => ?_)
  rw [show s = 0 by omega, xs_s]; rfl
set_option maxRecDepth 20000 in
theorem X_tails_ok {d : Nat} {μ : Mem} {α : Al} {Q : AV → Mem → Prop} (hv : vX μ α) (hw : wf α) (hA : vA μ α) (h : ∀ μ', (∀ c j, c ≠ 53 → μ' c j = μ c j) → vT μ' α 0 → Q (xI 0) μ') : GM (d + 1) 93 [xR 10, xI ((2 ^ α.1 0 1 - 1 : Nat) : Int)] μ Q := by
  have hT := wf_T hw
  have h64 := p2 hT
  have hpos : 0 < 2 ^ α.1 0 1 := Nat.pow_pos (by decide)
  refine ge_Fits_weighTails ?_
  have key : ∀ s (ν : Mem) v1 v3 v4 v5, s < 2 ^ α.1 0 1 → (∀ c j, c ≠ 53 → ν c j = μ c j) → vT ν α s → DW (d + 1) 93 9 [xR 10, v1, xI ((s : Int) - 1), v3, v4, v5] ν Q := by
    intro s
    induction s with
    | zero =>
      intro ν v1 v3 v4 v5 hs hf hH
      refine sg_Fits_weighTails_9 ?_
      rw [if_pos (by decide)]
      exact h ν hf hH
    | succ s ih =>
      intro ν v1 v3 v4 v5 hs hf hH
      have hs2 : s < 2 ^ α.1 0 1 := by omega
      have pl := pop_le _ (show α.1 0 1 < 7 by omega) s hs2
      have pT := pl.2.1 (by omega)
      obtain ⟨n, hn⟩ : ∃ n, α.1 0 1 - pop s = n + 1 := ⟨α.1 0 1 - pop s - 1, by omega⟩
      have hps : α.1 0 1 - (n + 1) = pop s := by omega
      have hT1 : ν 2 1 = ((α.1 0 1 : Nat) : Int) := (hf 2 1 (by decide)).trans (vX_T hv)
      have hAk := sp_bits64 (al α (pop s)) hT
      rw [show ((s + 1 : Nat) : Int) - 1 = (s : Int) by omega]
      refine sg_Fits_weighTails_9 ?_
      rw [if_neg (by omega)]
      refine X_bitCount_ok (by omega) ?_
      refine gI_mk ?_
      rw [wb_eq (by omega) (by omega), Int.toNat_natCast, hf 51 _ (by decide), hA _ pT, x_andn _ hAk s (by omega)]
      have inn : ∀ j t, t + j = α.1 0 1 → DW (d + 1) 93 26 [xR 10, v1, xI (s : Int), xI ((sp_bits (al α (pop s)) (α.1 0 1) &&& (63 ^^^ s) : Nat) : Int), xI ((sm (ftl α n s) t : Nat) : Int), xI (t : Int)] ν Q := by
        intro j
        induction j with
        | zero =>
          intro t ht
          refine sg_Fits_weighTails_26 ?_
          rw [hT1, if_neg (by omega)]
          refine sg_Fits_weighTails_52 ?_
          have e1 : iw ((s : Int) + (-1)) = (s : Int) - 1 := by simp only [iw_def]; omega
          rw [wb_eq (by omega) (by omega), e1, Int.toNat_natCast]
          refine ih _ _ _ _ _ (by omega) (fun c j hc => by rw [xs_c hc]; exact hf c j hc) (fun s' hs' hs3 => ?_)
          by_cases c : s' = s
          · rw [c, xs_s, hn, show t = α.1 0 1 by omega]; rfl
          · rw [xs_j c]; exact hH s' (by omega) hs3
        | succ j ihj =>
          intro t ht
          have htT : t < α.1 0 1 := by omega
          have hi := ihj (t + 1) (by omega)
          have hsl : sp_bits (al α (pop s)) (α.1 0 1) &&& (63 ^^^ s) < 64 := Nat.lt_of_le_of_lt Nat.and_le_left (by omega)
          have hb := sm_le (f := ftl α n s) (c := 46656) t (fun i _ => ftl_le hT (by omega) i)
          have hb2 : t * 46656 ≤ 6 * 46656 := Nat.mul_le_mul_right _ (by omega)
          have hb3 := ftl_le hT (k := n) (s := s) (show n ≤ 6 by omega) t
          refine sg_Fits_weighTails_26 ?_
          rw [hT1, if_pos (by omega), iw_k1 (by omega)]
          have e : sm (ftl α n s) (t + 1) = sm (ftl α n s) t + ftl α n s t := rfl
          rw [e] at hi
          by_cases c : s.testBit t = false ∧ al α (pop s) t = true
          · have c' : xand (xshr ((sp_bits (al α (pop s)) (α.1 0 1) &&& (63 ^^^ s) : Nat) : Int) (t : Int)) 1 = 1 := by
              rw [sp_bit1 (by omega) (by omega), tb_andn (by omega), sp_bits_tb, c.1, c.2, decide_eq_true htT]; rfl
            have ck := (pop_chk s (by omega) t (by omega)).2 c.1
            have bl := (bit_lt _ (show α.1 0 1 < 7 by omega) s hs2 t htT).1
            have ef : ftl α n s t = tl (α.1 0 1) (al α) n (s ||| 2 ^ t) := by unfold ftl; rw [if_neg (by rw [c.1]; decide), hps, if_pos c.2]
            have eh := hH (s ||| 2 ^ t) (by omega) bl
            rw [show α.1 0 1 - pop (s ||| 2 ^ t) = n by omega] at eh
            rw [if_pos c', x_or (by omega) (by omega), wb_eq (by omega) (by omega), Int.toNat_natCast, eh, ← ef, iw_ad (by omega)]
            exact hi
          · have c' : ¬ xand (xshr ((sp_bits (al α (pop s)) (α.1 0 1) &&& (63 ^^^ s) : Nat) : Int) (t : Int)) 1 = 1 := by
              rw [sp_bit1 (by omega) (by omega), tb_andn (by omega), sp_bits_tb, decide_eq_true htT, Bool.true_and, Bool.and_eq_true, Bool.not_eq_true']
              exact fun w => c ⟨w.2, w.1⟩
            have ef : ftl α n s t = 0 := by
              unfold ftl
              by_cases c1 : s.testBit t = true
              · rw [if_pos c1]
              · rw [if_neg c1, hps, if_neg (fun c2 => c ⟨by simpa using c1, c2⟩)]
            rw [if_neg c']
            rw [ef, Nat.add_zero] at hi
            exact hi
      exact inn (α.1 0 1) 0 (by omega)
  have e1 : iw (((2 ^ α.1 0 1 - 1 : Nat) : Int) - 1) = ((2 ^ α.1 0 1 - 1 : Nat) : Int) - 1 := by simp only [iw_def]; omega
  rw [wb_eq (by omega) (by omega), Int.toNat_natCast, e1]
  refine key (2 ^ α.1 0 1 - 1) _ _ _ _ _ (by omega) (fun c j hc => xs_c hc) (fun s hs hs2 => ?_)
  have es : s = 2 ^ α.1 0 1 - 1 := by omega
  rw [es, xs_s, pop_full _ (by omega), Nat.sub_self]
  rfl

