/-! the class: how many lay a thing in a place -/
def LT (α : Al) (p t s : Nat) : Nat := if pop s = p then (if s.testBit t then 0 else if al α p t then hd (α.1 0 1) (al α) p s * tl (α.1 0 1) (al α) (α.1 0 1 - (p + 1)) (s ||| 2 ^ t) else 0) else 0
theorem LT_le {α : Al} (hT : α.1 0 1 ≤ 6) {p : Nat} (hp : p < α.1 0 1) (t s : Nat) : LT α p t s ≤ 46656 := by
  have h : hd (α.1 0 1) (al α) p s * tl (α.1 0 1) (al α) (α.1 0 1 - (p + 1)) (s ||| 2 ^ t) ≤ 46656 := by
    refine Nat.le_trans (Nat.mul_le_mul (hd_le (al α) p s) (tl_le (al α) _ _)) ?_
    rw [← Nat.pow_add]
    exact pw6 hT (by omega)
  unfold LT
  split
  · split
    · omega
    · split
      · exact h
      · omega
  · omega
theorem LY_LT {α : Al} (hw : wf α) {p t : Nat} (hp : p < α.1 0 1) (ht : t < α.1 0 1) : LY α p t = sm (LT α p t) (2 ^ α.1 0 1 - 1) := by
  have hT := wf_T hw
  have hpos : 0 < 2 ^ α.1 0 1 := Nat.pow_pos (by decide)
  have e := LY_flow hw hp ht
  have e2 : sm (LT α p t) (2 ^ α.1 0 1) = sm (LT α p t) (2 ^ α.1 0 1 - 1) := by
    obtain ⟨m, hm⟩ : ∃ m, 2 ^ α.1 0 1 = m + 1 := ⟨2 ^ α.1 0 1 - 1, by omega⟩
    rw [hm, Nat.add_sub_cancel, sm]
    have hz : LT α p t m = 0 := by
      unfold LT
      have := pop_full _ (show α.1 0 1 < 7 by omega)
      rw [show m = 2 ^ α.1 0 1 - 1 by omega, this, if_neg (by omega)]
    rw [hz]; rfl
  rw [e, ← e2]
  rfl
theorem X_fill54_ok {d : Nat} {μ : Mem} {Q : AV → Mem → Prop} (h : ∀ μ', (∀ c j, c ≠ 54 → μ' c j = μ c j) → (∀ j, j < 36 → μ' 54 j = 0) → Q (xI 0) μ') : GM d 95 [xR 54, xI 0] μ Q := by
  refine ge_JArrays_fill_54 ?_
  refine lp_up (fun i (ν : Mem) => DW d 95 5 [xR 54, xI 0, xI (i : Int), xI 36] ν Q) (fun i ν => (∀ c j, c ≠ 54 → ν c j = μ c j) ∧ ∀ j, j < i → ν 54 j = 0) 36 ?_ ?_ 36 0 μ rfl ⟨fun _ _ _ => rfl, fun j hj => absurd hj (Nat.not_lt_zero j)⟩
  · intro i ν hi hI hn
    refine sg_JArrays_fill_54_5 ?_
    rw [if_pos (by omega), wb_eq (by omega) (by omega), iw_k1 (by omega), Int.toNat_natCast]
    refine hn _ ⟨fun c j hc => by rw [xs_c hc]; exact hI.1 c j hc, fun j hj => ?_⟩
    by_cases c : j = i
    · rw [c]; exact xs_s
    · rw [xs_j c]; exact hI.2 j (by omega)
  · intro ν hI
    refine sg_JArrays_fill_54_5 ?_
    rw [if_neg (by omega)]
    exact h ν hI.1 hI.2
def vL (μ : Mem) (α : Al) : Prop := ∀ p t, p < α.1 0 1 → t < α.1 0 1 → μ 54 (p * 6 + t) = ((LY α p t : Nat) : Int)
theorem iw_66 {p t : Nat} (hp : p < 100) (ht : t < 100) : iw (iw ((p : Int) * 6) + (t : Int)) = ((p * 6 + t : Nat) : Int) := by simp only [iw_def]; omega
set_option maxRecDepth 20000 in
theorem X_lying_ok {d : Nat} {μ : Mem} {α : Al} {Q : AV → Mem → Prop} (hv : vX μ α) (hw : wf α) (hA : vA μ α) (hH : vH μ α (2 ^ α.1 0 1)) (hTl : vT μ α 0) (h : ∀ μ', (∀ c j, c ≠ 54 → μ' c j = μ c j) → vL μ' α → Q (xI 0) μ') : GM (d + 1) 94 [xR 10, xI ((2 ^ α.1 0 1 - 1 : Nat) : Int)] μ Q := by
  have hT := wf_T hw
  have h64 := p2 hT
  have hpos : 0 < 2 ^ α.1 0 1 := Nat.pow_pos (by decide)
  refine ge_Fits_weighLying ?_
  refine X_fill54_ok (fun μ1 f1 z1 => ?_)
  refine gV_mk ?_
  have key : ∀ m s (ν : Mem) v3 v4 v5, s + m = 2 ^ α.1 0 1 - 1 → (∀ c j, c ≠ 54 → ν c j = μ c j) → (∀ p t, p < α.1 0 1 → t < α.1 0 1 → ν 54 (p * 6 + t) = ((sm (LT α p t) s : Nat) : Int)) → DW (d + 1) 94 6 [xR 10, xI ((2 ^ α.1 0 1 - 1 : Nat) : Int), xI (s : Int), v3, v4, v5] ν Q := by
    intro m
    induction m with
    | zero =>
      intro s ν v3 v4 v5 hs hf hI
      refine sg_Fits_weighLying_6 ?_
      rw [if_neg (by omega)]
      refine h ν hf (fun p t hp ht => ?_)
      rw [hI p t hp ht, LY_LT hw hp ht, show s = 2 ^ α.1 0 1 - 1 by omega]
    | succ m ih =>
      intro s ν v3 v4 v5 hs hf hI
      have hs2 : s < 2 ^ α.1 0 1 := by omega
      have pl := pop_le _ (show α.1 0 1 < 7 by omega) s hs2
      have pT := pl.2.1 (by omega)
      have hAk := sp_bits64 (al α (pop s)) hT
      refine sg_Fits_weighLying_6 ?_
      rw [if_pos (by omega)]
      refine X_bitCount_ok (by omega) ?_
      refine gI_mk ?_
      rw [wb_eq (by omega) (by omega), Int.toNat_natCast, hf 51 _ (by decide), hA _ pT, x_andn _ hAk s (by omega)]
      have inn : ∀ j t (ν : Mem), t + j = α.1 0 1 → (∀ c j, c ≠ 54 → ν c j = μ c j) → (∀ p t', p < α.1 0 1 → t' < α.1 0 1 → ν 54 (p * 6 + t') = ((sm (LT α p t') (if p = pop s ∧ t' < t then s + 1 else s) : Nat) : Int)) → DW (d + 1) 94 24 [xR 10, xI ((2 ^ α.1 0 1 - 1 : Nat) : Int), xI (s : Int), xI ((pop s : Nat) : Int), xI ((sp_bits (al α (pop s)) (α.1 0 1) &&& (63 ^^^ s) : Nat) : Int), xI (t : Int)] ν Q := by
        intro j
        induction j with
        | zero =>
          intro t ν ht hf hI
          have hT1 : ν 2 1 = ((α.1 0 1 : Nat) : Int) := (hf 2 1 (by decide)).trans (vX_T hv)
          refine sg_Fits_weighLying_24 ?_
          rw [hT1, if_neg (by omega)]
          refine sg_Fits_weighLying_63 ?_
          rw [iw_k1 (by omega)]
          refine ih (s + 1) ν _ _ _ (by omega) hf (fun p t' hp ht' => ?_)
          rw [hI p t' hp ht']
          by_cases c : p = pop s
          · rw [if_pos ⟨c, by omega⟩]
          · rw [if_neg (fun w => c w.1), sm]
            have hz : LT α p t' s = 0 := by unfold LT; rw [if_neg (fun e => c e.symm)]
            rw [hz]; rfl
        | succ j ihj =>
          intro t ν ht hf hI
          have htT : t < α.1 0 1 := by omega
          have hT1 : ν 2 1 = ((α.1 0 1 : Nat) : Int) := (hf 2 1 (by decide)).trans (vX_T hv)
          have hsl : sp_bits (al α (pop s)) (α.1 0 1) &&& (63 ^^^ s) < 64 := Nat.lt_of_le_of_lt Nat.and_le_left (by omega)
          have hb := sm_le (f := LT α (pop s) t) (c := 46656) s (fun i _ => LT_le hT pT t i)
          have hb2 : s * 46656 ≤ 64 * 46656 := Nat.mul_le_mul_right _ (by omega)
          have hb3 := LT_le hT pT t s
          have e : sm (LT α (pop s) t) (s + 1) = sm (LT α (pop s) t) s + LT α (pop s) t s := rfl
          refine sg_Fits_weighLying_24 ?_
          rw [hT1, if_pos (by omega), iw_k1 (by omega)]
          by_cases c : s.testBit t = false ∧ al α (pop s) t = true
          · have c' : xand (xshr ((sp_bits (al α (pop s)) (α.1 0 1) &&& (63 ^^^ s) : Nat) : Int) (t : Int)) 1 = 1 := by
              rw [sp_bit1 (by omega) (by omega), tb_andn (by omega), sp_bits_tb, c.1, c.2, decide_eq_true htT]; rfl
            have ck := (pop_chk s (by omega) t (by omega)).2 c.1
            have bl := (bit_lt _ (show α.1 0 1 < 7 by omega) s hs2 t htT).1
            have ef : LT α (pop s) t s = hd (α.1 0 1) (al α) (pop s) s * tl (α.1 0 1) (al α) (α.1 0 1 - (pop s + 1)) (s ||| 2 ^ t) := by unfold LT; rw [if_pos rfl, if_neg (by rw [c.1]; decide), if_pos c.2]
            have eT := hTl (s ||| 2 ^ t) (by omega) bl
            rw [ck.1] at eT
            have eI := hI (pop s) t pT htT
            rw [if_neg (fun w => by omega)] at eI
            rw [if_pos c', iw_66 (by omega) (by omega), x_or (by omega) (by omega), wb_eq (by omega) (by omega), wb_eq (by omega) (by omega), wb_eq (by omega) (by omega), wb_eq (by omega) (by omega), Int.toNat_natCast, Int.toNat_natCast, Int.toNat_natCast, eI, hf 52 s (by decide), hf 53 _ (by decide), hH s hs2, eT, ← Int.natCast_mul, ← ef, iw_nn (by omega), iw_ad (by omega), ← e]
            refine ihj (t + 1) _ (by omega) (fun c j hc => by rw [xs_c hc]; exact hf c j hc) (fun p t' hp ht' => ?_)
            by_cases c2 : p = pop s ∧ t' = t
            · rw [c2.1, c2.2, xs_s, if_pos ⟨rfl, by omega⟩]
            · rw [xs_j (by omega), hI p t' hp ht']
              by_cases c3 : p = pop s ∧ t' < t
              · rw [if_pos c3, if_pos ⟨c3.1, by omega⟩]
              · rw [if_neg c3, if_neg (fun w => by omega)]
          · have c' : ¬ xand (xshr ((sp_bits (al α (pop s)) (α.1 0 1) &&& (63 ^^^ s) : Nat) : Int) (t : Int)) 1 = 1 := by
              rw [sp_bit1 (by omega) (by omega), tb_andn (by omega), sp_bits_tb, decide_eq_true htT, Bool.true_and, Bool.and_eq_true, Bool.not_eq_true']
              exact fun w => c ⟨w.2, w.1⟩
            have ef : LT α (pop s) t s = 0 := by
              unfold LT
              rw [if_pos rfl]
              by_cases c1 : s.testBit t = true
              · rw [if_pos c1]
              · rw [if_neg c1, if_neg (fun c2 => c ⟨by simpa using c1, c2⟩)]
            rw [if_neg c']
            refine ihj (t + 1) ν (by omega) hf (fun p t' hp ht' => ?_)
            rw [hI p t' hp ht']
            by_cases c2 : p = pop s ∧ t' = t
            · rw [c2.1, c2.2, if_neg (fun w => by omega), if_pos ⟨rfl, by omega⟩, e, ef]; rfl
            · by_cases c3 : p = pop s ∧ t' < t
              · rw [if_pos c3, if_pos ⟨c3.1, by omega⟩]
              · rw [if_neg c3, if_neg (fun w => by omega)]
      refine inn (α.1 0 1) 0 ν (by omega) hf (fun p t' hp ht' => ?_)
      rw [if_neg (fun w => Nat.not_lt_zero _ w.2)]
      exact hI p t' hp ht'
  refine key (2 ^ α.1 0 1 - 1) 0 μ1 _ _ _ (by omega) f1 (fun p t hp ht => ?_)
  rw [z1 _ (by omega)]; rfl
def vG (μ : Mem) (α : Al) : Prop := vA μ α ∧ vT μ α 0 ∧ vL μ α ∧ μ 10 7 = (((FT α).length : Nat) : Int)
def fW (μ μ' : Mem) : Prop := ∀ c j, c ≠ 10 → c ≠ 51 → c ≠ 52 → c ≠ 53 → c ≠ 54 → μ' c j = μ c j
theorem fX_fW {μ μ' : Mem} (h : fW μ μ') : fX μ μ' := ⟨⟨h 0 4 (by decide) (by decide) (by decide) (by decide) (by decide), h 1 1 (by decide) (by decide) (by decide) (by decide) (by decide)⟩, fun c j q => by
  have q2 : c ≠ 10 ∧ c ≠ 51 ∧ c ≠ 52 ∧ c ≠ 53 ∧ c ≠ 54 := by
    refine ⟨?_, ?_, ?_, ?_, ?_⟩ <;> (intro e; subst e; revert q; decide)
  exact h c j q2.1 q2.2.1 q2.2.2.1 q2.2.2.2.1 q2.2.2.2.2⟩
theorem X_weigh_ok {d : Nat} {μ : Mem} {α : Al} {Q : AV → Mem → Prop} (hv : vX μ α) (hw : wf α) (h : ∀ μ', fW μ μ' → vX μ' α → vG μ' α → Q (xI 0) μ') : GM (d + 4) 89 [xR 10] μ Q := by
  have hT := wf_T hw
  have h64 := p2 hT
  have hpos : 0 < 2 ^ α.1 0 1 := Nat.pow_pos (by decide)
  refine ge_Fits_weigh ?_
  refine lp_up (fun p (ν : Mem) => DW (d + 4) 89 2 [xR 10, xI (p : Int)] ν Q) (fun p ν => (∀ c j, c ≠ 51 → ν c j = μ c j) ∧ ∀ q, q < p → ν 51 q = ((sp_bits (al α q) (α.1 0 1) : Nat) : Int)) (α.1 0 1) ?_ ?_ (α.1 0 1) 0 μ (by omega) ⟨fun _ _ _ => rfl, fun q hq => absurd hq (Nat.not_lt_zero q)⟩
  · intro p ν hp hI hn
    have hv' : vX ν α := vX_fr (fX_fW (fun c j _ h51 _ _ _ => hI.1 c j h51)) hv
    refine sg_Fits_weigh_2 ?_
    rw [vX_T hv', if_pos (by omega)]
    refine X_allowedIn_ok hv' hw hp ?_
    refine gI_mk ?_
    rw [wb_eq (by omega) (by omega), iw_k1 (by omega), Int.toNat_natCast]
    refine hn _ ⟨fun c j hc => by rw [xs_c hc]; exact hI.1 c j hc, fun q hq => ?_⟩
    by_cases c : q = p
    · rw [c]; exact xs_s
    · rw [xs_j c]; exact hI.2 q (by omega)
  · intro ν hI
    have hv' : vX ν α := vX_fr (fX_fW (fun c j _ h51 _ _ _ => hI.1 c j h51)) hv
    have hA : vA ν α := hI.2
    refine sg_Fits_weigh_2 ?_
    rw [vX_T hv', if_neg (by omega)]
    refine sg_Fits_weigh_17 ?_
    have e : iw (xshl 1 ((α.1 0 1 : Nat) : Int) - 1) = ((2 ^ α.1 0 1 - 1 : Nat) : Int) := by rw [sp_one (by omega), iw_s1 hpos (by omega)]
    rw [vX_T hv', e]
    refine X_heads_ok hv' hw hA (fun m1 f1 hH => ?_)
    refine gV_mk ?_
    have g1 : fW ν m1 := fun c j _ _ h52 _ _ => f1 c j h52
    refine X_tails_ok (vX_fr (fX_fW g1) hv') hw (fun p hp => (f1 51 p (by decide)).trans (hA p hp)) (fun m2 f2 hTl => ?_)
    refine gV_mk ?_
    have g2 : fW ν (xset m2 10 7 (m2 53 0)) := fun c j h10 _ h52 h53 _ => by rw [xs_c h10]; exact (f2 c j h53).trans (f1 c j h52)
    refine X_lying_ok (vX_fr (fX_fW g2) hv') hw (fun p hp => ?_) (fun s hs => ?_) (fun s hs hs2 => ?_) (fun m3 f3 hL => ?_)
    · rw [xs_c (by decide), f2 51 p (by decide), f1 51 p (by decide)]; exact hA p hp
    · rw [xs_c (by decide), f2 52 s (by decide)]; exact hH s hs
    · rw [xs_c (by decide)]; exact hTl s hs hs2
    refine gV_mk ?_
    have g3 : fW μ m3 := fun c j h10 h51 h52 h53 h54 => (f3 c j h54).trans ((g2 c j h10 h51 h52 h53 h54).trans (hI.1 c j h51))
    refine h m3 g3 (vX_fr (fX_fW g3) hv) ⟨fun p hp => ?_, fun s hs hs2 => ?_, hL, ?_⟩
    · rw [f3 51 p (by decide), xs_c (by decide), f2 51 p (by decide), f1 51 p (by decide)]; exact hA p hp
    · rw [f3 53 s (by decide), xs_c (by decide)]; exact hTl s hs hs2
    · rw [f3 10 7 (by decide), xs_s, hTl 0 (by omega) hpos, FT_tl hw]
      rfl
theorem X_fit_ok {d : Nat} {μ : Mem} {α : Al} {Q : AV → Mem → Prop} (hv : vX μ α) (hw : wf α) (h : ∀ μ', fW μ μ' → Q (xI (((FT α).length : Nat) : Int)) μ') : GM (d + 5) 88 [xR 0] μ Q := by
  refine ge_X_fit ?_
  refine X_weigh_ok hv hw (fun μ' hf _ hG => ?_)
  refine gV_mk ?_
  rw [hG.2.2.2]
  exact h μ' hf
set_option maxRecDepth 20000 in
theorem X_mayLie_ok {d p : Nat} {μ : Mem} {α : Al} {Q : AV → Mem → Prop} (hv : vX μ α) (hw : wf α) (hG : vG μ α) (hp : p < α.1 0 1) (h : Q (xI ((LB α p : Nat) : Int)) μ) : GM d 97 [xR 10, xI (p : Int)] μ Q := by
  have hT := wf_T hw
  refine ge_Fits_mayLie ?_
  have key : ∀ m t, t + m = α.1 0 1 → DW d 97 4 [xR 10, xI (p : Int), xI ((sp_bits (lB α p (FT α).length) t : Nat) : Int), xI (t : Int)] μ Q := by
    intro m
    induction m with
    | zero =>
      intro t ht
      refine sg_Fits_mayLie_4 ?_
      rw [vX_T hv, if_neg (by omega), show t = α.1 0 1 by omega]
      exact h
    | succ m ih =>
      intro t ht
      have hi := ih (t + 1) (by omega)
      refine sg_Fits_mayLie_4 ?_
      rw [vX_T hv, if_pos (by omega), iw_66 (by omega) (by omega), wb_eq (by omega) (by omega), Int.toNat_natCast, hG.2.2.1 p t hp (by omega), iw_k1 (by omega)]
      refine wi (fun c => ?_) (fun c => ?_)
      · have e := (LY_pos (α := α) (p := p) (t := t)).1 (by omega)
        rw [sp_bits_or (by omega) e]; exact hi
      · have e : ¬ lB α p (FT α).length t = true := fun e => by have := (LY_pos (α := α) (p := p) (t := t)).2 e; omega
        rw [sp_bits_no e] at hi; exact hi
  exact key (α.1 0 1) 0 (by omega)
theorem X_lies_ok {d : Nat} {p : Int} {μ : Mem} {α : Al} {Q : AV → Mem → Prop} (hv : vX μ α) (hw : wf α) (h : ∀ μ', fW μ μ' → Q (xI (r_lies α p)) μ') : GM (d + 5) 96 [xR 0, xI p] μ Q := by
  have hT := wf_T hw
  refine ge_X_lies ?_
  unfold r_lies at h
  rw [vX_T hv]
  refine wi (fun c0 => ?_) (fun c0 => ?_)
  · rw [if_pos c0] at h; exact h μ (fun _ _ _ _ _ _ _ => rfl)
  rw [if_neg c0] at h
  refine wi (fun c1 => ?_) (fun c1 => ?_)
  · rw [if_pos c1] at h
    obtain ⟨p, rfl⟩ := Int.eq_ofNat_of_zero_le (show 0 ≤ p by omega)
    rw [Int.toNat_natCast] at h
    refine X_weigh_ok hv hw (fun μ' hf hv' hG => ?_)
    refine gV_mk ?_
    refine X_mayLie_ok hv' hw hG (by omega) ?_
    exact h μ' hf
  · rw [if_neg c1] at h; exact h μ (fun _ _ _ _ _ _ _ => rfl)
set_option maxRecDepth 20000 in
theorem X_sure_ok {d : Nat} {μ : Mem} {α : Al} {Q : AV → Mem → Prop} (hv : vX μ α) (hw : wf α) (h : ∀ μ', fW μ μ' → Q (xI ((SU α : Nat) : Int)) μ') : GM (d + 5) 98 [xR 0] μ Q := by
  have hT := wf_T hw
  refine ge_X_sure ?_
  refine X_weigh_ok hv hw (fun μ' hf hv' hG => ?_)
  refine gV_mk ?_
  refine ge_Fits_surePlaces ?_
  have key : ∀ m p, p + m = α.1 0 1 → DW (d + 4) 99 4 [xR 10, xI ((sp_bits (fun p => oneB (LB α p)) p : Nat) : Int), xI (p : Int)] μ' (gI (fun r3 m2 => Q (xI r3) m2)) := by
    intro m
    induction m with
    | zero =>
      intro p hp
      refine sg_Fits_surePlaces_4 ?_
      rw [vX_T hv', if_neg (by omega), show p = α.1 0 1 by omega]
      exact h μ' hf
    | succ m ih =>
      intro p hp
      have hi := ih (p + 1) (by omega)
      have hb : LB α p < 64 := sp_bits64 _ hT
      refine sg_Fits_surePlaces_4 ?_
      rw [vX_T hv', if_pos (by omega), iw_k1 (by omega)]
      refine X_mayLie_ok hv' hw hG (by omega) ?_
      refine gI_mk ?_
      refine X_bitCount_ok hb ?_
      refine gI_mk ?_
      refine wi (fun c => ?_) (fun c => ?_)
      · have e : oneB (LB α p) = true := by
          unfold oneB
          rw [beq_iff_eq]
          have : pop (LB α p) = 1 := by omega
          exact this
        rw [sp_bits_or (f := fun p => oneB (LB α p)) (by omega) e]; exact hi
      · have e : ¬ oneB (LB α p) = true := by
          unfold oneB
          rw [beq_iff_eq]
          have : ¬ pop (LB α p) = 1 := by omega
          exact this
        rw [sp_bits_no (f := fun p => oneB (LB α p)) e] at hi; exact hi
  exact key (α.1 0 1) 0 (by omega)
