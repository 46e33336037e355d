/-! the class's choice, night by night -/
def Fch (Q : AV → Mem → Prop) (ν : Mem) (n s : Nat) (x : Nat × Nat) : Prop := Q (xI ((exc s x.1 x.2 : Nat) : Int)) (xset (xset (xset ν 49 n ((x.1 : Nat) : Int)) 50 n ((x.2 : Nat) : Int)) 9 6 (iw (ν 9 6 + 1)))
set_option maxRecDepth 20000 in
theorem X_ch_b {d n k s a : Nat} {ν : Mem} {α : Al} {Q : AV → Mem → Prop} (hv : vX ν α) (hw : wf α) (hk : α.1 0 2 = n + (k + 1)) (hs : s < 64) (hB0 : ∀ a b, a < b → b < α.1 0 1 → ν (41 + 1 + (n + 1)) (exc s a b) = pb α k (exc s a b)) (hB1 : ν (41 + 1 + n) s = pb α (k + 1) s) : ∀ m b v5, b + m = α.1 0 1 → a < b → (∀ x, gb (α.1 0 1) (fst1 (tst α n k s)) a m none = some x → Fch Q ν n s x) → (gb (α.1 0 1) (fst1 (tst α n k s)) a m none = none → ∀ x v5, DW (d + 3) 83 94 [xR 9, xI (n : Int), xI (s : Int), xI (a : Int), xI x, v5] ν Q) → DW (d + 3) 83 39 [xR 9, xI (n : Int), xI (s : Int), xI (a : Int), xI (b : Int), v5] ν Q := by
  have hT := wf_T hw
  have hN := wf_N hw
  intro m
  induction m with
  | zero =>
    intro b v5 hb ha h1 h2
    refine sg_Plan_chooseChange_39 ?_
    rw [vX_T hv, if_neg (by omega)]
    exact h2 rfl _ _
  | succ m ih =>
    intro b v5 hb ha h1 h2
    have hbT : b < α.1 0 1 := by omega
    have eb : α.1 0 1 - (m + 1) = b := by omega
    rw [gb, eb] at h1 h2
    refine sg_Plan_chooseChange_39 ?_
    rw [vX_T hv, if_pos (by omega), iw_k1 (n := b) (by omega), x_exc s hs a (by omega) b (by omega)]
    have hx := exc_chk s hs a (by omega) b (by omega)
    have hbd := pb_bd hT (k := k) (by omega) hx.1
    refine X_allows_ok hv hw (by omega) (by omega) hbT ?_
    refine gI_mk ?_
    by_cases hm : sp_may α n a b = true
    · have e0 : (if sp_may α n a b = true then (1 : Int) else 0) = 1 := if_pos hm
      rw [e0, if_neg (by decide), iw_k1 (n := n) (by omega), wb_eq (by omega) (by omega), wb_eq (by omega) (by omega), wb_eq (by omega) (by omega), wb_eq (by omega) (by omega), Int.toNat_natCast (n + 1), Int.toNat_natCast (exc s a b), Int.toNat_natCast n, Int.toNat_natCast s, hB0 a b ha hbT, hB1, iw_id (x := pb α k (exc s a b) - 1) (by omega) (by omega)]
      refine wi (fun c => ?_) (fun c => ?_)
      · have et : fst1 (tst α n k s) a b none = some (a, b) := by
          show (if tst α n k s a b then some (a, b) else none) = some (a, b)
          rw [if_pos (by unfold tst; rw [hm, decide_eq_true c]; rfl)]
        rw [et, gb_some] at h1
        rw [wb_eq (by omega) (by omega), wb_eq (by omega) (by omega)]
        exact h1 (a, b) rfl
      · have et : fst1 (tst α n k s) a b none = none := by
          show (if tst α n k s a b then some (a, b) else none) = none
          rw [if_neg (by unfold tst; rw [decide_eq_false c, Bool.and_false]; decide)]
        rw [et] at h1 h2
        exact ih (b + 1) _ (by omega) (by omega) h1 h2
    · have e0 : (if sp_may α n a b = true then (1 : Int) else 0) = 0 := if_neg hm
      have et : fst1 (tst α n k s) a b none = none := by
        show (if tst α n k s a b then some (a, b) else none) = none
        rw [if_neg (by unfold tst; rw [Bool.and_eq_true]; exact fun w => hm w.1)]
      rw [et] at h1 h2
      rw [e0, if_pos rfl]
      exact ih (b + 1) _ (by omega) (by omega) h1 h2
set_option maxRecDepth 20000 in
theorem X_ch_a {d n k s : Nat} {ν : Mem} {α : Al} {Q : AV → Mem → Prop} (hv : vX ν α) (hw : wf α) (hk : α.1 0 2 = n + (k + 1)) (hs : s < 64) (hB0 : ∀ a b, a < b → b < α.1 0 1 → ν (41 + 1 + (n + 1)) (exc s a b) = pb α k (exc s a b)) (hB1 : ν (41 + 1 + n) s = pb α (k + 1) s) : ∀ m a v4 v5, a + m = α.1 0 1 → (∀ x, ga (α.1 0 1) (fst1 (tst α n k s)) m none = some x → Fch Q ν n s x) → (ga (α.1 0 1) (fst1 (tst α n k s)) m none = none → Q (xI (s : Int)) ν) → DW (d + 3) 83 29 [xR 9, xI (n : Int), xI (s : Int), xI (a : Int), v4, v5] ν Q := by
  have hT := wf_T hw
  intro m
  induction m with
  | zero =>
    intro a v4 v5 ha h1 h2
    refine sg_Plan_chooseChange_29 ?_
    rw [vX_T hv, if_neg (by omega)]
    exact h2 rfl
  | succ m ih =>
    intro a v4 v5 ha h1 h2
    have ea : α.1 0 1 - (m + 1) = a := by omega
    rw [ga, ea] at h1 h2
    refine sg_Plan_chooseChange_29 ?_
    rw [vX_T hv, if_pos (by omega), iw_k1 (by omega)]
    refine X_ch_b hv hw hk hs hB0 hB1 m (a + 1) _ (by omega) (by omega) (fun x e => ?_) (fun e x v5 => ?_)
    · rw [e, ga_some] at h1; exact h1 x rfl
    · rw [e] at h1 h2
      refine sg_Plan_chooseChange_94 ?_
      rw [iw_k1 (by omega)]
      exact ih (a + 1) _ _ (by omega) h1 h2
set_option maxRecDepth 20000 in
theorem X_choose_ok {d n k s c0 : Nat} {μ : Mem} {α : Al} {Q : AV → Mem → Prop} (hv : vX μ α) (hw : wf α) (hk : α.1 0 2 = n + (k + 1)) (hs : s < 64) (hB0 : ∀ s', s' < 64 → pop s' = pop s → μ (41 + 1 + (n + 1)) s' = pb α k s') (hB1 : μ (41 + 1 + n) s = pb α (k + 1) s) (hc : μ 9 6 = (c0 : Int)) (hc0 : c0 < 100) (h : ∀ μ', (∀ c j, c ≠ 9 → c ≠ 49 → c ≠ 50 → μ' c j = μ c j) → μ' 49 n = oA (chp α n k s) → μ' 50 n = oB (chp α n k s) → (∀ j, j ≠ n → μ' 49 j = μ 49 j ∧ μ' 50 j = μ 50 j) → μ' 9 6 = ((c0 + o01 (chp α n k s) : Nat) : Int) → Q (xI ((nxt s (chp α n k s) : Nat) : Int)) μ') : GM (d + 3) 83 [xR 9, xI (n : Int), xI (s : Int)] μ Q := by
  have hT := wf_T hw
  have hN := wf_N hw
  have f1 : ∀ c j, c ≠ 49 → c ≠ 50 → (xset (xset μ 49 n (-1)) 50 n (-1)) c j = μ c j := fun c j a1 a2 => (xs_c a2).trans (xs_c a1)
  have g49 : (xset (xset μ 49 n (-1)) 50 n (-1)) 49 n = -1 := (xs_c (by decide)).trans xs_s
  have g50 : (xset (xset μ 49 n (-1)) 50 n (-1)) 50 n = -1 := xs_s
  have gj : ∀ j, j ≠ n → (xset (xset μ 49 n (-1)) 50 n (-1)) 49 j = μ 49 j ∧ (xset (xset μ 49 n (-1)) 50 n (-1)) 50 j = μ 50 j := fun j hj => ⟨(xs_j hj).trans (xs_j hj), (xs_j hj).trans (xs_c (by decide))⟩
  refine ge_Plan_chooseChange ?_
  rw [iw_k1 (n := n) (by omega), wb_eq (by omega) (by omega), wb_eq (by omega) (by omega), wb_eq (by omega) (by omega), wb_eq (by omega) (by omega), wb_eq (by omega) (by omega), wb_eq (by omega) (by omega), Int.toNat_natCast (n + 1), Int.toNat_natCast n, Int.toNat_natCast s]
  generalize hν : xset (xset μ 49 n (-1)) 50 n (-1) = ν at *
  have hvν : vX ν α := vX_fr (fX_fQ (fun c j a1 a2 => f1 c j (by omega) (by omega))) hv
  have eB0 : ∀ s', s' < 64 → pop s' = pop s → ν (41 + 1 + (n + 1)) s' = pb α k s' := fun s' a1 a2 => (f1 _ _ (by omega) (by omega)).trans (hB0 s' a1 a2)
  have eB1 : ν (41 + 1 + n) s = pb α (k + 1) s := (f1 _ _ (by omega) (by omega)).trans hB1
  have e96 : ν 9 6 = (c0 : Int) := (f1 9 6 (by decide) (by decide)).trans hc
  rw [eB0 s hs rfl, eB1]
  have hno : chp α n k s = none → Q (xI (s : Int)) ν := fun e => by
    rw [e] at h
    exact h ν (fun c j _ a2 a3 => f1 c j a2 a3) g49 g50 gj e96
  refine wi (fun c => ?_) (fun c => ?_)
  · exact hno (by unfold chp; rw [if_pos c])
  · have ech : chp α n k s = ga (α.1 0 1) (fst1 (tst α n k s)) (α.1 0 1) none := by unfold chp; rw [if_neg c]
    refine X_ch_a hvν hw hk hs (fun a b a1 a2 => ?_) eB1 (α.1 0 1) 0 _ _ (by omega) (fun x e => ?_) (fun e => hno (ech.trans e))
    · have hx := exc_chk s hs a (by omega) b (by omega)
      exact eB0 _ hx.1 hx.2.1
    · rw [← ech] at e
      rw [e] at h
      unfold Fch
      refine h _ (fun c j a1 a2 a3 => ?_) ?_ ?_ (fun j hj => ⟨?_, ?_⟩) ?_
      · rw [xs_c a1, xs_c a3, xs_c a2]; exact f1 c j a2 a3
      · rw [xs_c (by decide), xs_c (by decide), xs_s]; rfl
      · rw [xs_c (by decide), xs_s]; rfl
      · rw [xs_c (by decide), xs_c (by decide), xs_j hj]; exact (gj j hj).1
      · rw [xs_c (by decide), xs_j hj, xs_c (by decide)]; exact (gj j hj).2
      · rw [xs_s, e96, iw_k1 (by omega)]; rfl
def vB (μ : Mem) (α : Al) (sz n : Nat) : Prop := ∀ n', n ≤ n' → n' ≤ α.1 0 2 → ∀ s, s < 64 → pop s = sz → μ (41 + 1 + n') s = pb α (α.1 0 2 - n') s
def vR (μ : Mem) (α : Al) (i : Nat) : Prop := ∀ i', i' < i → μ 49 (α.1 0 4 + i') = oA (pch α i') ∧ μ 50 (α.1 0 4 + i') = oB (pch α i')
set_option maxRecDepth 20000 in
theorem X_plfind_ok {d : Nat} {μ : Mem} {α : Al} {Q : AV → Mem → Prop} (hv : vX μ α) (hw : wf α) (h : ∀ μ', fQ μ μ' → μ' 9 5 = ((plC α : Nat) : Int) → μ' 9 6 = ((plK α : Nat) : Int) → vR μ' α (α.1 0 2 - α.1 0 4) → Q (xI 0) μ') : GM (d + 4) 75 [xR 9] μ Q := by
  have hT := wf_T hw
  have hN := wf_N hw
  have hPs := wf_Ps hw
  have h0 : csF α (α.1 9) < 64 := sp_bits64 _ hT
  refine ge_Plan_find ?_
  refine X_charmSet_ok hv hw ?_
  refine gI_mk ?_
  refine X_bitCount_ok h0 ?_
  refine gI_mk ?_
  refine X_weighEnds_ok (sz := pop (csF α (α.1 9))) hv hw (fun m5 f5 V5 => ?_)
  refine gV_mk ?_
  have key2 : ∀ j i (ν : Mem), α.1 0 4 + i + j = α.1 0 2 → fQ μ ν → vB ν α (pop (csF α (α.1 9))) (α.1 0 4) → ν 9 6 = ((pcc α i : Nat) : Int) → vR ν α i → DW (d + 4) 75 34 [xR 9, xI ((pth α i : Nat) : Int), xI ((α.1 0 4 + i : Nat) : Int)] ν Q := by
    intro j
    induction j with
    | zero =>
      intro i ν hi hf hB hc hR
      have hvν := vX_fr (fX_fQ hf) hv
      refine sg_Plan_find_34 ?_
      rw [vX_N hvν, if_neg (by omega)]
      refine sg_Plan_find_47 ?_
      refine X_hostPlaces_ok hvν hw ?_
      refine gI_mk ?_
      have hp := (pth_lt hT i).1
      have hl : pth α i &&& hostB α < 64 := Nat.lt_of_le_of_lt Nat.and_le_left hp
      rw [xand_nat (by omega)]
      refine X_bitCount_ok hl ?_
      refine gI_mk ?_
      have ei : α.1 0 2 - α.1 0 4 = i := by omega
      refine h _ (fun c j a1 a2 => by rw [xs_c a1]; exact hf c j a1 a2) ?_ ?_ ?_
      · rw [xs_s]; unfold plC; rw [ei]
      · rw [xs_j (by decide), hc]; unfold plK; rw [ei]
      · rw [ei]
        intro i' hi'
        rw [xs_c (by decide), xs_c (by decide)]; exact hR i' hi'
    | succ j ih =>
      intro i ν hi hf hB hc hR
      have hvν := vX_fr (fX_fQ hf) hv
      obtain ⟨k, hk⟩ : ∃ k, α.1 0 2 = α.1 0 4 + i + (k + 1) := ⟨α.1 0 2 - (α.1 0 4 + i) - 1, by omega⟩
      have hp := pth_lt hT i
      have hcc := pcc_le α i
      have epch : chp α (α.1 0 4 + i) k (pth α i) = pch α i := by
        unfold pch
        rw [show α.1 0 2 - (α.1 0 4 + i) - 1 = k by omega]
      refine sg_Plan_find_34 ?_
      rw [vX_N hvν, if_pos (by omega), iw_k1 (by omega)]
      refine X_choose_ok hvν hw hk hp.1 (fun s' a1 a2 => ?_) ?_ hc (by omega) (fun μ' g1 g2 g3 g4 g5 => ?_)
      · rw [show α.1 0 4 + i + 1 = α.1 0 4 + (i + 1) by omega, hB _ (by omega) (by omega) s' a1 (a2.trans hp.2), show α.1 0 2 - (α.1 0 4 + (i + 1)) = k by omega]
      · rw [hB _ (by omega) (by omega) _ hp.1 hp.2, show α.1 0 2 - (α.1 0 4 + i) = k + 1 by omega]
      refine gI_mk ?_
      rw [epch] at g2 g3 g5 ⊢
      refine ih (i + 1) μ' (by omega) (fun c j a1 a2 => (g1 c j a1 (by omega) (by omega)).trans (hf c j a1 a2)) (fun n' a1 a2 s a3 a4 => ?_) g5 (fun i' hi' => ?_)
      · rw [g1 _ _ (by omega) (by omega) (by omega)]; exact hB n' a1 a2 s a3 a4
      · by_cases ci : i' = i
        · rw [ci]; exact ⟨g2, g3⟩
        · rw [(g4 _ (by omega)).1, (g4 _ (by omega)).2]; exact hR i' (by omega)
  have key : ∀ n (ν : Mem), α.1 0 4 ≤ n → n ≤ α.1 0 2 → fQ μ ν → vB ν α (pop (csF α (α.1 9))) n → DW (d + 4) 75 13 [xR 9, xI ((csF α (α.1 9) : Nat) : Int), xI ((n : Int) - 1)] ν Q := by
    have fin : ∀ (ν : Mem) x, fQ μ ν → vB ν α (pop (csF α (α.1 9))) (α.1 0 4) → DW (d + 4) 75 26 [xR 9, xI ((csF α (α.1 9) : Nat) : Int), xI x] ν Q := by
      intro ν x hf hB
      have hvν := vX_fr (fX_fQ hf) hv
      refine sg_Plan_find_26 ?_
      rw [vX_Ps hvν]
      refine key2 (α.1 0 2 - α.1 0 4) 0 _ (by omega) (fun c j a1 a2 => by rw [xs_c a1]; exact hf c j a1 a2) (fun n' a1 a2 s a3 a4 => ?_) xs_s (fun i' hi' => absurd hi' (Nat.not_lt_zero i'))
      rw [xs_c (by omega)]; exact hB n' a1 a2 s a3 a4
    intro n
    induction n with
    | zero =>
      intro ν h1 h2 hf hB
      have hvν := vX_fr (fX_fQ hf) hv
      refine sg_Plan_find_13 ?_
      rw [vX_Ps hvν, if_pos (by omega)]
      exact fin ν _ hf (fun n' a1 a2 => hB n' (by omega) a2)
    | succ n ih =>
      intro ν h1 h2 hf hB
      have hvν := vX_fr (fX_fQ hf) hv
      rw [show ((n + 1 : Nat) : Int) - 1 = (n : Int) by omega]
      refine sg_Plan_find_13 ?_
      rw [vX_Ps hvν]
      refine wi (fun c => ?_) (fun c => ?_)
      · exact fin ν _ hf (fun n' a1 a2 => hB n' (by omega) a2)
      refine X_bitCount_ok h0 ?_
      refine gI_mk ?_
      obtain ⟨k, hk⟩ : ∃ k, α.1 0 2 = n + (k + 1) := ⟨α.1 0 2 - n - 1, by omega⟩
      refine X_weighNight_ok (sz := pop (csF α (α.1 9))) hvν hw hk (fun s a1 a2 => ?_) (fun μ' g1 g2 => ?_)
      · rw [hB (n + 1) (by omega) (by omega) s a1 a2, show α.1 0 2 - (n + 1) = k by omega]
      refine gV_mk ?_
      rw [show iw ((n : Int) + (-1)) = (n : Int) - 1 by simp only [iw_def]; omega]
      refine ih μ' (by omega) (by omega) (fQ_t hf (fQ_n (by omega) g1)) (fun n' a1 a2 s a3 a4 => ?_)
      by_cases cn : n' = n
      · rw [cn, g2 s a3 a4, show α.1 0 2 - n = k + 1 by omega]
      · rw [g1 _ _ (by omega)]; exact hB n' (by omega) a2 s a3 a4
  have hv5 := vX_fr (fX_fQ (fQ_n (by omega) f5)) hv
  rw [vX_N hv5, iw_m1 (by omega)]
  refine key (α.1 0 2) m5 hPs (Nat.le_refl _) (fQ_n (by omega) f5) (fun n' a1 a2 s a3 a4 => ?_)
  rw [show n' = α.1 0 2 by omega, V5 s a3 a4, Nat.sub_self]
theorem X_plan_ok {d : Nat} {w : Int} {μ : Mem} {α : Al} {Q : AV → Mem → Prop} (hv : vX μ α) (hw : wf α) (h : ∀ μ', fQ μ μ' → Q (xI (r_plan α w)) μ') : GM (d + 5) 74 [xR 0, xI w] μ Q := by
  refine ge_X_plan ?_
  unfold r_plan at h
  refine wi (fun c0 => ?_) (fun c0 => ?_)
  · rw [if_pos c0] at h; exact h μ (fun _ _ _ _ => rfl)
  rw [if_neg c0] at h
  refine wi (fun c1 => ?_) (fun c1 => ?_)
  · rw [if_pos c1] at h; exact h μ (fun _ _ _ _ => rfl)
  rw [if_neg c1] at h
  refine X_plfind_ok hv hw (fun μ' hf h1 h2 _ => ?_)
  refine gV_mk ?_
  rw [h1, h2]
  refine wi (fun c2 => ?_) (fun c2 => ?_)
  · rw [if_pos c2] at h; exact h μ' hf
  · rw [if_neg c2] at h; exact h μ' hf
theorem X_planned_ok {d : Nat} {m s : Int} {μ : Mem} {α : Al} {Q : AV → Mem → Prop} (hv : vX μ α) (hw : wf α) (h : ∀ μ', fQ μ μ' → Q (xI (r_planned α m s)) μ') : GM (d + 5) 84 [xR 0, xI m, xI s] μ Q := by
  have hN := wf_N hw
  refine ge_X_planned ?_
  unfold r_planned at h
  rw [vX_N hv, vX_Ps hv]
  refine wi (fun c0 => ?_) (fun c0 => ?_)
  · rw [if_pos (by omega)] at h; exact h μ (fun _ _ _ _ => rfl)
  refine wi (fun c1 => ?_) (fun c1 => ?_)
  · rw [if_pos c1] at h
    refine wi (fun c2 => ?_) (fun c2 => ?_)
    · rw [if_pos c2] at h; exact h μ (fun _ _ _ _ => rfl)
    rw [if_neg c2] at h
    refine wi (fun c3 => ?_) (fun c3 => ?_)
    · rw [if_pos c3] at h; exact h μ (fun _ _ _ _ => rfl)
    rw [if_neg c3] at h
    refine wi (fun c4 => ?_) (fun c4 => ?_)
    · rw [if_pos c4] at h; exact h μ (fun _ _ _ _ => rfl)
    rw [if_neg c4] at h
    obtain ⟨m, rfl⟩ := Int.eq_ofNat_of_zero_le (show 0 ≤ m by omega)
    rw [Int.toNat_natCast] at h
    refine X_plfind_ok hv hw (fun μ' hf _ _ hR => ?_)
    refine gV_mk ?_
    obtain ⟨i, hi⟩ : ∃ i, m = α.1 0 4 + i := ⟨m - α.1 0 4, by omega⟩
    have hr := hR i (by omega)
    rw [show m - α.1 0 4 = i by omega] at h
    rw [wb_eq (by omega) (by omega), wb_eq (by omega) (by omega), Int.toNat_natCast, hi, hr.1, hr.2]
    refine wi (fun c5 => ?_) (fun c5 => ?_)
    · rw [if_pos c5] at h; exact h μ' hf
    · rw [if_neg c5] at h; exact h μ' hf
  · have e : (if m < ((α.1 0 4 : Nat) : Int) then (-2 : Int) else if m < ((α.1 0 2 : Nat) : Int) then (if s < 0 then -3 else if 1 < s then -3 else if s = 0 then oA (pch α (m.toNat - α.1 0 4)) else oB (pch α (m.toNat - α.1 0 4))) else -2) = -2 := by
      rw [if_neg c1]; split <;> rfl
    rw [e] at h
    exact h μ (fun _ _ _ _ => rfl)
