/-! the reference: the next token -/
def fT (μ μ' : Mem) : Prop := ∀ c j, (c ≠ 61 ∨ (j < 8 ∨ 12 < j)) → μ' c j = μ c j
theorem fT_refl (μ : Mem) : fT μ μ := fun _ _ _ => rfl
theorem fT_s {μ ν : Mem} {j : Nat} {x : Int} (h : fT μ ν) (h1 : 8 ≤ j) (h2 : j ≤ 12) : fT μ (xset ν 61 j x) := fun c i hc => by rw [xs_if, if_neg (by omega)]; exact h c i hc
theorem hs_lt {α : Al} {f : Nat} : ∀ K, (∀ j, j < K → α.1 8 (f + j) ≤ 122) → hs α f K < 27 ^ K
  | 0, _ => (show (0 : Nat) < 1 by decide)
  | K + 1, h => by
    have h1 := hs_lt K (fun j hj => h j (by omega))
    have h2 := h K (by omega)
    rw [hs, Nat.pow_succ]
    omega
theorem p27 {K : Nat} (h : K ≤ 9) : 27 ^ K ≤ 7625597484987 := Nat.pow_le_pow_right (n := 27) (j := 9) (by decide) h
theorem lw_id {x : Int} (h1 : -9223372036854775808 ≤ x) (h2 : x < 9223372036854775808) : lw x = x := by rw [lw_def]; omega
theorem lw_hs {a c : Nat} (ha : a < 7625597484987) (hc : 97 ≤ c) (hc2 : c ≤ 122) : lw (lw (lw (27 * (a : Int)) + (c : Int)) - 96) = ((27 * a + (c - 96) : Nat) : Int) := by
  rw [lw_id (x := 27 * (a : Int)) (by omega) (by omega), lw_id (x := 27 * (a : Int) + (c : Int)) (by omega) (by omega), lw_id (by omega) (by omega)]
  omega
theorem iw_vd {a c : Nat} (ha : a < 1000) (hc : 48 ≤ c) (hc2 : c ≤ 57) : iw (iw (iw (10 * (a : Int)) + (c : Int)) - 48) = ((10 * a + (c - 48) : Nat) : Int) := by
  rw [iw_id (x := 10 * (a : Int)) (by omega) (by omega), iw_id (x := 10 * (a : Int) + (c : Int)) (by omega) (by omega), iw_id (by omega) (by omega)]
  omega
/-- what is read of the text -/
def tM (μ : Mem) (α : Al) : Prop := μ 61 6 = ((α.1 0 3 : Nat) : Int) ∧ (∀ i, i < α.1 0 3 → μ 65 i = ((α.1 8 i : Nat) : Int)) ∧ α.1 0 3 ≤ 160
theorem tM_fT {μ ν : Mem} {α : Al} (h : fT μ ν) (g : tM μ α) : tM ν α := ⟨(h 61 6 (by decide)).trans g.1, fun i hi => (h 65 i (Or.inl (by decide))).trans (g.2.1 i hi), g.2.2⟩
theorem M_skip {d : Nat} {μ : Mem} {α : Al} {Q : AV → Mem → Prop} (ht : tM μ α) : ∀ (k i : Nat) (ν : Mem), i + k = α.1 0 3 → fT μ ν → ν 61 8 = (i : Int) → (∀ ν', fT μ ν' → ν' 61 8 = ((rn isB (α.1 8) k i : Nat) : Int) → DW (d + 1) 132 20 [xR 61] ν' Q) → DW (d + 1) 132 0 [xR 61] ν Q := by
  intro k
  induction k with
  | zero =>
    intro i ν hi hf h8 h
    have hν := tM_fT hf ht
    refine sg_M_nextToken_0 ?_
    rw [h8, hν.1, if_neg (by omega)]
    exact h ν hf h8
  | succ k ih =>
    intro i ν hi hf h8 h
    have hν := tM_fT hf ht
    have h160 := ht.2.2
    refine sg_M_nextToken_0 ?_
    rw [h8, hν.1, if_pos (by omega), wb_eq (by omega) (by omega), Int.toNat_natCast, hν.2.1 i (by omega), iw_k1 (by omega)]
    rw [rn] at h
    refine wi (fun c => ?_) (fun c => ?_)
    · have c' : isB (α.1 8 i) = true := by unfold isB; rw [beq_iff_eq]; omega
      rw [if_pos c'] at h
      exact ih (i + 1) _ (by omega) (fT_s hf (by decide) (by decide)) xs_s h
    · have c' : ¬ isB (α.1 8 i) = true := by unfold isB; rw [beq_iff_eq]; omega
      rw [if_neg c'] at h
      exact h ν hf h8
def hsT (α : Al) (f K : Nat) : Int := if K ≤ 9 then ((hs α f K : Nat) : Int) else -4
theorem M_letters {d f : Nat} {μ : Mem} {α : Al} {Q : AV → Mem → Prop} (ht : tM μ α) : ∀ (k i : Nat) (ν : Mem), i + k = α.1 0 3 → f ≤ i → fT μ ν → (∀ j, f ≤ j → j < i → isL (α.1 8 j) = true) → ν 61 8 = (i : Int) → ν 61 9 = (f : Int) → ν 61 10 = hsT α f (i - f) → (∀ ν', fT μ ν' → ν' 61 8 = ((rn isL (α.1 8) k i : Nat) : Int) → ν' 61 9 = (f : Int) → ν' 61 10 = (if 9 < rn isL (α.1 8) k i - f then -4 else ((hs α f (rn isL (α.1 8) k i - f) : Nat) : Int)) → Q (xI 0) ν') → DW (d + 1) 132 52 [xR 61] ν Q := by
  have fin : ∀ (i : Nat) (ν : Mem), i ≤ 160 → f ≤ i → fT μ ν → ν 61 8 = (i : Int) → ν 61 9 = (f : Int) → ν 61 10 = hsT α f (i - f) → (∀ ν', fT μ ν' → ν' 61 8 = (i : Int) → ν' 61 9 = (f : Int) → ν' 61 10 = (if 9 < i - f then -4 else ((hs α f (i - f) : Nat) : Int)) → Q (xI 0) ν') → DW (d + 1) 132 98 [xR 61] ν Q := by
    intro i ν h1 hfi hf h8 h9 h10 h
    refine sg_M_nextToken_98 ?_
    rw [h8, h9, iw_s2 hfi (by omega)]
    refine wi (fun c => ?_) (fun c => ?_)
    · refine h _ (fT_s hf (by decide) (by decide)) (by rw [xs_j (by decide)]; exact h8) (by rw [xs_j (by decide)]; exact h9) ?_
      rw [xs_s, if_pos (by omega)]
    · refine h _ (fT_s hf (by decide) (by decide)) (by rw [xs_j (by decide)]; exact h8) (by rw [xs_j (by decide)]; exact h9) ?_
      rw [xs_s, h10, if_neg (by omega)]
      unfold hsT
      rw [if_pos (by omega)]
  intro k
  induction k with
  | zero =>
    intro i ν hi hfi hf hL h8 h9 h10 h
    have hν := tM_fT hf ht
    have h160 := ht.2.2
    refine sg_M_nextToken_52 ?_
    rw [h8, hν.1, if_neg (by omega)]
    exact fin i ν (by omega) hfi hf h8 h9 h10 h
  | succ k ih =>
    intro i ν hi hfi hf hL h8 h9 h10 h
    have hν := tM_fT hf ht
    have h160 := ht.2.2
    refine sg_M_nextToken_52 ?_
    rw [h8, hν.1, if_pos (by omega), wb_eq (by omega) (by omega), Int.toNat_natCast, hν.2.1 i (by omega), h9, iw_s2 hfi (by omega), iw_k1 (n := i) (by omega)]
    rw [rn] at h
    refine wi (fun c => ?_) (fun c => ?_)
    · have c' : ¬ isL (α.1 8 i) = true := by rw [isL_iff]; omega
      rw [if_neg c'] at h
      exact fin i ν (by omega) hfi hf h8 h9 h10 h
    refine wi (fun c2 => ?_) (fun c2 => ?_)
    · have c' : ¬ isL (α.1 8 i) = true := by rw [isL_iff]; omega
      rw [if_neg c'] at h
      exact fin i ν (by omega) hfi hf h8 h9 h10 h
    have c' : isL (α.1 8 i) = true := by rw [isL_iff]; omega
    rw [if_pos c'] at h
    have hL2 : ∀ j, f ≤ j → j < i + 1 → isL (α.1 8 j) = true := fun j a1 a2 => by
      by_cases e : j = i
      · rw [e]; exact c'
      · exact hL j a1 (by omega)
    refine wi (fun c3 => ?_) (fun c3 => ?_)
    · have hlt := hs_lt (α := α) (f := f) (i - f) (fun j hj => (isL_iff.1 (hL (f + j) (by omega) (by omega))).2)
      have hp := p27 (show i - f ≤ 9 by omega)
      have e10 : ν 61 10 = ((hs α f (i - f) : Nat) : Int) := by rw [h10]; unfold hsT; rw [if_pos (by omega)]
      rw [wb_eq (by omega) (by omega), e10, lw_hs (by omega) (by omega) (by omega)]
      refine ih (i + 1) _ (by omega) (by omega) (fT_s (fT_s hf (by decide) (by decide)) (by decide) (by decide)) hL2 xs_s (by rw [xs_j (by decide), xs_j (by decide)]; exact h9) ?_ h
      rw [xs_j (by decide), xs_s]
      unfold hsT
      rw [if_pos (by omega), show i + 1 - f = (i - f) + 1 by omega, hs, show f + (i - f) = i by omega]
    · refine ih (i + 1) _ (by omega) (by omega) (fT_s (fT_s hf (by decide) (by decide)) (by decide) (by decide)) hL2 xs_s (by rw [xs_j (by decide), xs_j (by decide)]; exact h9) ?_ h
      rw [xs_j (by decide), xs_s]
      unfold hsT
      rw [if_neg (by omega)]
theorem vd_lt {α : Al} {f : Nat} : ∀ K, (∀ j, j < K → α.1 8 (f + j) ≤ 57) → vd α f K < 10 ^ K
  | 0, _ => (show (0 : Nat) < 1 by decide)
  | K + 1, h => by
    have h1 := vd_lt K (fun j hj => h j (by omega))
    have h2 := h K (by omega)
    rw [vd, Nat.pow_succ]
    omega
theorem M_digits {d f : Nat} {μ : Mem} {α : Al} {Q : AV → Mem → Prop} (ht : tM μ α) : ∀ (k i : Nat) (ν : Mem), i + k = α.1 0 3 → f ≤ i → fT μ ν → (∀ j, f ≤ j → j < i → isD (α.1 8 j) = true) → ν 61 8 = (i : Int) → ν 61 9 = (f : Int) → ν 61 11 = ((i - f : Nat) : Int) → (i - f ≤ 2 → ν 61 12 = ((vd α f (i - f) : Nat) : Int)) → (∀ ν', fT μ ν' → ν' 61 8 = ((rn isD (α.1 8) k i : Nat) : Int) → ν' 61 9 = (f : Int) → ν' 61 10 = (if 2 < rn isD (α.1 8) k i - f then -4 else -1) → (rn isD (α.1 8) k i - f ≤ 2 → ν' 61 12 = ((vd α f (rn isD (α.1 8) k i - f) : Nat) : Int)) → Q (xI 0) ν') → DW (d + 1) 132 122 [xR 61] ν Q := by
  have fin : ∀ (i : Nat) (ν : Mem), i ≤ 160 → f ≤ i → fT μ ν → ν 61 8 = (i : Int) → ν 61 9 = (f : Int) → ν 61 11 = ((i - f : Nat) : Int) → (i - f ≤ 2 → ν 61 12 = ((vd α f (i - f) : Nat) : Int)) → (∀ ν', fT μ ν' → ν' 61 8 = (i : Int) → ν' 61 9 = (f : Int) → ν' 61 10 = (if 2 < i - f then -4 else -1) → (i - f ≤ 2 → ν' 61 12 = ((vd α f (i - f) : Nat) : Int)) → Q (xI 0) ν') → DW (d + 1) 132 171 [xR 61] ν Q := by
    intro i ν h1 hfi hf h8 h9 h11 h12 h
    refine sg_M_nextToken_171 ?_
    rw [h11]
    refine wi (fun c => ?_) (fun c => ?_)
    · refine h _ (fT_s hf (by decide) (by decide)) (by rw [xs_j (by decide)]; exact h8) (by rw [xs_j (by decide)]; exact h9) ?_ (fun q => by rw [xs_j (by decide)]; exact h12 q)
      rw [xs_s, if_pos (by omega)]
    · refine h _ (fT_s hf (by decide) (by decide)) (by rw [xs_j (by decide)]; exact h8) (by rw [xs_j (by decide)]; exact h9) ?_ (fun q => by rw [xs_j (by decide)]; exact h12 q)
      rw [xs_s, if_neg (by omega)]
  intro k
  induction k with
  | zero =>
    intro i ν hi hfi hf hL h8 h9 h11 h12 h
    have hν := tM_fT hf ht
    have h160 := ht.2.2
    refine sg_M_nextToken_122 ?_
    rw [h8, hν.1, if_neg (by omega)]
    exact fin i ν (by omega) hfi hf h8 h9 h11 h12 h
  | succ k ih =>
    intro i ν hi hfi hf hL h8 h9 h11 h12 h
    have hν := tM_fT hf ht
    have h160 := ht.2.2
    refine sg_M_nextToken_122 ?_
    rw [h8, hν.1, if_pos (by omega), wb_eq (by omega) (by omega), Int.toNat_natCast, hν.2.1 i (by omega), h11, iw_k1 (n := i - f) (by omega), iw_k1 (n := i) (by omega)]
    rw [rn] at h
    refine wi (fun c => ?_) (fun c => ?_)
    · have c' : ¬ isD (α.1 8 i) = true := by rw [isD_iff]; omega
      rw [if_neg c'] at h
      exact fin i ν (by omega) hfi hf h8 h9 h11 h12 h
    refine wi (fun c2 => ?_) (fun c2 => ?_)
    · have c' : ¬ isD (α.1 8 i) = true := by rw [isD_iff]; omega
      rw [if_neg c'] at h
      exact fin i ν (by omega) hfi hf h8 h9 h11 h12 h
    have c' : isD (α.1 8 i) = true := by rw [isD_iff]; omega
    rw [if_pos c'] at h
    have hL2 : ∀ j, f ≤ j → j < i + 1 → isD (α.1 8 j) = true := fun j a1 a2 => by
      by_cases e : j = i
      · rw [e]; exact c'
      · exact hL j a1 (by omega)
    refine wi (fun c3 => ?_) (fun c3 => ?_)
    · have hlt := vd_lt (α := α) (f := f) (i - f) (fun j hj => (isD_iff.1 (hL (f + j) (by omega) (by omega))).2)
      have hp : 10 ^ (i - f) ≤ 10 ^ 2 := Nat.pow_le_pow_right (n := 10) (by decide) (by omega)
      rw [wb_eq (by omega) (by omega), h12 (by omega), iw_vd (by omega) (by omega) (by omega)]
      refine ih (i + 1) _ (by omega) (by omega) (fT_s (fT_s (fT_s hf (by decide) (by decide)) (by decide) (by decide)) (by decide) (by decide)) hL2 xs_s (by rw [xs_j (by decide), xs_j (by decide), xs_j (by decide)]; exact h9) ?_ (fun _ => ?_) h
      · rw [xs_j (by decide), xs_s, show i + 1 - f = (i - f) + 1 by omega]
      · rw [xs_j (by decide), xs_j (by decide), xs_s, show i + 1 - f = (i - f) + 1 by omega, vd, show f + (i - f) = i by omega]
    · refine ih (i + 1) _ (by omega) (by omega) (fT_s (fT_s (fT_s hf (by decide) (by decide)) (by decide) (by decide)) (by decide) (by decide)) hL2 xs_s (by rw [xs_j (by decide), xs_j (by decide), xs_j (by decide)]; exact h9) ?_ (fun q => by omega) h
      rw [xs_j (by decide), xs_s, show i + 1 - f = (i - f) + 1 by omega]
set_option maxRecDepth 20000 in
theorem M_next_tok {d i : Nat} {μ : Mem} {α : Al} {Q : AV → Mem → Prop} (ht : tM μ α) (hi : i ≤ α.1 0 3) (h8 : μ 61 8 = (i : Int)) (h : ∀ μ', fT μ μ' → μ' 61 8 = ((te α (bl α i) : Nat) : Int) → μ' 61 9 = ((bl α i : Nat) : Int) → μ' 61 10 = tv α (bl α i) → (nuB α (bl α i) = true → μ' 61 12 = ((vd α (bl α i) (te α (bl α i) - bl α i) : Nat) : Int)) → Q (xI 0) μ') : GM (d + 1) 132 [xR 61] μ Q := by
  refine ge_M_nextToken ?_
  refine M_skip ht (α.1 0 3 - i) i μ (by omega) (fT_refl μ) h8 (fun ν hf e8 => ?_)
  have hb := bl_bd hi
  have e8 : ν 61 8 = ((bl α i : Nat) : Int) := e8
  generalize bl α i = f at hb e8 h
  have hν := tM_fT hf ht
  have h160 := ht.2.2
  have fe : ∀ x : Int, fT μ (xset (xset (xset ν 61 9 (f : Int)) 61 11 0) 61 12 0) := fun _ => fT_s (fT_s (fT_s hf (by decide) (by decide)) (by decide) (by decide)) (by decide) (by decide)
  refine sg_M_nextToken_20 ?_
  rw [e8, hν.1]
  refine wi (fun c => ?_) (fun c => ?_)
  · have hn : ¬ f < α.1 0 3 := by omega
    refine h _ (fT_s (fe 0) (by decide) (by decide)) ?_ ?_ ?_ (fun q => ?_)
    · rw [xs_j (by decide), xs_j (by decide), xs_j (by decide), xs_j (by decide), e8, te_n hn]
    · rw [xs_j (by decide), xs_j (by decide), xs_j (by decide), xs_s]
    · rw [xs_s]; unfold tv; rw [if_neg hn]
    · unfold nuB at q; rw [decide_eq_false hn] at q; cases q
  have hn : f < α.1 0 3 := by omega
  have other : isL (α.1 8 f) = false → isD (α.1 8 f) = false → ∀ x : Int, x = (if α.1 8 f = 59 then -3 else -4) → Q (xI 0) (xset (xset (xset (xset (xset ν 61 9 (f : Int)) 61 11 0) 61 12 0) 61 10 x) 61 8 ((f + 1 : Nat) : Int)) := fun q1 q2 x ex => by
    refine h _ (fT_s (fT_s (fe 0) (by decide) (by decide)) (by decide) (by decide)) ?_ ?_ ?_ (fun q => ?_)
    · rw [xs_s]; unfold te; rw [if_pos hn, q1, q2]; rfl
    · rw [xs_j (by decide), xs_j (by decide), xs_j (by decide), xs_j (by decide), xs_s]
    · rw [xs_j (by decide), xs_s, ex]; unfold tv; rw [if_pos hn, q1, q2]; rfl
    · unfold nuB at q; rw [q2, Bool.false_and, Bool.and_false] at q; cases q
  have digit : isD (α.1 8 f) = true → DW (d + 1) 132 122 [xR 61] (xset (xset (xset ν 61 9 (f : Int)) 61 11 0) 61 12 0) Q := fun q => by
    refine M_digits (f := f) ht (α.1 0 3 - f) f _ (by omega) (Nat.le_refl _) (fe 0) (fun j a1 a2 => by omega) ?_ ?_ ?_ (fun _ => ?_) (fun ν' g1 g2 g3 g4 g5 => ?_)
    · rw [xs_j (by decide), xs_j (by decide), xs_j (by decide)]; exact e8
    · rw [xs_j (by decide), xs_j (by decide), xs_s]
    · rw [xs_j (by decide), xs_s, Nat.sub_self]; rfl
    · rw [xs_s, Nat.sub_self]; rfl
    · rw [← te_D hn q] at g2 g4 g5
      refine h ν' g1 g2 g3 ?_ (fun qn => g5 ?_)
      · rw [g4]; unfold tv; rw [if_pos hn, LD q, if_neg (show ¬ false = true by decide), if_pos q]
      · unfold nuB at qn; rw [Bool.and_eq_true, Bool.and_eq_true] at qn; exact of_decide_eq_true qn.2.2
  rw [wb_eq (by omega) (by omega), Int.toNat_natCast, hν.2.1 f hn, iw_k1 (by omega)]
  have noD : ¬ (48 ≤ α.1 8 f ∧ α.1 8 f ≤ 57) → isD (α.1 8 f) = false := fun q => by
    cases e : isD (α.1 8 f) with
    | false => rfl
    | true => exact absurd (isD_iff.1 e) q
  have noL : ¬ (97 ≤ α.1 8 f ∧ α.1 8 f ≤ 122) → isL (α.1 8 f) = false := fun q => by
    cases e : isL (α.1 8 f) with
    | false => rfl
    | true => exact absurd (isL_iff.1 e) q
  refine wi (fun c1 => ?_) (fun c1 => ?_)
  · rw [wb_eq (by omega) (by omega)]
    refine wi (fun c2 => ?_) (fun c2 => ?_)
    · rw [wb_eq (by omega) (by omega)]
      refine wi (fun c3 => ?_) (fun c3 => ?_)
      · exact other (noL (by omega)) (noD (by omega)) _ (by rw [if_pos (by omega)])
      · exact other (noL (by omega)) (noD (by omega)) _ (by rw [if_neg (by omega)])
    · refine wi (fun c3 => ?_) (fun c3 => ?_)
      · rw [wb_eq (by omega) (by omega)]
        refine wi (fun c4 => ?_) (fun c4 => ?_)
        · exact other (noL (by omega)) (noD (by omega)) _ (by rw [if_pos (by omega)])
        · exact other (noL (by omega)) (noD (by omega)) _ (by rw [if_neg (by omega)])
      · exact digit (isD_iff.2 (by omega))
  · refine wi (fun c2 => ?_) (fun c2 => ?_)
    · rw [wb_eq (by omega) (by omega)]
      refine wi (fun c3 => ?_) (fun c3 => ?_)
      · omega
      · refine wi (fun c4 => ?_) (fun c4 => ?_)
        · rw [wb_eq (by omega) (by omega)]
          refine wi (fun c5 => ?_) (fun c5 => ?_)
          · exact other (noL (by omega)) (noD (by omega)) _ (by rw [if_pos (by omega)])
          · exact other (noL (by omega)) (noD (by omega)) _ (by rw [if_neg (by omega)])
        · omega
    · have q : isL (α.1 8 f) = true := isL_iff.2 (by omega)
      refine M_letters (f := f) ht (α.1 0 3 - f) f _ (by omega) (Nat.le_refl _) (fT_s (fe 0) (by decide) (by decide)) (fun j a1 a2 => by omega) ?_ ?_ ?_ (fun ν' g1 g2 g3 g4 => ?_)
      · rw [xs_j (by decide), xs_j (by decide), xs_j (by decide), xs_j (by decide)]; exact e8
      · rw [xs_j (by decide), xs_j (by decide), xs_j (by decide), xs_s]
      · rw [xs_s, Nat.sub_self]; rfl
      · rw [← te_L hn q] at g2 g4
        refine h ν' g1 g2 g3 ?_ (fun qn => ?_)
        · rw [g4]; unfold tv; rw [if_pos hn, if_pos q]
        · unfold nuB at qn
          rw [Bool.and_eq_true, Bool.and_eq_true] at qn
          have := LD qn.2.1
          rw [q] at this
          cases this
