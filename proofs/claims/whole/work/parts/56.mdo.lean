/-! lines done: what is told -/
def dl (α : Al) (x : Nat × List Nat) : Al :=
  if x.1 = 0 then as1 (as1 (as1 α 0 0 0) 0 1 0) 0 2 0
  else if x.1 < 5 then as1 (as1 α 1 (α.1 0 0) (x.1 - 1)) 0 0 (α.1 0 0 + 1)
  else if x.1 < 9 then as1 (as1 (as1 (as1 (as1 (as1 α 2 (α.1 0 1) (x.1 - 5)) 3 (α.1 0 1) (x.2.getD 0 0)) 4 (α.1 0 1) (x.2.getD 1 0)) 5 (α.1 0 1) (x.2.getD 2 0)) 6 (α.1 0 1) (x.2.getD 3 0)) 0 1 (α.1 0 1 + 1)
  else if x.1 = 9 then as1 (as1 α 7 (α.1 0 2) (x.2.getD 0 0)) 0 2 (α.1 0 2 + 1)
  else as1 α 6 (x.2.getD 0 0) (x.2.getD 1 0)
abbrev sOf (α : Al) : St3 := (α.1 0 0, α.1 0 1, α.1 0 2)
theorem dl_s (α : Al) (x : Nat × List Nat) : sOf (dl α x) = grw x.1 (sOf α) := by
  unfold dl grw
  by_cases c0 : x.1 = 0
  · rw [if_pos c0, if_pos c0]; rfl
  rw [if_neg c0, if_neg c0]
  by_cases c1 : x.1 < 5
  · rw [if_pos c1, if_pos c1]; rfl
  rw [if_neg c1, if_neg c1]
  by_cases c2 : x.1 < 9
  · rw [if_pos c2, if_pos c2]; rfl
  rw [if_neg c2, if_neg c2]
  by_cases c3 : x.1 = 9
  · rw [if_pos c3, if_pos c3]; rfl
  rw [if_neg c3, if_neg c3]
  rfl
def uw (α : Al) : Prop := α.1 0 0 ≤ 5 ∧ α.1 0 1 ≤ 6 ∧ α.1 0 2 ≤ 6 ∧ (∀ i, i < α.1 0 0 → α.1 1 i < 4) ∧ (∀ i, i < α.1 0 1 → α.1 2 i < 4 ∧ α.1 3 i < 3 ∧ α.1 4 i < α.1 0 0 ∧ α.1 5 i < 4 ∧ α.1 6 i < 10) ∧ (∀ i, i < α.1 0 2 → α.1 7 i < 32)
theorem uw_wf {α : Al} (h : wf α) : uw α := ⟨wf_P h, wf_T h, wf_N h, wf_one h, fun i hi => ⟨wf_kind h i hi, wf_look h i hi, wf_keep h i hi, wf_word h i hi, wf_pow0 h i hi⟩, wf_night h⟩
def uM (μ : Mem) (α : Al) : Prop := μ 61 0 = ((α.1 0 0 : Nat) : Int) ∧ μ 61 2 = ((α.1 0 1 : Nat) : Int) ∧ μ 61 4 = ((α.1 0 2 : Nat) : Int) ∧ (∀ i, i < α.1 0 0 → μ 62 i = ((α.1 1 i : Nat) : Int)) ∧ (∀ i, i < α.1 0 1 → μ 63 (5 * i) = ((α.1 2 i : Nat) : Int) ∧ μ 63 (5 * i + 1) = ((α.1 3 i : Nat) : Int) ∧ μ 63 (5 * i + 2) = ((α.1 4 i : Nat) : Int) ∧ μ 63 (5 * i + 3) = ((α.1 5 i : Nat) : Int) ∧ μ 63 (5 * i + 4) = ((α.1 6 i : Nat) : Int)) ∧ (∀ i, i < α.1 0 2 → μ 64 i = ((α.1 7 i : Nat) : Int))
theorem uM_vM {μ : Mem} {α : Al} (h : vM μ α) : uM μ α := ⟨vM_P h, vM_T h, vM_N h, vM_one h, fun i hi => ⟨vM_kind h i hi, vM_look h i hi, vM_keep h i hi, vM_word h i hi, vM_pow0 h i hi⟩, vM_night h⟩
def uX (μ : Mem) (α : Al) : Prop := μ 2 0 = ((α.1 0 0 : Nat) : Int) ∧ μ 2 1 = ((α.1 0 1 : Nat) : Int) ∧ μ 2 2 = ((α.1 0 2 : Nat) : Int) ∧ (∀ i, i < α.1 0 0 → μ 16 i = ((α.1 1 i : Nat) : Int)) ∧ (∀ i, i < α.1 0 1 → μ 17 i = ((α.1 2 i : Nat) : Int) ∧ μ 18 i = ((α.1 3 i : Nat) : Int) ∧ μ 21 i = ((α.1 4 i : Nat) : Int) ∧ μ 19 i = ((α.1 5 i : Nat) : Int) ∧ μ 20 i = ((α.1 6 i : Nat) : Int)) ∧ (∀ i, i < α.1 0 2 → μ 22 i = ((α.1 7 i : Nat) : Int))
theorem uX_vX {μ : Mem} {α : Al} (h : vX μ α) : uX μ α := ⟨vX_P h, vX_T h, vX_N h, vX_one h, fun i hi => ⟨vX_kind h i hi, vX_look h i hi, vX_keep h i hi, vX_word h i hi, vX_pow0 h i hi⟩, vX_night h⟩
/-- a line's numbers, by its word -/
theorem okN_2 {a b : Nat} {l : List Nat} (h : okN [a, b] l) : l.getD 0 0 < a ∧ l.getD 1 0 < b ∧ l.getD 2 0 = 0 ∧ l.getD 3 0 = 0 := by
  match l, h with
  | [x, y], h => exact ⟨h.1, h.2.1, rfl, rfl⟩
theorem okN_3 {a b c : Nat} {l : List Nat} (h : okN [a, b, c] l) : l.getD 0 0 < a ∧ l.getD 1 0 < b ∧ l.getD 2 0 < c ∧ l.getD 3 0 = 0 := by
  match l, h with
  | [x, y, z], h => exact ⟨h.1, h.2.1, h.2.2.1, rfl⟩
theorem okN_4 {a b c e : Nat} {l : List Nat} (h : okN [a, b, c, e] l) : l.getD 0 0 < a ∧ l.getD 1 0 < b ∧ l.getD 2 0 < c ∧ l.getD 3 0 < e := by
  match l, h with
  | [x, y, z, u], h => exact ⟨h.1, h.2.1, h.2.2.1, h.2.2.2.1⟩
theorem okN_1 {a : Nat} {l : List Nat} (h : okN [a] l) : l.getD 0 0 < a := by
  match l, h with
  | [x], h => exact h.1
theorem okT {s : St3} {x : Nat × List Nat} (h : okL s x) (h5 : 5 ≤ x.1) (h8 : x.1 < 9) : s.2.1 < 6 ∧ x.2.getD 0 0 < 3 ∧ x.2.getD 1 0 < s.1 ∧ x.2.getD 2 0 < 4 ∧ x.2.getD 3 0 < 10 := by
  obtain ⟨w, l⟩ := x
  obtain ⟨_, h2, h3⟩ := h
  have h2 : roomB w s = true := h2
  have h3 : okN (bnd w s.1 s.2.1) l := h3
  have h5 : 5 ≤ w := h5
  have h8 : w < 9 := h8
  have hr : s.2.1 < 6 := by
    unfold roomB at h2
    rw [if_neg (by omega), if_neg (by omega), if_pos h8] at h2
    exact of_decide_eq_true h2
  show s.2.1 < 6 ∧ l.getD 0 0 < 3 ∧ l.getD 1 0 < s.1 ∧ l.getD 2 0 < 4 ∧ l.getD 3 0 < 10
  rcases (show w = 5 ∨ w = 6 ∨ w = 7 ∨ w = 8 by omega) with e | e | e | e <;> subst e
  · have := okN_2 h3; omega
  · have := okN_3 h3; omega
  · have := okN_4 h3; omega
  · have := okN_3 h3; omega
theorem uw_dl {α : Al} {x : Nat × List Nat} (h : uw α) (ok : okL (sOf α) x) : uw (dl α x) := by
  obtain ⟨a1, a2, a3, a4, a5, a6⟩ := h
  unfold dl
  by_cases c0 : x.1 = 0
  · rw [if_pos c0]
    exact ⟨Nat.zero_le _, Nat.zero_le _, Nat.zero_le _, fun i hi => absurd hi (Nat.not_lt_zero i), fun i hi => absurd hi (Nat.not_lt_zero i), fun i hi => absurd hi (Nat.not_lt_zero i)⟩
  rw [if_neg c0]
  by_cases c1 : x.1 < 5
  · rw [if_pos c1]
    have hr : α.1 0 0 < 5 := by
      have h2 := ok.2.1
      unfold roomB at h2
      rw [if_neg c0, if_pos c1] at h2
      exact of_decide_eq_true h2
    refine ⟨hr, a2, a3, fun i hi => ?_, fun i hi => ?_, a6⟩
    · have hi' : i < α.1 0 0 + 1 := hi
      show (as1 α 1 (α.1 0 0) (x.1 - 1)).1 1 i < 4
      by_cases e : i = α.1 0 0
      · rw [e, as1_s]; omega
      · rw [as1_i e]; exact a4 i (by omega)
    · obtain ⟨b1, b2, b3, b4⟩ := a5 i hi
      exact ⟨b1, b2, Nat.lt_succ_of_lt b3, b4⟩
  rw [if_neg c1]
  by_cases c2 : x.1 < 9
  · rw [if_pos c2]
    obtain ⟨hr, n0, n1, n2, n3⟩ := okT ok (by omega) c2
    refine ⟨a1, hr, a3, a4, fun i hi => ?_, a6⟩
    have hi' : i < α.1 0 1 + 1 := hi
    show (as1 α 2 (α.1 0 1) (x.1 - 5)).1 2 i < 4 ∧ (as1 α 3 (α.1 0 1) (x.2.getD 0 0)).1 3 i < 3 ∧ (as1 α 4 (α.1 0 1) (x.2.getD 1 0)).1 4 i < α.1 0 0 ∧ (as1 α 5 (α.1 0 1) (x.2.getD 2 0)).1 5 i < 4 ∧ (as1 α 6 (α.1 0 1) (x.2.getD 3 0)).1 6 i < 10
    by_cases e : i = α.1 0 1
    · rw [e, as1_s, as1_s, as1_s, as1_s, as1_s]; exact ⟨by omega, n0, n1, n2, n3⟩
    · rw [as1_i e, as1_i e, as1_i e, as1_i e, as1_i e]; exact a5 i (by omega)
  rw [if_neg c2]
  by_cases c3 : x.1 = 9
  · rw [if_pos c3]
    have h2 := ok.2.1
    unfold roomB at h2
    rw [if_neg c0, if_neg c1, if_neg c2, if_pos c3] at h2
    have hr : α.1 0 2 < 6 := of_decide_eq_true h2
    have h3 := ok.2.2
    rw [c3] at h3
    have h3 : okN [2 ^ α.1 0 0] x.2 := h3
    have n0 := okN_1 h3
    have h32 : 2 ^ α.1 0 0 ≤ 32 := Nat.pow_le_pow_right (n := 2) (j := 5) (by decide) a1
    refine ⟨a1, a2, hr, a4, a5, fun i hi => ?_⟩
    have hi' : i < α.1 0 2 + 1 := hi
    show (as1 α 7 (α.1 0 2) (x.2.getD 0 0)).1 7 i < 32
    by_cases e : i = α.1 0 2
    · rw [e, as1_s]; omega
    · rw [as1_i e]; exact a6 i (by omega)
  rw [if_neg c3]
  have h10 : x.1 = 10 := by have := ok.1; omega
  have h3 := ok.2.2
  rw [h10] at h3
  have h3 : okN [α.1 0 1, 10] x.2 := h3
  obtain ⟨n0, n1, _⟩ := okN_2 h3
  refine ⟨a1, a2, a3, a4, fun i hi => ?_, a6⟩
  obtain ⟨b1, b2, b3, b4, b5⟩ := a5 i hi
  refine ⟨b1, b2, b3, b4, ?_⟩
  by_cases e : i = x.2.getD 0 0
  · rw [e, as1_s]; exact n1
  · rw [as1_i e]; exact b5
def fDo (μ μ' : Mem) : Prop := ∀ c j, (c ≠ 61 ∨ (j ≠ 0 ∧ j ≠ 2 ∧ j ≠ 4)) → c ≠ 62 → c ≠ 63 → c ≠ 64 → μ' c j = μ c j
theorem wm_lo : ∀ w, w < 11 → (w = 0 → wm w = 8) ∧ (0 < w → w < 9 → wm w = w - 1) ∧ (9 ≤ w → wm w = w) := by decide
set_option maxRecDepth 20000 in
theorem M_doLine_ok {d k : Nat} {x : Nat × List Nat} {μ : Mem} {α : Al} {Q : AV → Mem → Prop} (hu : uM μ α) (hw : uw α) (ok : okL (sOf α) x) (hl : lnM μ k x) (hk : k < 14) (h : ∀ μ', fDo μ μ' → uM μ' (dl α x) → Q (xI 0) μ') : GM d 139 [xR 61, xI ((5 * k : Nat) : Int)] μ Q := by
  obtain ⟨u1, u2, u3, u4, u5, u6⟩ := hu
  obtain ⟨a1, a2, a3, a4, a5, a6⟩ := hw
  have hw11 := ok.1
  obtain ⟨w0, w1, w9⟩ := wm_lo x.1 hw11
  unfold dl at h
  refine ge_M_doLine ?_
  rw [wb_eq (by omega) (by omega), Int.toNat_natCast, hl.1, u1, u2, u3, iw_k1 (n := 5 * k) (by omega), iw_k2 (n := 5 * k) (by omega), iw_50 (by omega)]
  by_cases c0 : x.1 = 0
  · rw [if_pos c0] at h
    rw [w0 c0, if_neg (by decide), if_neg (by decide), if_pos (by decide)]
    refine h _ (fun c j q1 q2 q3 q4 => by rw [xs_if, if_neg (by omega), xs_if, if_neg (by omega), xs_if, if_neg (by omega)]) ⟨?_, ?_, xs_s, fun i hi => absurd hi (Nat.not_lt_zero i), fun i hi => absurd hi (Nat.not_lt_zero i), fun i hi => absurd hi (Nat.not_lt_zero i)⟩
    · rw [xs_j (by decide), xs_j (by decide), xs_s]; rfl
    · rw [xs_j (by decide), xs_s]; rfl
  rw [if_neg c0] at h
  by_cases c1 : x.1 < 5
  · rw [if_pos c1] at h
    have hr : α.1 0 0 < 5 := by
      have h2 := ok.2.1
      unfold roomB at h2
      rw [if_neg c0, if_pos c1] at h2
      exact of_decide_eq_true h2
    rw [w1 (by omega) (by omega), if_pos (by omega), wb_eq (by omega) (by omega), Int.toNat_natCast, iw_k1 (by omega)]
    refine h _ (fun c j q1 q2 q3 q4 => by rw [xs_if, if_neg (by omega), xs_c q2]) ⟨xs_s, ?_, ?_, fun i hi => ?_, fun i hi => ?_, fun i hi => ?_⟩
    · rw [xs_j (by decide), xs_c (by decide)]; exact u2
    · rw [xs_j (by decide), xs_c (by decide)]; exact u3
    · have hi' : i < α.1 0 0 + 1 := hi
      show _ = (((as1 α 1 (α.1 0 0) (x.1 - 1)).1 1 i : Nat) : Int)
      rw [xs_c (by decide)]
      by_cases e : i = α.1 0 0
      · rw [e, as1_s, xs_s]
      · rw [as1_i e, xs_j e]; exact u4 i (by omega)
    · rw [xs_c (by decide), xs_c (by decide), xs_c (by decide), xs_c (by decide), xs_c (by decide), xs_c (by decide), xs_c (by decide), xs_c (by decide), xs_c (by decide), xs_c (by decide)]; exact u5 i hi
    · rw [xs_c (by decide), xs_c (by decide)]; exact u6 i hi
  rw [if_neg c1] at h
  by_cases c2 : x.1 < 9
  · rw [if_pos c2] at h
    obtain ⟨hr, _⟩ := okT ok (by omega) c2
    have hr : α.1 0 1 < 6 := hr
    have hl2 : ∀ j, j < 4 → μ 66 (5 * k + 1 + j) = ((x.2.getD j 0 : Nat) : Int) := fun j hj => hl.2 j (by rw [if_pos ⟨by omega, by omega⟩]; exact hj)
    have e4 : iw (((x.1 - 1 : Nat) : Int) - 4) = ((x.1 - 5 : Nat) : Int) := by rw [iw_id (by omega) (by omega)]; omega
    rw [w1 (by omega) (by omega), if_neg (by omega), if_pos (by omega), wb_eq (by omega) (by omega), Int.toNat_natCast, e4]
    have lp : ∀ (m j : Nat) (ν : Mem) (v2 : AV), j + m = 5 → 1 ≤ j → (∀ c i, c ≠ 63 → ν c i = μ c i) → (∀ i, (i < 5 * α.1 0 1 ∨ 5 * α.1 0 1 + 5 ≤ i) → ν 63 i = μ 63 i) → ν 63 (5 * α.1 0 1) = ((x.1 - 5 : Nat) : Int) → (∀ i, i + 1 < j → ν 63 (5 * α.1 0 1 + 1 + i) = ((x.2.getD i 0 : Nat) : Int)) → DW d 139 36 [xR 61, xI ((5 * k : Nat) : Int), v2, xI (j : Int)] ν Q := by
      intro m
      induction m with
      | zero =>
        intro j ν v2 hj h1 f1 f2 e0 e1
        refine sg_M_doLine_36 ?_
        rw [if_neg (by omega)]
        refine sg_M_doLine_57 ?_
        rw [f1 61 2 (by decide), u2, iw_k1 (by omega)]
        refine h _ (fun c i q1 q2 q3 q4 => by rw [xs_if, if_neg (by omega)]; exact f1 c i q3) ⟨?_, xs_s, ?_, fun i hi => ?_, fun i hi => ?_, fun i hi => ?_⟩
        · rw [xs_j (by decide), f1 61 0 (by decide)]; exact u1
        · rw [xs_j (by decide), f1 61 4 (by decide)]; exact u3
        · rw [xs_c (by decide), f1 62 i (by decide)]; exact u4 i hi
        · have hi' : i < α.1 0 1 + 1 := hi
          show _ = (((as1 α 2 (α.1 0 1) (x.1 - 5)).1 2 i : Nat) : Int) ∧ _ = (((as1 α 3 (α.1 0 1) (x.2.getD 0 0)).1 3 i : Nat) : Int) ∧ _ = (((as1 α 4 (α.1 0 1) (x.2.getD 1 0)).1 4 i : Nat) : Int) ∧ _ = (((as1 α 5 (α.1 0 1) (x.2.getD 2 0)).1 5 i : Nat) : Int) ∧ _ = (((as1 α 6 (α.1 0 1) (x.2.getD 3 0)).1 6 i : Nat) : Int)
          rw [xs_c (by decide), xs_c (by decide), xs_c (by decide), xs_c (by decide), xs_c (by decide)]
          by_cases e : i = α.1 0 1
          · rw [e, as1_s, as1_s, as1_s, as1_s, as1_s]
            exact ⟨e0, e1 0 (by omega), e1 1 (by omega), e1 2 (by omega), e1 3 (by omega)⟩
          · rw [as1_i e, as1_i e, as1_i e, as1_i e, as1_i e, f2 _ (by omega), f2 _ (by omega), f2 _ (by omega), f2 _ (by omega), f2 _ (by omega)]
            exact u5 i (by omega)
        · rw [xs_c (by decide), f1 64 i (by decide)]; exact u6 i hi
      | succ m ih =>
        intro j ν v2 hj h1 f1 f2 e0 e1
        refine sg_M_doLine_36 ?_
        rw [if_pos (by omega), f1 61 2 (by decide), u2, iw_50 (by omega), iw_ad (by omega), iw_ad (by omega), wb_eq (by omega) (by omega), wb_eq (by omega) (by omega), Int.toNat_natCast, Int.toNat_natCast, iw_k1 (by omega), f1 66 _ (by decide)]
        have eg := hl2 (j - 1) (by omega)
        rw [show 5 * k + 1 + (j - 1) = 5 * k + j by omega] at eg
        rw [eg]
        refine ih (j + 1) _ _ (by omega) (by omega) (fun c i hc => by rw [xs_c hc]; exact f1 c i hc) (fun i hi => by rw [xs_j (by omega)]; exact f2 i hi) (by rw [xs_j (by omega)]; exact e0) (fun i hi => ?_)
        by_cases e : i = j - 1
        · rw [e, show 5 * α.1 0 1 + 1 + (j - 1) = 5 * α.1 0 1 + j by omega, xs_s]
        · rw [xs_j (by omega)]; exact e1 i (by omega)
    exact lp 4 1 _ _ rfl (Nat.le_refl _) (fun c i hc => xs_c hc) (fun i hi => xs_j (by omega)) xs_s (fun i hi => by omega)
  rw [if_neg c2] at h
  by_cases c3 : x.1 = 9
  · rw [if_pos c3] at h
    have h2 := ok.2.1
    unfold roomB at h2
    rw [if_neg c0, if_neg c1, if_neg c2, if_pos c3] at h2
    have hr : α.1 0 2 < 6 := of_decide_eq_true h2
    have h3 := ok.2.2
    rw [c3] at h3
    have el : x.2.length = 1 := okN_len _ _ h3
    have eg : μ 66 (5 * k + 1) = ((x.2.getD 0 0 : Nat) : Int) := hl.2 0 (by rw [if_neg (by omega), el]; decide)
    rw [w9 (by omega), c3, if_neg (by decide), if_neg (by decide), if_neg (by decide), if_pos (by decide), wb_eq (by omega) (by omega), wb_eq (by omega) (by omega), Int.toNat_natCast, Int.toNat_natCast, iw_k1 (by omega), eg]
    refine h _ (fun c j q1 q2 q3 q4 => by rw [xs_if, if_neg (by omega), xs_c q4]) ⟨?_, ?_, xs_s, fun i hi => ?_, fun i hi => ?_, fun i hi => ?_⟩
    · rw [xs_j (by decide), xs_c (by decide)]; exact u1
    · rw [xs_j (by decide), xs_c (by decide)]; exact u2
    · rw [xs_c (by decide), xs_c (by decide)]; exact u4 i hi
    · rw [xs_c (by decide), xs_c (by decide), xs_c (by decide), xs_c (by decide), xs_c (by decide), xs_c (by decide), xs_c (by decide), xs_c (by decide), xs_c (by decide), xs_c (by decide)]; exact u5 i hi
    · have hi' : i < α.1 0 2 + 1 := hi
      show _ = (((as1 α 7 (α.1 0 2) (x.2.getD 0 0)).1 7 i : Nat) : Int)
      rw [xs_c (by decide)]
      by_cases e : i = α.1 0 2
      · rw [e, as1_s, xs_s]
      · rw [as1_i e, xs_j e]; exact u6 i (by omega)
  rw [if_neg c3] at h
  have h10 : x.1 = 10 := by omega
  have h3 := ok.2.2
  rw [h10] at h3
  have h3 : okN [α.1 0 1, 10] x.2 := h3
  have el : x.2.length = 2 := okN_len _ _ h3
  obtain ⟨n0, n1, _⟩ := okN_2 h3
  have eg0 : μ 66 (5 * k + 1) = ((x.2.getD 0 0 : Nat) : Int) := hl.2 0 (by rw [if_neg (by omega), el]; decide)
  have eg1 := hl.2 1 (by rw [if_neg (by omega), el]; decide)
  rw [w9 (by omega), h10, if_neg (by decide), if_neg (by decide), if_neg (by decide), if_neg (by decide), wb_eq (by omega) (by omega), wb_eq (by omega) (by omega), Int.toNat_natCast, Int.toNat_natCast, eg0, iw_54 (by omega), wb_eq (by omega) (by omega), Int.toNat_natCast, show 5 * k + 2 = 5 * k + 1 + 1 from rfl, eg1]
  refine h _ (fun c j q1 q2 q3 q4 => by rw [xs_c q3]) ⟨?_, ?_, ?_, fun i hi => ?_, fun i hi => ?_, fun i hi => ?_⟩
  · rw [xs_c (by decide)]; exact u1
  · rw [xs_c (by decide)]; exact u2
  · rw [xs_c (by decide)]; exact u3
  · rw [xs_c (by decide)]; exact u4 i hi
  · have hi' : i < α.1 0 1 := hi
    obtain ⟨b1, b2, b3, b4, b5⟩ := u5 i hi'
    rw [xs_j (by omega), xs_j (by omega), xs_j (by omega), xs_j (by omega)]
    refine ⟨b1, b2, b3, b4, ?_⟩
    by_cases e : i = x.2.getD 0 0
    · rw [e, as1_s, xs_s]
    · rw [as1_i e, xs_j (by omega)]; exact b5
  · rw [xs_c (by decide)]; exact u6 i hi
