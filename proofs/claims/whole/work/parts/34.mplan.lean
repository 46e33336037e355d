/-! the reference's plan -/
theorem iw_72 {n r : Nat} (hn : n < 10) (hr : r < 10000) : iw (iw (720 * (n : Int)) + (r : Int)) = ((720 * n + r : Nat) : Int) := by simp only [iw_def]; omega
theorem iw_721 {n r : Nat} (hn : n < 10) (hr : r < 10000) : iw (iw (720 * iw ((n : Int) + 1)) + (r : Int)) = ((720 * (n + 1) + r : Nat) : Int) := by simp only [iw_def]; omega
theorem x_exch2 {μ : Mem} {a b : Nat} (h : a ≠ b) : xset (xset (xset (xset μ 71 a (μ 71 b)) 71 b (μ 71 a)) 71 a ((xset (xset μ 71 a (μ 71 b)) 71 b (μ 71 a)) 71 b)) 71 b ((xset (xset μ 71 a (μ 71 b)) 71 b (μ 71 a)) 71 a) = μ := by
  have e1 : xset (xset μ 71 a (μ 71 b)) 71 b (μ 71 a) 71 b = μ 71 a := xs_s
  have e2 : xset (xset μ 71 a (μ 71 b)) 71 b (μ 71 a) 71 a = μ 71 b := (xs_j h).trans xs_s
  rw [e1, e2]
  funext c j
  simp only [xs_if]
  by_cases c1 : c = 71 ∧ j = b
  · rw [if_pos c1, c1.1, c1.2]
  · rw [if_neg c1]
    by_cases c2 : c = 71 ∧ j = a
    · rw [if_pos c2, c2.1, c2.2]
    · rw [if_neg c2, if_neg c1, if_neg c2]
theorem x_exch {μ : Mem} {a b T : Nat} {f : Nat → Nat} (ha : a < T) (hb : b < T) (hl : ∀ p, p < T → μ 71 p = ((f p : Nat) : Int)) : ∀ p, p < T → xset (xset μ 71 a (μ 71 b)) 71 b (μ 71 a) 71 p = ((swp a b f p : Nat) : Int) := by
  intro p hp
  unfold swp
  by_cases c1 : p = b
  · rw [if_pos c1, c1, xs_s, hl a ha]
  · rw [if_neg c1, xs_j c1]
    by_cases c2 : p = a
    · rw [if_pos c2, c2, xs_s, hl b hb]
    · rw [if_neg c2, xs_j c2, hl p hp]
theorem M_by_ok {d n a b T : Nat} {f : Nat → Nat} {v : Nat → Int} {μ : Mem} {Q : AV → Mem → Prop} (hT : T ≤ 6) (ht : μ 61 2 = (T : Int)) (hf : PI T f) (hl : ∀ p, p < T → μ 71 p = ((f p : Nat) : Int)) (hn : n < 6) (ha : a < b) (hb : b < T) (hV : ∀ r, r < fac T → μ 73 (720 * (n + 1) + r) = v r) (h : ∀ r, r < fac T → (∀ p, p < T → rv T r p = swp a b f p) → Q (xI (iw (v r - 1))) μ) : GM (d + 2) 171 [xR 61, xI (n : Int), xI (a : Int), xI (b : Int)] μ Q := by
  have hfc := fac_le _ hT
  obtain ⟨r, hr, er⟩ := row_of hT (swp_PI hf (show a < T by omega) hb)
  have e2 : ∀ p, p < T → rv T r p = swp a b f p := fun p hp => rv_of er hp
  have hx := x_exch (μ := μ) (show a < T by omega) hb hl
  have e73 : ∀ j, xset (xset μ 71 a (μ 71 b)) 71 b (μ 71 a) 73 j = μ 73 j := fun j => (xs_c (by decide)).trans (xs_c (by decide))
  have e61 : ∀ j, xset (xset μ 71 a (μ 71 b)) 71 b (μ 71 a) 61 j = μ 61 j := fun j => (xs_c (by decide)).trans (xs_c (by decide))
  refine ge_M_by ?_
  rw [wb_eq (by omega) (by omega), wb_eq (by omega) (by omega), wb_eq (by omega) (by omega), wb_eq (by omega) (by omega)]
  simp only [Int.toNat_natCast]
  refine M_rowOf_ok hT ((e61 2).trans ht) hr (fun p hp => ?_) ?_
  · rw [hx p hp, e2 p hp]
  · refine gI_mk ?_
    rw [iw_721 (by omega) (by omega), wb_eq (by omega) (by omega), wb_eq (by omega) (by omega), wb_eq (by omega) (by omega), wb_eq (by omega) (by omega), wb_eq (by omega) (by omega), Int.toNat_natCast, e73, hV r hr, x_exch2 (by omega)]
    exact h r hr e2
def Vr (α : Al) (n r : Nat) : Int := if lawB α (rv (α.1 0 1) r) then conv (pb α (α.1 0 2 - n) (csF α (rv (α.1 0 1) r))) else -1000
theorem Vr_of {α : Al} {n r : Nat} {f : Nat → Nat} (he : ∀ p, p < α.1 0 1 → rv (α.1 0 1) r p = f p) (hl : lawB α f = true) : Vr α n r = conv (pb α (α.1 0 2 - n) (csF α f)) := by
  unfold Vr
  rw [lawB_congr he, if_pos hl, csF_congr he]
theorem stp_good {α : Al} (hT : α.1 0 1 ≤ 6) {n k s a b : Nat} {v : Int} (hs : s < 64) (ha : a < α.1 0 1) (hb : b < α.1 0 1) (hg : good (k + 1) v) : good (k + 1) (stp α n (pb α k) s a b v) := by
  unfold stp
  split
  · refine good_max hg ?_
    obtain ⟨c, j, h1, h2, h3⟩ := pb_good hT k (exc s a b) (exc_chk s hs a (by omega) b (by omega)).1
    exact ⟨c, j + 1, h1, by omega, by omega⟩
  · exact hg
/-- one change of the reference's plan: the value of the row behind it -/
theorem M_by2_ok {d n k a b : Nat} {f : Nat → Nat} {μ : Mem} {α : Al} {Q : AV → Mem → Prop} (hv : vM μ α) (hw : wf α) (hk : α.1 0 2 = n + (k + 1)) (hf : PI (α.1 0 1) f) (hlaw : lawB α f = true) (hl : ∀ p, p < α.1 0 1 → μ 71 p = ((f p : Nat) : Int)) (hV : ∀ r, r < fac (α.1 0 1) → μ 73 (720 * (n + 1) + r) = Vr α (n + 1) r) (ha : a < b) (hb : b < α.1 0 1) (hm : sp_may α n a b = true) (h : Q (xI (conv (pb α k (exc (csF α f) a b) - 1))) μ) : GM (d + 2) 171 [xR 61, xI (n : Int), xI (a : Int), xI (b : Int)] μ Q := by
  have hT := wf_T hw
  have hN := wf_N hw
  have hcs : csF α f < 64 := sp_bits64 _ hT
  have hx := exc_chk _ hcs a (by omega) b (by omega)
  have hpg := pb_good hT k _ hx.1
  have hc1 := conv_m1 (by omega) hpg
  have hcb2 := conv_bd hc1.2
  refine M_by_ok hT (vM_T hv) hf hl (by omega) ha hb hV (fun r' hr' e' => ?_)
  have e1 : Vr α (n + 1) r' = conv (pb α k (exc (csF α f) a b)) := by
    rw [Vr_of e' (swp_law hlaw (by omega) hb hm), cs_swp hT (by omega) hb, show α.1 0 2 - (n + 1) = k by omega]
  have e2 : iw (Vr α (n + 1) r' - 1) = conv (pb α k (exc (csF α f) a b) - 1) := by rw [e1, hc1.1, iw_id (by omega) (by omega)]
  rw [e2]
  exact h
set_option maxRecDepth 20000 in
theorem M_plan_b {d n k r a : Nat} {f : Nat → Nat} {μ : Mem} {α : Al} {Q : AV → Mem → Prop} (hv : vM μ α) (hw : wf α) (hk : α.1 0 2 = n + (k + 1)) (hf : PI (α.1 0 1) f) (hlaw : lawB α f = true) (hl : ∀ p, p < α.1 0 1 → μ 71 p = ((f p : Nat) : Int)) (hV : ∀ r, r < fac (α.1 0 1) → μ 73 (720 * (n + 1) + r) = Vr α (n + 1) r) : ∀ m b v v6, b + m = α.1 0 1 → a < b → good (k + 1) v → (∀ v6, DW (d + 4) 167 111 [xR 61, xI (n : Int), xI (r : Int), xI (conv (gb (α.1 0 1) (stp α n (pb α k) (csF α f)) a m v)), xI (a : Int), xI ((α.1 0 1 : Nat) : Int), v6] μ Q) → DW (d + 4) 167 83 [xR 61, xI (n : Int), xI (r : Int), xI (conv v), xI (a : Int), xI (b : Int), v6] μ Q := by
  have hT := wf_T hw
  have hN := wf_N hw
  have hcs : csF α f < 64 := sp_bits64 _ hT
  intro m
  induction m with
  | zero =>
    intro b v v6 hb ha hg h
    refine sg_M_layPlan_83 ?_
    rw [vM_T hv, if_neg (by omega), show b = α.1 0 1 by omega]
    exact h v6
  | succ m ih =>
    intro b v v6 hb ha hg h
    have hbT : b < α.1 0 1 := by omega
    have eb : α.1 0 1 - (m + 1) = b := by omega
    have hg6 : good 6 v := good_up hg (by omega)
    have hcb := conv_bd hg6
    have hgs := stp_good hT (n := n) hcs (show a < α.1 0 1 by omega) hbT hg
    rw [gb, eb] at h
    refine sg_M_layPlan_83 ?_
    rw [vM_T hv, if_pos (by omega), iw_k1 (by omega)]
    refine M_mayBe_ok hv hw (by omega) (by omega) hbT ?_
    refine gI_mk ?_
    by_cases hm : sp_may α n a b = true
    · have e0 : (if a ≠ b ∧ sp_may α n a b = true then (1 : Int) else 0) = 1 := if_pos ⟨by omega, hm⟩
      rw [e0, if_neg (by decide)]
      refine M_by2_ok hv hw hk hf hlaw hl hV ha hbT hm ?_
      refine gI_mk ?_
      have hpg := pb_good hT k _ (exc_chk _ hcs a (by omega) b (by omega)).1
      have hc1 := conv_m1 (by omega) hpg
      have es : stp α n (pb α k) (csF α f) a b v = max v (pb α k (exc (csF α f) a b) - 1) := by unfold stp; rw [if_pos hm]
      rw [es] at h hgs
      refine wi (fun c => ?_) (fun c => ?_)
      · have c' := (conv_lt hg6 hc1.2).1 c
        rw [Int.max_eq_right (by omega)] at h hgs
        exact ih (b + 1) _ _ (by omega) (by omega) hgs h
      · have c' : ¬ v < pb α k (exc (csF α f) a b) - 1 := fun c2 => c ((conv_lt hg6 hc1.2).2 c2)
        rw [Int.max_eq_left (by omega)] at h
        exact ih (b + 1) _ _ (by omega) (by omega) hg h
    · have e0 : (if a ≠ b ∧ sp_may α n a b = true then (1 : Int) else 0) = 0 := if_neg (fun w => hm w.2)
      rw [e0, if_pos rfl, if_neg (by omega)]
      have es : stp α n (pb α k) (csF α f) a b v = v := by unfold stp; rw [if_neg hm]
      rw [es] at h
      exact ih (b + 1) _ _ (by omega) (by omega) hg h
theorem M_plan_a {d n k r : Nat} {f : Nat → Nat} {μ : Mem} {α : Al} {Q : AV → Mem → Prop} (hv : vM μ α) (hw : wf α) (hk : α.1 0 2 = n + (k + 1)) (hf : PI (α.1 0 1) f) (hlaw : lawB α f = true) (hl : ∀ p, p < α.1 0 1 → μ 71 p = ((f p : Nat) : Int)) (hV : ∀ r, r < fac (α.1 0 1) → μ 73 (720 * (n + 1) + r) = Vr α (n + 1) r) : ∀ m a v v5 v6, a + m = α.1 0 1 → good (k + 1) v → (∀ v4 v5 v6, DW (d + 4) 167 114 [xR 61, xI (n : Int), xI (r : Int), xI (conv (ga (α.1 0 1) (stp α n (pb α k) (csF α f)) m v)), v4, v5, v6] μ Q) → DW (d + 4) 167 74 [xR 61, xI (n : Int), xI (r : Int), xI (conv v), xI (a : Int), v5, v6] μ Q := by
  have hT := wf_T hw
  have hcs : csF α f < 64 := sp_bits64 _ hT
  intro m
  induction m with
  | zero =>
    intro a v v5 v6 ha hg h
    refine sg_M_layPlan_74 ?_
    rw [vM_T hv, if_neg (by omega)]
    exact h _ _ _
  | succ m ih =>
    intro a v v5 v6 ha hg h
    have ea : α.1 0 1 - (m + 1) = a := by omega
    rw [ga, ea] at h
    refine sg_M_layPlan_74 ?_
    rw [vM_T hv, if_pos (by omega), iw_k1 (by omega)]
    refine M_plan_b hv hw hk hf hlaw hl hV m (a + 1) v _ (by omega) (by omega) hg (fun v6 => ?_)
    refine sg_M_layPlan_111 ?_
    rw [iw_k1 (by omega)]
    exact ih (a + 1) _ _ _ (by omega) (gb_inv (P := good (k + 1)) (fun b v h1 h2 hg => stp_good hT hcs (by omega) h2 hg) m v (by omega) hg) h
/-! the end of the nights -/
def hc (α : Al) (f : Nat → Nat) : Nat → Bool := fun p => decide (0 < α.1 2 (f p)) && (α.1 1 (α.1 4 p) == 3)
theorem sp_cnt_ext0 {f : Nat → Bool} {n : Nat} (h : ∀ i, n ≤ i → f i = false) : ∀ m, sp_cnt f (n + m) = sp_cnt f n
  | 0 => rfl
  | m + 1 => by
    rw [← Nat.add_assoc, sp_cnt, sp_cnt_ext0 h m, h (n + m) (by omega)]; rfl
theorem pop_cs {α : Al} (hT : α.1 0 1 ≤ 6) (f : Nat → Nat) : pop (csF α f &&& hostB α) = sp_cnt (hc α f) (α.1 0 1) := by
  have e := sp_cnt_ext0 (f := fun i => (csF α f &&& hostB α).testBit i) (n := α.1 0 1) (fun i hi => by
    rw [Nat.testBit_and]
    unfold csF
    rw [sp_bits_tb, decide_eq_false (by omega)]
    rfl) (6 - α.1 0 1)
  rw [show α.1 0 1 + (6 - α.1 0 1) = 6 by omega] at e
  unfold pop
  rw [e]
  refine sp_cnt_congr _ (fun i hi => ?_)
  rw [Nat.testBit_and]
  unfold csF hostB hc
  rw [sp_bits_tb, sp_bits_tb, decide_eq_true hi, Bool.true_and, Bool.true_and]
theorem conv_16 (c : Nat) : conv ((16 * c : Nat) : Int) = ((100 * c : Nat) : Int) := by unfold conv; omega
theorem iw_100 {c : Nat} (h : c < 1000) : iw (((100 * c : Nat) : Int) + 100) = ((100 * (c + 1) : Nat) : Int) := by simp only [iw_def]; omega
set_option maxRecDepth 20000 in
theorem M_plan_h {d n r : Nat} {f : Nat → Nat} {μ : Mem} {α : Al} {Q : AV → Mem → Prop} {v5 v6 : AV} (hv : vM μ α) (hw : wf α) (hf : PI (α.1 0 1) f) (hl : ∀ p, p < α.1 0 1 → μ 71 p = ((f p : Nat) : Int)) (h : ∀ v4 v5 v6, DW (d + 4) 167 114 [xR 61, xI (n : Int), xI (r : Int), xI ((100 * sp_cnt (hc α f) (α.1 0 1) : Nat) : Int), v4, v5, v6] μ Q) : ∀ m p, p + m = α.1 0 1 → DW (d + 4) 167 34 [xR 61, xI (n : Int), xI (r : Int), xI ((100 * sp_cnt (hc α f) p : Nat) : Int), xI (p : Int), v5, v6] μ Q := by
  have hT := wf_T hw
  have hP := wf_P hw
  intro m
  induction m with
  | zero =>
    intro p hp
    refine sg_M_layPlan_34 ?_
    rw [vM_T hv, if_neg (by omega), show p = α.1 0 1 by omega]
    refine sg_M_layPlan_59 ?_
    exact h _ _ _
  | succ m ih =>
    intro p hp
    have hp' : p < α.1 0 1 := by omega
    have h2 := wf_keep hw p hp'
    have hfp := hf.1 p hp'
    have hi := ih (p + 1) (by omega)
    have hcl := sp_cnt_le (hc α f) p
    have eN : iw (((100 * sp_cnt (hc α f) p : Nat) : Int) + 0) = ((100 * sp_cnt (hc α f) p : Nat) : Int) := iw_n0 (by omega)
    have no : hc α f p = false → DW (d + 4) 167 34 [xR 61, xI (n : Int), xI (r : Int), xI ((100 * sp_cnt (hc α f) p : Nat) : Int), xI ((p + 1 : Nat) : Int), v5, v6] μ Q := fun e => by
      rw [sp_cnt, e] at hi; exact hi
    refine sg_M_layPlan_34 ?_
    rw [eN]
    simp (disch := omega) only [vM_T hv, iw_50, iw_k2, iw_k1, wb_eq, Int.toNat_natCast, vM_keep hv, vM_one hv, hl p hp', vM_kind hv, ii_lt, ii_3, ii_p]
    rw [if_pos hp']
    refine wi (fun c1 => ?_) (fun c1 => ?_)
    · refine wi (fun c2 => ?_) (fun c2 => ?_)
      · have e : hc α f p = true := by unfold hc; rw [decide_eq_true c2, beq_iff_eq.2 c1]; rfl
        rw [sp_cnt, e] at hi
        rw [iw_100 (by omega)]
        exact hi
      · exact no (by unfold hc; rw [decide_eq_false c2]; rfl)
    · exact no (by unfold hc; rw [beq_eq_false_iff_ne.2 c1, Bool.and_false])
/-! all nights -/
def fP (μ μ' : Mem) : Prop := ∀ c j, c ≠ 71 → c ≠ 73 → μ' c j = μ c j
theorem fM_fP {μ μ' : Mem} (h : fP μ μ') : fM μ μ' := ⟨fun j _ => h 61 j (by decide) (by decide), fun c j h1 h2 _ => h c j (by omega) (by omega)⟩
def vV (μ : Mem) (α : Al) (n : Nat) : Prop := ∀ n', n ≤ n' → n' ≤ α.1 0 2 → ∀ r, r < fac (α.1 0 1) → μ 73 (720 * n' + r) = Vr α n' r
set_option maxRecDepth 20000 in
theorem M_layPlan_ok {d : Nat} {μ : Mem} {α : Al} {Q : AV → Mem → Prop} (hv : vM μ α) (hw : wf α) (h : ∀ μ', fP μ μ' → vV μ' α (α.1 0 4) → Q (xI 0) μ') : GM (d + 4) 167 [xR 61] μ Q := by
  have hT := wf_T hw
  have hN := wf_N hw
  have hPs := wf_Ps hw
  have hfc := fac_le _ hT
  refine ge_M_layPlan ?_
  have key : ∀ n (ν : Mem) v2 v3 v4 v5 v6, α.1 0 4 ≤ n → n ≤ α.1 0 2 + 1 → fP μ ν → vV ν α n → DW (d + 4) 167 3 [xR 61, xI ((n : Int) - 1), v2, v3, v4, v5, v6] ν Q := by
    intro n
    induction n with
    | zero =>
      intro ν v2 v3 v4 v5 v6 h1 h2 hf hV
      refine sg_M_layPlan_3 ?_
      rw [vM_Ps (vM_fr (fM_fP hf) hv), if_pos (by omega)]
      exact h ν hf (fun n' a1 a2 => hV n' (by omega) a2)
    | succ n ih =>
      intro ν v2 v3 v4 v5 v6 h1 h2 hf hV
      rw [show ((n + 1 : Nat) : Int) - 1 = (n : Int) by omega]
      refine sg_M_layPlan_3 ?_
      rw [vM_Ps (vM_fr (fM_fP hf) hv)]
      refine wi (fun c => ?_) (fun c => ?_)
      · exact h ν hf (fun n' a1 a2 => hV n' (by omega) a2)
      have hn1 : α.1 0 4 ≤ n := by omega
      have rows : ∀ j r (ν : Mem) v3 v4 v5 v6, r + j = fac (α.1 0 1) → fP μ ν → vV ν α (n + 1) → (∀ r', r' < r → ν 73 (720 * n + r') = Vr α n r') → DW (d + 4) 167 12 [xR 61, xI (n : Int), xI (r : Int), v3, v4, v5, v6] ν Q := by
        intro j
        induction j with
        | zero =>
          intro r ν v3 v4 v5 v6 hr hf hV hR
          have hv' := vM_fr (fM_fP hf) hv
          refine sg_M_layPlan_12 ?_
          refine M_rowMany_ok hT (vM_T hv') ?_
          refine gI_mk ?_
          rw [if_neg (by omega)]
          refine sg_M_layPlan_126 ?_
          rw [show iw ((n : Int) + (-1)) = (n : Int) - 1 by simp only [iw_def]; omega]
          refine ih ν _ _ _ _ _ hn1 (by omega) hf (fun n' a1 a2 r' hr' => ?_)
          by_cases cn : n' = n
          · rw [cn]; exact hR r' (by omega)
          · exact hV n' (by omega) a2 r' hr'
        | succ j ihj =>
          intro r ν v3 v4 v5 v6 hr hf hV hR
          have hr' : r < fac (α.1 0 1) := by omega
          have hv' := vM_fr (fM_fP hf) hv
          refine sg_M_layPlan_12 ?_
          refine M_rowMany_ok hT (vM_T hv') ?_
          refine gI_mk ?_
          rw [if_pos (by omega)]
          refine M_lay_ok hT (vM_T hv') hr' (fun m3 g1 g2 => ?_)
          refine gV_mk ?_
          have hv3 := vM_fr (fM_71 g1) hv'
          have f3 : fP μ m3 := fun c j a1 a2 => (g1 c j a1).trans (hf c j a1 a2)
          have V3 : vV m3 α (n + 1) := fun n' a1 a2 r' hr' => (g1 73 _ (by decide)).trans (hV n' a1 a2 r' hr')
          have R3 : ∀ r', r' < r → m3 73 (720 * n + r') = Vr α n r' := fun r' hr' => (g1 73 _ (by decide)).trans (hR r' hr')
          have fin : ∀ w v4 v5 v6, w = Vr α n r → DW (d + 4) 167 114 [xR 61, xI (n : Int), xI (r : Int), xI w, v4, v5, v6] m3 Q := by
            intro w v4 v5 v6 ew
            refine sg_M_layPlan_114 ?_
            rw [iw_72 (by omega) (by omega), wb_eq (by omega) (by omega), iw_k1 (by omega), Int.toNat_natCast]
            refine ihj (r + 1) _ _ _ _ _ (by omega) (fun c j a1 a2 => by rw [xs_c a2]; exact f3 c j a1 a2) (fun n' a1 a2 r' hr' => ?_) (fun r' hr' => ?_)
            · rw [xs_j (by omega)]; exact V3 n' a1 a2 r' hr'
            · by_cases cr : r' = r
              · rw [cr, xs_s, ew]
              · rw [xs_j (by omega)]; exact R3 r' (by omega)
          refine M_isLawful_ok hv3 hw (fun p hp => rv_lt hT hr' hp) g2 ?_
          refine gI_mk ?_
          cases e1 : lawB α (rv (α.1 0 1) r) with
          | false =>
            rw [if_pos (by rfl)]
            exact fin _ _ _ _ (by unfold Vr; rw [e1, if_neg (by decide)])
          | true =>
            rw [if_neg (by decide), vM_N hv3]
            have hPI := rv_PI hT hr'
            have eV := Vr_of (α := α) (n := n) (r := r) (f := rv (α.1 0 1) r) (fun _ _ => rfl) e1
            refine wi (fun c2 => ?_) (fun c2 => ?_)
            · have ec : ((100 * sp_cnt (hc α (rv (α.1 0 1) r)) (α.1 0 1) : Nat) : Int) = Vr α n r := by
                rw [eV, show α.1 0 2 - n = 0 by omega, pb, conv_16, pop_cs hT]
              exact M_plan_h hv3 hw hPI g2 (fun v4 v5 v6 => fin _ v4 v5 v6 ec) (α.1 0 1) 0 (by omega)
            · obtain ⟨k, hk⟩ : ∃ k, α.1 0 2 = n + (k + 1) := ⟨α.1 0 2 - n - 1, by omega⟩
              have hcs : csF α (rv (α.1 0 1) r) < 64 := sp_bits64 _ hT
              rw [iw_721 (by omega) (by omega), wb_eq (by omega) (by omega), Int.toNat_natCast, V3 (n + 1) (by omega) (by omega) r hr', Vr_of (α := α) (n := n + 1) (r := r) (f := rv (α.1 0 1) r) (fun _ _ => rfl) e1, show α.1 0 2 - (n + 1) = k by omega]
              refine M_plan_a hv3 hw hk hPI e1 g2 (fun r' hr' => V3 (n + 1) (by omega) (by omega) r' hr') (α.1 0 1) 0 _ _ _ (by omega) (good_up (pb_good hT k _ hcs) (by omega)) (fun v4 v5 v6 => fin _ v4 v5 v6 ?_)
              rw [eV, show α.1 0 2 - n = k + 1 by omega, pb, show α.1 0 2 - (k + 1) = n by omega]
      exact rows (fac (α.1 0 1)) 0 ν _ _ _ _ (by omega) hf hV (fun r' hr' => absurd hr' (Nat.not_lt_zero r'))
  rw [vM_N hv, show ((α.1 0 2 : Nat) : Int) = ((α.1 0 2 + 1 : Nat) : Int) - 1 by omega]
  exact key (α.1 0 2 + 1) μ _ _ _ _ _ (by omega) (Nat.le_refl _) (fun _ _ _ _ => rfl) (fun n' a1 a2 => by omega)
