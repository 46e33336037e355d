/-! the reference's answers about its plan -/
theorem M_layNow_ok {d : Nat} {μ : Mem} {α : Al} {Q : AV → Mem → Prop} (hv : vM μ α) (hw : wf α) (h : ∀ μ', (∀ c j, c ≠ 71 → μ' c j = μ c j) → (∀ p, p < α.1 0 1 → μ' 71 p = ((α.1 9 p : Nat) : Int)) → Q (xI 0) μ') : GM d 174 [xR 61] μ Q := by
  have hT := wf_T hw
  refine ge_M_layNow ?_
  refine lp_up (fun p (ν : Mem) => DW d 174 2 [xR 61, xI (p : Int)] ν Q) (fun p ν => (∀ c j, c ≠ 71 → ν c j = μ c j) ∧ ∀ q, q < p → ν 71 q = ((α.1 9 q : Nat) : Int)) (α.1 0 1) ?_ ?_ (α.1 0 1) 0 μ (by omega) ⟨fun _ _ _ => rfl, fun q hq => absurd hq (Nat.not_lt_zero q)⟩
  · intro p ν hp hI hn
    have hv' := vM_fr (fM_71 hI.1) hv
    refine sg_M_layNow_2 ?_
    rw [vM_T hv', if_pos (by omega), wb_eq (by omega) (by omega), wb_eq (by omega) (by omega), iw_k1 (by omega), Int.toNat_natCast, vM_lie hv' p hp]
    refine hn _ ⟨fun c j hc => by rw [xs_c hc]; exact hI.1 c j hc, fun q hq => ?_⟩
    by_cases c : q = p
    · rw [c]; exact xs_s
    · rw [xs_j c]; exact hI.2 q (by omega)
  · intro ν hI
    have hv' := vM_fr (fM_71 hI.1) hv
    refine sg_M_layNow_2 ?_
    rw [vM_T hv', if_neg (by omega)]
    exact h ν hI.1 hI.2
theorem lawB_now {α : Al} (hw : wf α) : lawB α (α.1 9) = true := lawB_iff.2 (fun p hp => (wf_lie hw p hp).2.symm)
theorem conv_CK {C K : Nat} (hK : K ≤ 6) : conv (16 * (C : Int) - (K : Int)) = 100 * (C : Int) - (K : Int) := by unfold conv; omega
theorem xdiv_100 {a : Nat} (h : a < 2147483648) : xdiv (a : Int) 100 = ((a / 100 : Nat) : Int) := xdiv_nat (b := 100) h
theorem x_plan {C K : Nat} (hC : C ≤ 6) (hK : K ≤ 6) : xdiv (iw (100 * (C : Int) - (K : Int) + 99)) 100 = (C : Int) := by
  have e : iw (100 * (C : Int) - (K : Int) + 99) = ((100 * C + 99 - K : Nat) : Int) := by rw [iw_id (by omega) (by omega)]; omega
  rw [e, xdiv_100 (by omega)]
  omega
set_option maxRecDepth 20000 in
theorem M_plan_ok {d : Nat} {w : Int} {μ : Mem} {α : Al} {Q : AV → Mem → Prop} (hv : vM μ α) (hw : wf α) (h : ∀ μ', vM μ' α → Q (xI (r_plan α w)) μ') : GM (d + 5) 166 [xR 61, xI w] μ Q := by
  have hT := wf_T hw
  have hN := wf_N hw
  have hPs := wf_Ps hw
  have hfc := fac_le _ hT
  refine ge_M_plan ?_
  unfold r_plan at h
  refine wi (fun c0 => ?_) (fun c0 => ?_)
  · rw [if_pos c0] at h; exact h μ hv
  rw [if_neg c0] at h
  refine wi (fun c1 => ?_) (fun c1 => ?_)
  · rw [if_pos c1] at h; exact h μ hv
  rw [if_neg c1] at h
  refine M_layPlan_ok hv hw (fun m1 f1 V1 => ?_)
  refine gV_mk ?_
  have hv1 := vM_fr (fM_fP f1) hv
  refine M_layNow_ok hv1 hw (fun m2 f2 L2 => ?_)
  refine gV_mk ?_
  have hv2 := vM_fr (fM_71 f2) hv1
  obtain ⟨r, hr, er⟩ := row_of hT (PI_wf hw)
  have e2 : ∀ p, p < α.1 0 1 → rv (α.1 0 1) r p = α.1 9 p := fun p hp => rv_of er hp
  refine M_rowOf_ok hT (vM_T hv2) hr (fun p hp => by rw [L2 p hp, e2 p hp]) ?_
  refine gI_mk ?_
  obtain ⟨b1, b2, b3⟩ := pl_pb hw
  have eV : m2 73 (720 * α.1 0 4 + r) = 100 * (plC α : Int) - (plK α : Int) := by
    rw [f2 73 _ (by decide), V1 (α.1 0 4) (Nat.le_refl _) hPs r hr, Vr_of e2 (lawB_now hw), b1, conv_CK b2]
  rw [vM_Ps hv2, iw_72 (by omega) (by omega), wb_eq (by omega) (by omega), Int.toNat_natCast, eV, x_plan b3 b2]
  refine wi (fun c2 => ?_) (fun c2 => ?_)
  · rw [if_pos c2] at h; exact h m2 hv2
  · rw [if_neg c2] at h
    have e : iw (iw (100 * (plC α : Int)) - (100 * (plC α : Int) - (plK α : Int))) = ((plK α : Nat) : Int) := by rw [iw_id (x := 100 * (plC α : Int)) (by omega) (by omega), iw_id (by omega) (by omega)]; omega
    rw [e]
    exact h m2 hv2
/-! the reference's way through the nights -/
def sw2 (o : Option (Nat × Nat)) (f : Nat → Nat) : Nat → Nat := match o with
  | none => f
  | some x => swp x.1 x.2 f
def fm (α : Al) : Nat → Nat → Nat
  | 0 => α.1 9
  | i + 1 => sw2 (pch α i) (fm α i)
theorem pch_ok {α : Al} {i : Nat} {x : Nat × Nat} (h : pch α i = some x) : x.1 < x.2 ∧ x.2 < α.1 0 1 ∧ sp_may α (α.1 0 4 + i) x.1 x.2 = true := by
  unfold pch at h
  have := chp_ok h
  exact ⟨this.1, this.2.1, this.2.2.1⟩
theorem fm_ok {α : Al} (hw : wf α) : ∀ i, PI (α.1 0 1) (fm α i) ∧ lawB α (fm α i) = true ∧ csF α (fm α i) = pth α i
  | 0 => ⟨PI_wf hw, lawB_now hw, rfl⟩
  | i + 1 => by
    have hT := wf_T hw
    obtain ⟨h1, h2, h3⟩ := fm_ok hw i
    have ep : pth α (i + 1) = nxt (pth α i) (pch α i) := rfl
    rw [fm, ep]
    cases e : pch α i with
    | none => exact ⟨h1, h2, h3⟩
    | some x =>
      obtain ⟨g1, g2, g3⟩ := pch_ok e
      refine ⟨swp_PI h1 (by omega) g2, swp_law h2 (by omega) g2 g3, ?_⟩
      show csF α (swp x.1 x.2 (fm α i)) = exc (pth α i) x.1 x.2
      rw [cs_swp hT (by omega) g2, h3]
set_option maxRecDepth 20000 in
theorem M_pld_b {d n k a : Nat} {f : Nat → Nat} {l1 l2 : Int} {μ : Mem} {α : Al} {Q : AV → Mem → Prop} (hv : vM μ α) (hw : wf α) (hk : α.1 0 2 = n + (k + 1)) (hf : PI (α.1 0 1) f) (hlaw : lawB α f = true) (hl : ∀ p, p < α.1 0 1 → μ 71 p = ((f p : Nat) : Int)) (hV : ∀ r, r < fac (α.1 0 1) → μ 73 (720 * (n + 1) + r) = Vr α (n + 1) r) : ∀ m b o, b + m = α.1 0 1 → a < b → (∀ x : Int, DW (d + 5) 175 109 [xR 61, xI l1, xI l2, xI (oA (gb (α.1 0 1) (fst1 (tst α n k (csF α f))) a m o)), xI (oB (gb (α.1 0 1) (fst1 (tst α n k (csF α f))) a m o)), xI (n : Int), xI (conv (pb α (k + 1) (csF α f))), xI ((o01 (gb (α.1 0 1) (fst1 (tst α n k (csF α f))) a m o) : Nat) : Int), xI (a : Int), xI x] μ Q) → DW (d + 5) 175 81 [xR 61, xI l1, xI l2, xI (oA o), xI (oB o), xI (n : Int), xI (conv (pb α (k + 1) (csF α f))), xI ((o01 o : Nat) : Int), xI (a : Int), xI (b : Int)] μ Q := by
  have hT := wf_T hw
  have hN := wf_N hw
  have hcs : csF α f < 64 := sp_bits64 _ hT
  intro m
  induction m with
  | zero =>
    intro b o hb ha h
    refine sg_M_planned_81 ?_
    rw [vM_T hv, if_neg (by omega)]
    exact h _
  | succ m ih =>
    intro b o hb ha h
    have hbT : b < α.1 0 1 := by omega
    have eb : α.1 0 1 - (m + 1) = b := by omega
    refine sg_M_planned_81 ?_
    rw [vM_T hv, if_pos (by omega), iw_k1 (by omega)]
    cases o with
    | some x =>
      rw [gb_some] at h
      rw [if_neg (show ¬ ((o01 (some x) : Nat) : Int) = 0 by show ¬ ((1 : Nat) : Int) = 0; decide)]
      exact h _
    | none =>
      rw [gb, eb] at h
      rw [if_pos (show ((o01 none : Nat) : Int) = 0 by rfl)]
      refine M_mayBe_ok hv hw (by omega) (by omega) hbT ?_
      refine gI_mk ?_
      by_cases hm : sp_may α n a b = true
      · have e0 : (if a ≠ b ∧ sp_may α n a b = true then (1 : Int) else 0) = 1 := if_pos ⟨by omega, hm⟩
        rw [e0, if_neg (by decide)]
        refine M_by2_ok hv hw hk hf hlaw hl hV ha hbT hm ?_
        refine gI_mk ?_
        have hpg := pb_good hT k _ (exc_chk _ hcs a (by omega) b (by omega)).1
        have hc1 := conv_m1 (by omega) hpg
        have hg6 : good 6 (pb α (k + 1) (csF α f)) := good_up (pb_good hT (k + 1) _ hcs) (by omega)
        refine wi (fun c => ?_) (fun c => ?_)
        · have c' := (conv_eq hc1.2 hg6).1 c
          have et : fst1 (tst α n k (csF α f)) a b none = some (a, b) := by
            show (if tst α n k (csF α f) a b then some (a, b) else none) = some (a, b)
            rw [if_pos (by unfold tst; rw [hm, decide_eq_true c']; rfl)]
          rw [et] at h
          exact ih (b + 1) (some (a, b)) (by omega) (by omega) h
        · have c' : ¬ pb α k (exc (csF α f) a b) - 1 = pb α (k + 1) (csF α f) := fun c2 => c ((conv_eq hc1.2 hg6).2 c2)
          have et : fst1 (tst α n k (csF α f)) a b none = none := by
            show (if tst α n k (csF α f) a b then some (a, b) else none) = none
            rw [if_neg (by unfold tst; rw [decide_eq_false c', Bool.and_false]; decide)]
          rw [et] at h
          exact ih (b + 1) none (by omega) (by omega) h
      · have e0 : (if a ≠ b ∧ sp_may α n a b = true then (1 : Int) else 0) = 0 := if_neg (fun w => hm w.2)
        have et : fst1 (tst α n k (csF α f)) a b none = none := by
          show (if tst α n k (csF α f) a b then some (a, b) else none) = none
          rw [if_neg (by unfold tst; rw [Bool.and_eq_true]; exact fun w => hm w.1)]
        rw [et] at h
        rw [e0, if_pos rfl]
        exact ih (b + 1) none (by omega) (by omega) h
theorem M_pld_a {d n k : Nat} {f : Nat → Nat} {l1 l2 : Int} {μ : Mem} {α : Al} {Q : AV → Mem → Prop} (hv : vM μ α) (hw : wf α) (hk : α.1 0 2 = n + (k + 1)) (hf : PI (α.1 0 1) f) (hlaw : lawB α f = true) (hl : ∀ p, p < α.1 0 1 → μ 71 p = ((f p : Nat) : Int)) (hV : ∀ r, r < fac (α.1 0 1) → μ 73 (720 * (n + 1) + r) = Vr α (n + 1) r) : ∀ m a o v9, a + m = α.1 0 1 → (∀ x7 x8 v9, DW (d + 5) 175 112 [xR 61, xI l1, xI l2, xI (oA (ga (α.1 0 1) (fst1 (tst α n k (csF α f))) m o)), xI (oB (ga (α.1 0 1) (fst1 (tst α n k (csF α f))) m o)), xI (n : Int), xI (conv (pb α (k + 1) (csF α f))), xI x7, xI x8, v9] μ Q) → DW (d + 5) 175 70 [xR 61, xI l1, xI l2, xI (oA o), xI (oB o), xI (n : Int), xI (conv (pb α (k + 1) (csF α f))), xI ((o01 o : Nat) : Int), xI (a : Int), v9] μ Q := by
  intro m
  have hT := wf_T hw
  induction m with
  | zero =>
    intro a o v9 ha h
    refine sg_M_planned_70 ?_
    rw [vM_T hv, if_neg (by omega)]
    exact h _ _ _
  | succ m ih =>
    intro a o v9 ha h
    have ea : α.1 0 1 - (m + 1) = a := by omega
    refine sg_M_planned_70 ?_
    rw [vM_T hv, if_pos (by omega), iw_k1 (by omega)]
    cases o with
    | some x =>
      rw [ga_some] at h
      rw [if_neg (show ¬ ((o01 (some x) : Nat) : Int) = 0 by show ¬ ((1 : Nat) : Int) = 0; decide)]
      exact h _ _ _
    | none =>
      rw [ga, ea] at h
      rw [if_pos (show ((o01 none : Nat) : Int) = 0 by rfl)]
      refine M_pld_b hv hw hk hf hlaw hl hV m (a + 1) none (by omega) (by omega) (fun x => ?_)
      refine sg_M_planned_109 ?_
      rw [iw_k1 (by omega)]
      exact ih (a + 1) _ _ (by omega) h
set_option maxRecDepth 20000 in
theorem M_planned_ok {d : Nat} {m s : Int} {μ : Mem} {α : Al} {Q : AV → Mem → Prop} (hv : vM μ α) (hw : wf α) (h : ∀ μ', vM μ' α → Q (xI (r_planned α m s)) μ') : GM (d + 5) 175 [xR 61, xI m, xI s] μ Q := by
  have hT := wf_T hw
  have hN := wf_N hw
  have hPs := wf_Ps hw
  have hfc := fac_le _ hT
  refine ge_M_planned ?_
  unfold r_planned at h
  rw [vM_Ps hv, vM_N hv]
  refine wi (fun c0 => ?_) (fun c0 => ?_)
  · rw [if_pos c0] at h; exact h μ hv
  rw [if_neg c0] at h
  have eN : iw (((α.1 0 2 : Nat) : Int) - 1) = ((α.1 0 2 : Nat) : Int) - 1 := iw_m1 (by omega)
  rw [eN]
  refine wi (fun c1 => ?_) (fun c1 => ?_)
  · rw [if_neg (by omega)] at h; exact h μ hv
  rw [if_pos (show m < ((α.1 0 2 : Nat) : Int) by omega)] at h
  refine wi (fun c2 => ?_) (fun c2 => ?_)
  · rw [if_pos c2] at h; exact h μ hv
  rw [if_neg c2] at h
  refine wi (fun c3 => ?_) (fun c3 => ?_)
  · rw [if_pos c3] at h; exact h μ hv
  rw [if_neg c3] at h
  obtain ⟨m, rfl⟩ := Int.eq_ofNat_of_zero_le (show 0 ≤ m by omega)
  rw [Int.toNat_natCast] at h
  refine M_layPlan_ok hv hw (fun m1 f1 V1 => ?_)
  refine gV_mk ?_
  have hv1 := vM_fr (fM_fP f1) hv
  refine M_layNow_ok hv1 hw (fun m2 f2 L2 => ?_)
  refine gV_mk ?_
  have key : ∀ j i (ν : Mem) l3 l4 v6 v7 v8 v9, α.1 0 4 + i + j = m + 1 → (∀ c j, c ≠ 71 → ν c j = m1 c j) → (∀ p, p < α.1 0 1 → ν 71 p = ((fm α i p : Nat) : Int)) → (0 < i → l3 = oA (pch α (i - 1)) ∧ l4 = oB (pch α (i - 1))) → DW (d + 5) 175 33 [xR 61, xI (m : Int), xI s, xI l3, xI l4, xI ((α.1 0 4 + i : Nat) : Int), v6, v7, v8, v9] ν Q := by
    intro j
    induction j with
    | zero =>
      intro i ν l3 l4 v6 v7 v8 v9 hi hf hL hl
      have hvν := vM_fr (fM_71 hf) hv1
      refine sg_M_planned_33 ?_
      rw [if_pos (by omega)]
      refine sg_M_planned_122 ?_
      obtain ⟨g1, g2⟩ := hl (by omega)
      rw [g1, g2, show i - 1 = m - α.1 0 4 by omega]
      refine wi (fun c => ?_) (fun c => ?_)
      · rw [if_pos c] at h; exact h ν hvν
      · rw [if_neg c] at h; exact h ν hvν
    | succ j ih =>
      intro i ν l3 l4 v6 v7 v8 v9 hi hf hL hl
      have hvν := vM_fr (fM_71 hf) hv1
      obtain ⟨q1, q2, q3⟩ := fm_ok hw i
      obtain ⟨k, hk⟩ : ∃ k, α.1 0 2 = α.1 0 4 + i + (k + 1) := ⟨α.1 0 2 - (α.1 0 4 + i) - 1, by omega⟩
      obtain ⟨r, hr, er⟩ := row_of hT q1
      have e2 : ∀ p, p < α.1 0 1 → rv (α.1 0 1) r p = fm α i p := fun p hp => rv_of er hp
      have Vν : ∀ n', α.1 0 4 ≤ n' → n' ≤ α.1 0 2 → ∀ r, r < fac (α.1 0 1) → ν 73 (720 * n' + r) = Vr α n' r := fun n' a1 a2 r hr => (hf 73 _ (by decide)).trans (V1 n' a1 a2 r hr)
      have eA : ν 73 (720 * (α.1 0 4 + i) + r) = conv (pb α (k + 1) (csF α (fm α i))) := by
        rw [Vν _ (by omega) (by omega) r hr, Vr_of e2 q2, show α.1 0 2 - (α.1 0 4 + i) = k + 1 by omega]
      have eB : ν 73 (720 * (α.1 0 4 + i + 1) + r) = conv (pb α k (csF α (fm α i))) := by
        rw [Vν _ (by omega) (by omega) r hr, Vr_of e2 q2, show α.1 0 2 - (α.1 0 4 + i + 1) = k by omega]
      have epch : pch α i = chp α (α.1 0 4 + i) k (csF α (fm α i)) := by
        unfold pch
        rw [q3, show α.1 0 2 - (α.1 0 4 + i) - 1 = k by omega]
      have hcs : csF α (fm α i) < 64 := sp_bits64 _ hT
      have hg0 : good 6 (pb α k (csF α (fm α i))) := good_up (pb_good hT k _ hcs) (by omega)
      have hg1 : good 6 (pb α (k + 1) (csF α (fm α i))) := good_up (pb_good hT (k + 1) _ hcs) (by omega)
      have fin : ∀ o x6 v7 v8 v9, o = pch α i → DW (d + 5) 175 112 [xR 61, xI (m : Int), xI s, xI (oA o), xI (oB o), xI ((α.1 0 4 + i : Nat) : Int), xI x6, v7, v8, v9] ν Q := by
        intro o x6 v7 v8 v9 eo
        refine sg_M_planned_112 ?_
        rw [iw_k1 (by omega)]
        have efm : fm α (i + 1) = sw2 o (fm α i) := by rw [fm, eo]
        cases o with
        | none =>
          rw [if_pos (by rfl)]
          refine ih (i + 1) ν _ _ _ _ _ _ (by omega) hf (fun p hp => ?_) (fun _ => ?_)
          · rw [efm]; exact hL p hp
          · rw [Nat.add_sub_cancel, ← eo]; exact ⟨rfl, rfl⟩
        | some x =>
          obtain ⟨g1, g2, g3⟩ := pch_ok eo.symm
          have eoA : oA (some x) = ((x.1 : Nat) : Int) := rfl
          have eoB : oB (some x) = ((x.2 : Nat) : Int) := rfl
          rw [eoA, eoB, if_neg (by omega), wb_eq (by omega) (by omega), wb_eq (by omega) (by omega), wb_eq (by omega) (by omega), wb_eq (by omega) (by omega), Int.toNat_natCast, Int.toNat_natCast]
          refine ih (i + 1) _ _ _ _ _ _ _ (by omega) (fun c j hc => by rw [xs_c hc, xs_c hc]; exact hf c j hc) (fun p hp => ?_) (fun _ => ?_)
          · rw [efm]; exact x_exch (by omega) g2 hL p hp
          · rw [Nat.add_sub_cancel, ← eo]; exact ⟨rfl, rfl⟩
      refine sg_M_planned_33 ?_
      rw [if_neg (by omega)]
      refine M_rowOf_ok hT (vM_T hvν) hr (fun p hp => by rw [hL p hp, e2 p hp]) ?_
      refine gI_mk ?_
      rw [iw_72 (by omega) (by omega), wb_eq (by omega) (by omega), Int.toNat_natCast, eA]
      refine M_rowOf_ok hT (vM_T hvν) hr (fun p hp => by rw [hL p hp, e2 p hp]) ?_
      refine gI_mk ?_
      rw [iw_721 (by omega) (by omega), wb_eq (by omega) (by omega), Int.toNat_natCast, eB]
      refine wi (fun c => ?_) (fun c => ?_)
      · have c' := (conv_eq hg0 hg1).1 c
        have en : none = pch α i := by rw [epch]; unfold chp; rw [if_pos c']
        refine sg_M_planned_70 ?_
        rw [if_neg (show ¬ (1 : Int) = 0 by decide), ite_self]
        exact fin none _ _ _ _ en
      · have c' : ¬ pb α k (csF α (fm α i)) = pb α (k + 1) (csF α (fm α i)) := fun c2 => c ((conv_eq hg0 hg1).2 c2)
        refine M_pld_a hvν hw hk q1 q2 hL (fun r hr => Vν _ (by omega) (by omega) r hr) (α.1 0 1) 0 none _ (by omega) (fun x7 x8 v9 => fin _ _ _ _ _ ?_)
        rw [epch]; unfold chp; rw [if_neg c']
  have e0 := key (m + 1 - α.1 0 4) 0 m2 (-1) (-1) (xL 0) (xL 0) (xL 0) (xL 0) (by omega) f2 L2 (fun w => absurd w (Nat.lt_irrefl 0))
  rw [vM_Ps (vM_fr (fM_71 f2) hv1)]
  exact e0
