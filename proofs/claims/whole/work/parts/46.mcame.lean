/-! the reference: by how few changes arrangements came -/
theorem iw_720 {r : Nat} (hr : r < 100000) : iw (720 + (r : Int)) = ((720 + r : Nat) : Int) := by simp only [iw_def]; omega
theorem M_lc_init {d : Nat} {v2 v3 v4 v5 v6 : AV} {μ : Mem} {T : Nat} {Q : AV → Mem → Prop} (hT : T ≤ 6) (ht : μ 61 2 = (T : Int)) (h : ∀ μ' x, (∀ c j, c ≠ 73 → μ' c j = μ c j) → (∀ r, r < fac T → μ' 73 r = (((if r = 0 then 0 else 99) : Nat) : Int)) → DW (d + 4) 191 18 [xR 61, xI x, v2, v3, v4, v5, v6] μ' Q) : DW (d + 4) 191 2 [xR 61, xI 0, v2, v3, v4, v5, v6] μ Q := by
  have hF := fac_le T hT
  refine lp_up (fun i (ν : Mem) => DW (d + 4) 191 2 [xR 61, xI (i : Int), v2, v3, v4, v5, v6] ν Q) (fun i ν => (∀ c j, c ≠ 73 → ν c j = μ c j) ∧ ∀ r, r < i → ν 73 r = (((if r = 0 then 0 else 99) : Nat) : Int)) (fac T) ?_ ?_ (fac T) 0 μ (by omega) ⟨fun _ _ _ => rfl, fun r hr => absurd hr (Nat.not_lt_zero r)⟩
  · intro i ν hi hI hn
    refine sg_M_layCame_2 ?_
    refine M_rowMany_ok hT ((hI.1 61 2 (by decide)).trans ht) ?_
    refine gI_mk ?_
    rw [if_pos (by omega), iw_k1 (by omega)]
    refine wi (fun c => ?_) (fun c => ?_)
    · rw [wb_eq (by omega) (by omega), Int.toNat_natCast]
      refine hn _ ⟨fun c j hc => by rw [xs_c hc]; exact hI.1 c j hc, fun r hr => ?_⟩
      by_cases e : r = i
      · rw [e, xs_s, if_pos (by omega)]; rfl
      · rw [xs_j e]; exact hI.2 r (by omega)
    · rw [wb_eq (by omega) (by omega), Int.toNat_natCast]
      refine hn _ ⟨fun c j hc => by rw [xs_c hc]; exact hI.1 c j hc, fun r hr => ?_⟩
      by_cases e : r = i
      · rw [e, xs_s, if_neg (by omega)]; rfl
      · rw [xs_j e]; exact hI.2 r (by omega)
  · intro ν hI
    refine sg_M_layCame_2 ?_
    refine M_rowMany_ok hT ((hI.1 61 2 (by decide)).trans ht) ?_
    refine gI_mk ?_
    rw [if_neg (by omega)]
    exact h ν _ hI.1 hI.2
theorem M_lc_cp {d : Nat} {l1 : Int} {v3 v4 v5 v6 : AV} {μ : Mem} {T : Nat} {Q : AV → Mem → Prop} (hT : T ≤ 6) (ht : μ 61 2 = (T : Int)) (h : ∀ μ' x, (∀ c j, c ≠ 73 → μ' c j = μ c j) → (∀ r, r < fac T → μ' 73 r = μ 73 r ∧ μ' 73 (720 + r) = μ 73 r) → DW (d + 4) 191 47 [xR 61, xI l1, xI x, v3, v4, v5, v6] μ' Q) : DW (d + 4) 191 30 [xR 61, xI l1, xI 0, v3, v4, v5, v6] μ Q := by
  have hF := fac_le T hT
  refine lp_up (fun i (ν : Mem) => DW (d + 4) 191 30 [xR 61, xI l1, xI (i : Int), v3, v4, v5, v6] ν Q) (fun i ν => (∀ c j, c ≠ 73 → ν c j = μ c j) ∧ (∀ r, r < 720 → ν 73 r = μ 73 r) ∧ ∀ r, r < i → ν 73 (720 + r) = μ 73 r) (fac T) ?_ ?_ (fac T) 0 μ (by omega) ⟨fun _ _ _ => rfl, fun _ _ => rfl, fun r hr => absurd hr (Nat.not_lt_zero r)⟩
  · intro i ν hi hI hn
    refine sg_M_layCame_30 ?_
    refine M_rowMany_ok hT ((hI.1 61 2 (by decide)).trans ht) ?_
    refine gI_mk ?_
    rw [if_pos (by omega), iw_k1 (by omega), iw_720 (by omega), wb_eq (by omega) (by omega), wb_eq (by omega) (by omega), Int.toNat_natCast, Int.toNat_natCast]
    refine hn _ ⟨fun c j hc => by rw [xs_c hc]; exact hI.1 c j hc, fun r hr => by rw [xs_j (by omega)]; exact hI.2.1 r hr, fun r hr => ?_⟩
    by_cases e : r = i
    · rw [e, xs_s]; exact hI.2.1 i (by omega)
    · rw [xs_j (by omega)]; exact hI.2.2 r (by omega)
  · intro ν hI
    refine sg_M_layCame_30 ?_
    refine M_rowMany_ok hT ((hI.1 61 2 (by decide)).trans ht) ?_
    refine gI_mk ?_
    rw [if_neg (by omega)]
    exact h ν _ hI.1 (fun r hr => ⟨hI.2.1 r (by omega), hI.2.2 r hr⟩)
theorem M_lc_bk {d : Nat} {l1 : Int} {v3 v4 v5 v6 : AV} {μ : Mem} {T : Nat} {Q : AV → Mem → Prop} (hT : T ≤ 6) (ht : μ 61 2 = (T : Int)) (h : ∀ μ' x, (∀ c j, c ≠ 73 → μ' c j = μ c j) → (∀ r, r < fac T → μ' 73 r = μ 73 (720 + r)) → DW (d + 4) 191 153 [xR 61, xI l1, xI x, v3, v4, v5, v6] μ' Q) : DW (d + 4) 191 136 [xR 61, xI l1, xI 0, v3, v4, v5, v6] μ Q := by
  have hF := fac_le T hT
  refine lp_up (fun i (ν : Mem) => DW (d + 4) 191 136 [xR 61, xI l1, xI (i : Int), v3, v4, v5, v6] ν Q) (fun i ν => (∀ c j, c ≠ 73 → ν c j = μ c j) ∧ (∀ r, 720 ≤ r → ν 73 r = μ 73 r) ∧ ∀ r, r < i → ν 73 r = μ 73 (720 + r)) (fac T) ?_ ?_ (fac T) 0 μ (by omega) ⟨fun _ _ _ => rfl, fun _ _ => rfl, fun r hr => absurd hr (Nat.not_lt_zero r)⟩
  · intro i ν hi hI hn
    refine sg_M_layCame_136 ?_
    refine M_rowMany_ok hT ((hI.1 61 2 (by decide)).trans ht) ?_
    refine gI_mk ?_
    rw [if_pos (by omega), iw_k1 (by omega), iw_720 (by omega), wb_eq (by omega) (by omega), wb_eq (by omega) (by omega), Int.toNat_natCast, Int.toNat_natCast]
    refine hn _ ⟨fun c j hc => by rw [xs_c hc]; exact hI.1 c j hc, fun r hr => by rw [xs_j (by omega)]; exact hI.2.1 r hr, fun r hr => ?_⟩
    by_cases e : r = i
    · rw [e, xs_s]; exact hI.2.1 (720 + i) (by omega)
    · rw [xs_j e]; exact hI.2.2 r (by omega)
  · intro ν hI
    refine sg_M_layCame_136 ?_
    refine M_rowMany_ok hT ((hI.1 61 2 (by decide)).trans ht) ?_
    refine gI_mk ?_
    rw [if_neg (by omega)]
    exact h ν _ hI.1 hI.2.2
theorem pr_lt {T a b : Nat} (ha : a < T) (hb : b < T) : a * T + b < T * T := by
  have := Nat.mul_le_mul_right T (show a + 1 ≤ T by omega)
  rw [Nat.add_mul, Nat.one_mul] at this
  omega
theorem pr_dm {T a b q : Nat} (hb : b < T) (e : a * T + b = q) : q / T = a ∧ q % T = b := by
  rw [← e, Nat.mul_comm]
  exact ⟨by rw [Nat.mul_add_div (by omega), Nat.div_eq_of_lt hb, Nat.add_zero], by rw [Nat.mul_add_mod, Nat.mod_eq_of_lt hb]⟩
def vC (μ : Mem) (α : Al) (v w : Nat → Nat) : Prop := ∀ r, r < fac (α.1 0 1) → μ 73 r = ((v r : Nat) : Int) ∧ μ 73 (720 + r) = ((w r : Nat) : Int)
set_option maxRecDepth 20000 in
theorem M_lc_pair {d n row : Nat} {v w0 : Nat → Nat} {μ : Mem} {α : Al} {Q : AV → Mem → Prop} (hv : vM μ α) (hw : wf α) (hn : n < α.1 0 2) (hrow : row < fac (α.1 0 1)) (hvb : ∀ r, v r ≤ 99) (hC0 : vC μ α v w0) (hP0 : PS α n v w0 0) (h : ∀ μ' w x v4 v5 v6, fP μ μ' → vC μ' α v w → PS α n v w 0 → (∀ r, w r ≤ w0 r) → (v row < 99 → HT α n v w row) → DW (d + 4) 191 130 [xR 61, xI (n : Int), xI (row : Int), xI x, v4, v5, v6] μ' Q) : ∀ v4 v5 v6, DW (d + 4) 191 57 [xR 61, xI (n : Int), xI (row : Int), xI 0, v4, v5, v6] μ Q := by
  have hT := wf_T hw
  have hF := fac_le _ hT
  have hTT : α.1 0 1 * α.1 0 1 ≤ 36 := Nat.mul_le_mul hT hT
  have eTT : iw (((α.1 0 1 : Nat) : Int) * ((α.1 0 1 : Nat) : Int)) = ((α.1 0 1 * α.1 0 1 : Nat) : Int) := by rw [← Int.natCast_mul, iw_nn (by omega)]
  have kyz : ∀ m q (ν : Mem) (w : Nat → Nat) v4 v5 v6, q + m = α.1 0 1 * α.1 0 1 → fP μ ν → vC ν α v w → PS α n v w 0 → (∀ r, w r ≤ w0 r) → (∀ a b, a < b → b < α.1 0 1 → sp_may α n a b = true → a * α.1 0 1 + b < q → w (swr (α.1 0 1) row a b) ≤ v row + 1) → DW (d + 4) 191 57 [xR 61, xI (n : Int), xI (row : Int), xI (q : Int), v4, v5, v6] ν Q := by
    intro m
    induction m with
    | zero =>
      intro q ν w v4 v5 v6 hq hf hC hP hle hI
      refine sg_M_layCame_57 ?_
      rw [hf 61 2 (by decide) (by decide), vM_T hv, eTT, if_neg (by omega)]
      exact h ν w _ _ _ _ hf hC hP hle (fun _ a b h1 h2 h3 => hI a b h1 h2 h3 (by have := pr_lt (show a < α.1 0 1 by omega) h2; omega))
    | succ m ih =>
      intro q ν w v4 v5 v6 hq hf hC hP hle hI
      have hT0 : 0 < α.1 0 1 := by
        rcases Nat.eq_zero_or_pos (α.1 0 1) with e | e
        · rw [e] at hq; omega
        · exact e
      have hqT : q / α.1 0 1 < α.1 0 1 := Nat.div_lt_of_lt_mul (by omega)
      have hqm : q % α.1 0 1 < α.1 0 1 := Nat.mod_lt _ hT0
      have hvν := vM_fr (fM_fP hf) hv
      have hF2 := hF.2
      have hvr := hvb row
      refine sg_M_layCame_57 ?_
      rw [hf 61 2 (by decide) (by decide), vM_T hv, eTT, if_pos (by omega), wb_eq (by omega) (by omega), Int.toNat_natCast, (hC row hrow).1, xdiv_nat (by omega), xrem_nat, wz_eq (by omega), wz_eq (by omega), iw_k1 (by omega)]
      refine wi (fun c1 => ?_) (fun c1 => ?_)
      · have c1' : v row < 99 := by omega
        have skip : (∀ a b, a < b → b < α.1 0 1 → sp_may α n a b = true → a * α.1 0 1 + b = q → False) → ∀ v4 v5 v6, DW (d + 4) 191 57 [xR 61, xI (n : Int), xI (row : Int), xI ((q + 1 : Nat) : Int), v4, v5, v6] ν Q := fun hno v4 v5 v6 => by
          refine ih (q + 1) ν w _ _ _ (by omega) hf hC hP hle (fun a b h1 h2 h3 h4 => ?_)
          by_cases e : a * α.1 0 1 + b = q
          · exact (hno a b h1 h2 h3 e).elim
          · exact hI a b h1 h2 h3 (by omega)
        refine wi (fun c2 => ?_) (fun c2 => ?_)
        · have c2' : q / α.1 0 1 < q % α.1 0 1 := by omega
          refine M_mayBe_ok hvν hw hn hqT hqm ?_
          refine gI_mk ?_
          by_cases c3 : sp_may α n (q / α.1 0 1) (q % α.1 0 1) = true
          · have c4 : q / α.1 0 1 ≠ q % α.1 0 1 ∧ sp_may α n (q / α.1 0 1) (q % α.1 0 1) = true := ⟨by omega, c3⟩
            rw [if_pos c4, if_neg (by decide)]
            refine M_lay_ok hT (vM_T hvν) hrow (fun m3 f3 hl3 => ?_)
            refine gV_mk ?_
            have b1 := Int.ofNat_lt.2 (Nat.lt_of_lt_of_le hqT hT)
            have b2 := Int.ofNat_lt.2 (Nat.lt_of_lt_of_le hqm hT)
            rw [wb_eq (Int.natCast_nonneg _) b1, wb_eq (Int.natCast_nonneg _) b2, wb_eq (Int.natCast_nonneg _) b1, wb_eq (Int.natCast_nonneg _) b2]
            simp only [Int.toNat_natCast]
            have hsw := swr_ok hT hrow hqT hqm
            have hx := x_exch (μ := m3) hqT hqm hl3
            generalize hm4 : xset (xset m3 71 (q / α.1 0 1) (m3 71 (q % α.1 0 1))) 71 (q % α.1 0 1) (m3 71 (q / α.1 0 1)) = m4 at hx ⊢
            have f4 : ∀ c j, c ≠ 71 → m4 c j = ν c j := fun c j hc => by rw [← hm4, xs_c hc, xs_c hc]; exact f3 c j hc
            refine M_rowOf_ok hT ((f4 61 2 (by decide)).trans (vM_T hvν)) hsw.1 (fun p hp => ?_) ?_
            · rw [hx p hp, hsw.2 p hp]
            · refine gI_mk ?_
              have hs1 := hsw.1
              have e1 : m4 73 row = ((v row : Nat) : Int) := (f4 73 row (by decide)).trans (hC row hrow).1
              have e2 : m4 73 (720 + swr (α.1 0 1) row (q / α.1 0 1) (q % α.1 0 1)) = ((w (swr (α.1 0 1) row (q / α.1 0 1) (q % α.1 0 1)) : Nat) : Int) := (f4 73 _ (by decide)).trans (hC _ hs1).2
              have fin : ∀ (κ : Mem) x, (∀ c j, c ≠ 73 → κ c j = m4 c j) → (∀ j, j ≠ 720 + swr (α.1 0 1) row (q / α.1 0 1) (q % α.1 0 1) → κ 73 j = m4 73 j) → κ 73 (720 + swr (α.1 0 1) row (q / α.1 0 1) (q % α.1 0 1)) = ((min (w (swr (α.1 0 1) row (q / α.1 0 1) (q % α.1 0 1))) (v row + 1) : Nat) : Int) → DW (d + 4) 191 57 [xR 61, xI (n : Int), xI (row : Int), xI ((q + 1 : Nat) : Int), xI ((q / α.1 0 1 : Nat) : Int), xI ((q % α.1 0 1 : Nat) : Int), x] κ Q := by
                intro κ x k1 k2 k3
                refine ih (q + 1) κ (xup w (swr (α.1 0 1) row (q / α.1 0 1) (q % α.1 0 1)) (v row + 1)) _ _ _ (by omega) (fun c j h1 h2 => ?_) (fun r hr => ⟨?_, ?_⟩) (PS_xup hP hrow c1' (Nat.zero_le _) c2' hqm c3) (fun r => Nat.le_trans (xup_le _ _ _ _) (hle r)) (fun a b h1 h2 h3 h4 => ?_)
                · rw [k1 c j h2, f4 c j h1]; exact hf c j h1 h2
                · rw [k2 r (by omega), f4 73 r (by decide)]; exact (hC r hr).1
                · unfold xup
                  by_cases e : r = swr (α.1 0 1) row (q / α.1 0 1) (q % α.1 0 1)
                  · rw [if_pos e, e]; exact k3
                  · rw [if_neg e, k2 _ (by omega), f4 73 _ (by decide)]; exact (hC r hr).2
                · by_cases e : a * α.1 0 1 + b = q
                  · obtain ⟨g1, g2⟩ := pr_dm h2 e
                    rw [← g1, ← g2]; exact xup_at _ _ _
                  · exact Nat.le_trans (xup_le _ _ _ _) (hI a b h1 h2 h3 (by omega))
              rw [iw_720 (by omega), wb_eq (by omega) (by omega), wb_eq (by omega) (by omega), Int.toNat_natCast, e1, e2, iw_k1 (by omega)]
              refine wi (fun c5 => ?_) (fun c5 => ?_)
              · rw [wb_eq (by omega) (by omega), wb_eq (by omega) (by omega)]
                refine fin _ _ (fun c j hc => xs_c hc) (fun j hj => xs_j hj) ?_
                rw [xs_s, Nat.min_eq_right (by omega)]
              · rw [wb_eq (by omega) (by omega), wb_eq (by omega) (by omega)]
                refine fin _ _ (fun c j hc => xs_c hc) (fun j hj => xs_j hj) ?_
                rw [xs_s, Nat.min_eq_left (by omega)]
          · have c4 : ¬ (q / α.1 0 1 ≠ q % α.1 0 1 ∧ sp_may α n (q / α.1 0 1) (q % α.1 0 1) = true) := fun e => c3 e.2
            rw [if_neg c4, if_pos rfl]
            refine skip (fun a b h1 h2 h3 e => ?_) _ _ _
            obtain ⟨g1, g2⟩ := pr_dm h2 e
            rw [g1, g2] at c3
            exact c3 h3
        · refine skip (fun a b h1 h2 h3 e => ?_) _ _ _
          obtain ⟨g1, g2⟩ := pr_dm h2 e
          rw [g1, g2] at c2
          omega
      · exact h ν w _ _ _ _ hf hC hP hle (fun e => by omega)
  intro v4 v5 v6
  exact kyz (α.1 0 1 * α.1 0 1) 0 μ w0 _ _ _ (by omega) (fun _ _ _ _ => rfl) hC0 hP0 (fun _ => Nat.le_refl _) (fun a b _ _ _ h4 => absurd h4 (Nat.not_lt_zero _))
set_option maxRecDepth 20000 in
theorem M_lc_rows {d n : Nat} {v : Nat → Nat} {μ : Mem} {α : Al} {Q : AV → Mem → Prop} (hv : vM μ α) (hw : wf α) (hn : n < α.1 0 2) (hvb : ∀ r, v r ≤ 99) (hC0 : vC μ α v v) (h : ∀ μ' w x v3 v4 v5 v6, fP μ μ' → vC μ' α v w → xStp α n v w → DW (d + 4) 191 133 [xR 61, xI (n : Int), xI x, v3, v4, v5, v6] μ' Q) : ∀ v3 v4 v5 v6, DW (d + 4) 191 50 [xR 61, xI (n : Int), xI 0, v3, v4, v5, v6] μ Q := by
  have hT := wf_T hw
  have hF := fac_le _ hT
  have kyz : ∀ m row (ν : Mem) (w : Nat → Nat) v3 v4 v5 v6, row + m = fac (α.1 0 1) → fP μ ν → vC ν α v w → PS α n v w 0 → (∀ r, r < row → v r < 99 → HT α n v w r) → DW (d + 4) 191 50 [xR 61, xI (n : Int), xI (row : Int), v3, v4, v5, v6] ν Q := by
    intro m
    induction m with
    | zero =>
      intro row ν w v3 v4 v5 v6 hr hf hC hP hI
      refine sg_M_layCame_50 ?_
      refine M_rowMany_ok hT ((hf 61 2 (by decide) (by decide)).trans (vM_T hv)) ?_
      refine gI_mk ?_
      rw [if_neg (by omega)]
      exact h ν w _ _ _ _ _ hf hC ⟨hP, fun r hr' => hI r (by omega)⟩
    | succ m ih =>
      intro row ν w v3 v4 v5 v6 hr hf hC hP hI
      refine sg_M_layCame_50 ?_
      refine M_rowMany_ok hT ((hf 61 2 (by decide) (by decide)).trans (vM_T hv)) ?_
      refine gI_mk ?_
      rw [if_pos (by omega)]
      refine M_lc_pair (vM_fr (fM_fP hf) hv) hw hn (by omega) hvb hC hP (fun μ' w' x v4 v5 v6 f' hC' hP' hle hH => ?_) _ _ _
      refine sg_M_layCame_130 ?_
      rw [iw_k1 (by omega)]
      refine ih (row + 1) μ' w' _ _ _ _ (by omega) (fun c j h1 h2 => (f' c j h1 h2).trans (hf c j h1 h2)) hC' hP' (fun r hr' hv' => ?_)
      by_cases e : r = row
      · rw [e] at hv' ⊢; exact hH hv'
      · exact HT_le (hI r (by omega) hv') hle
  intro v3 v4 v5 v6
  exact kyz (fac (α.1 0 1)) 0 μ v _ _ _ _ (by omega) (fun _ _ _ _ => rfl) hC0 (PS_self _ _ _ _) (fun r hr => absurd hr (Nat.not_lt_zero r))
theorem cm_99 (α : Al) : ∀ n r, cm α n r ≤ 99
  | 0, r => by
    show (if r = 0 then 0 else 99) ≤ 99
    split <;> omega
  | n + 1, r => Nat.le_trans (ga_le (cst_le α n (cm α n) r) _ _) (cm_99 α n r)
theorem M_layCame_ok {d : Nat} {μ : Mem} {α : Al} {Q : AV → Mem → Prop} (hv : vM μ α) (hw : wf α) (h : ∀ μ', fP μ μ' → (∀ r, r < fac (α.1 0 1) → μ' 73 r = ((cm α (α.1 0 4) r : Nat) : Int)) → Q (xI 0) μ') : GM (d + 4) 191 [xR 61] μ Q := by
  have hT := wf_T hw
  have hF := fac_le _ hT
  have hPs := wf_Ps hw
  have hN := wf_N hw
  refine ge_M_layCame ?_
  refine M_lc_init hT (vM_T hv) (fun m1 x f1 e1 => ?_)
  refine sg_M_layCame_18 ?_
  have kyz : ∀ m n (ν : Mem) v2 v3 v4 v5 v6, n + m = α.1 0 4 → fP μ ν → (∀ r, r < fac (α.1 0 1) → ν 73 r = ((cm α n r : Nat) : Int)) → DW (d + 4) 191 21 [xR 61, xI (n : Int), v2, v3, v4, v5, v6] ν Q := by
    intro m
    induction m with
    | zero =>
      intro n ν v2 v3 v4 v5 v6 hn hf hI
      have hvν := vM_fr (fM_fP hf) hv
      refine sg_M_layCame_21 ?_
      rw [vM_Ps hvν, if_neg (by omega)]
      rw [show n = α.1 0 4 by omega] at hI
      exact h ν hf hI
    | succ m ih =>
      intro n ν v2 v3 v4 v5 v6 hn hf hI
      have hvν := vM_fr (fM_fP hf) hv
      refine sg_M_layCame_21 ?_
      rw [vM_Ps hvν, if_pos (by omega)]
      refine M_lc_cp hT (vM_T hvν) (fun m2 x2 f2 e2 => ?_)
      refine sg_M_layCame_47 ?_
      have g2 : fP ν m2 := fun c j _ h2 => f2 c j h2
      refine M_lc_rows (v := cm α n) (vM_fr (fM_fP g2) hvν) hw (by omega) (cm_99 α n) (fun r hr => ⟨(e2 r hr).1.trans (hI r hr), (e2 r hr).2.trans (hI r hr)⟩) (fun m3 w x3 v3 v4 v5 v6 f3 hC3 hS3 => ?_) _ _ _ _
      refine sg_M_layCame_133 ?_
      have g3 : fP ν m3 := fun c j h1 h2 => (f3 c j h1 h2).trans (g2 c j h1 h2)
      refine M_lc_bk hT (vM_T (vM_fr (fM_fP g3) hvν)) (fun m4 x4 f4 e4 => ?_)
      refine sg_M_layCame_153 ?_
      rw [iw_k1 (by omega)]
      refine ih (n + 1) m4 _ _ _ _ _ (by omega) (fun c j h1 h2 => ?_) (fun r hr => ?_)
      · rw [f4 c j h2, g3 c j h1 h2]; exact hf c j h1 h2
      · rw [e4 r hr, (hC3 r hr).2, xStp_uni hS3 (cm_xStp hT n) r hr]
  exact kyz (α.1 0 4) 0 m1 _ _ _ _ _ (by omega) (fun c j _ h2 => f1 c j h2) e1
theorem cmL_le (α : Al) (n : Nat) : ∀ k, cmL α n k ≤ 99
  | 0 => Nat.le_refl _
  | k + 1 => by
    have := cmL_le α n k
    rw [cmL]
    split <;> omega
theorem M_came_ok {d : Nat} {w : Int} {μ : Mem} {α : Al} {Q : AV → Mem → Prop} (hv : vM μ α) (hw : wf α) (h : ∀ μ', vM μ' α → Q (xI (r_came α w)) μ') : GM (d + 6) 190 [xR 61, xI w] μ Q := by
  have hT := wf_T hw
  have hF := fac_le _ hT
  have hL := FT_le hw
  refine ge_M_came ?_
  unfold r_came at h
  refine wi (fun c => ?_) (fun c => ?_)
  · rw [if_pos c] at h; exact h μ hv
  rw [if_neg c] at h
  refine wi (fun c => ?_) (fun c => ?_)
  · rw [if_pos c] at h; exact h μ hv
  rw [if_neg c] at h
  refine M_layFitting_ok hv hw (fun m1 f1 hv1 hF1 => ?_)
  refine gV_mk ?_
  refine M_layCame_ok hv1 hw (fun m2 f2 e2 => ?_)
  refine gV_mk ?_
  have hv2 := vM_fr (fM_fP f2) hv1
  have i26 : m2 61 26 = (((FT α).length : Nat) : Int) := (f2 61 26 (by decide) (by decide)).trans hF1.1
  have kyz : ∀ m k v5, k + m = (FT α).length → DW (d + 6) 190 17 [xR 61, xI w, xI ((cmL α (α.1 0 4) k : Nat) : Int), xI ((cmN α (α.1 0 4) k : Nat) : Int), xI (k : Int), v5] m2 Q := by
    intro m
    induction m with
    | zero =>
      intro k v5 hk
      refine sg_M_came_17 ?_
      rw [i26, if_neg (by omega)]
      refine sg_M_came_48 ?_
      rw [show k = (FT α).length by omega]
      refine wi (fun c0 => ?_) (fun c0 => ?_)
      · rw [if_pos (by omega)] at h; exact h m2 hv2
      rw [if_neg (by omega)] at h
      refine wi (fun c1 => ?_) (fun c1 => ?_)
      · rw [if_pos c1] at h; exact h m2 hv2
      · rw [if_neg c1] at h; exact h m2 hv2
    | succ m ih =>
      intro k v5 hk
      have hk' : k < (FT α).length := by omega
      obtain ⟨r1, _⟩ := FT_r hk'
      have hn := sp_cnt_le (fun k => decide (cmF α (α.1 0 4) k < 99)) k
      have hc : sp_cnt (fun k => decide (cmF α (α.1 0 4) k < 99)) k = cmN α (α.1 0 4) k := rfl
      have i73 : m2 73 ((FT α).getD k 0) = ((cmF α (α.1 0 4) k : Nat) : Int) := e2 _ r1
      have hi := ih (k + 1)
      have eL : cmL α (α.1 0 4) (k + 1) = if cmF α (α.1 0 4) k < cmL α (α.1 0 4) k then cmF α (α.1 0 4) k else cmL α (α.1 0 4) k := rfl
      have eN : cmN α (α.1 0 4) (k + 1) = cmN α (α.1 0 4) k + (if decide (cmF α (α.1 0 4) k < 99) then 1 else 0) := rfl
      rw [eL, eN] at hi
      refine sg_M_came_17 ?_
      rw [i26, if_pos (by omega), wb_eq (by omega) (by omega), Int.toNat_natCast, f2 72 k (by decide) (by decide), hF1.2 k hk', wb_eq (by omega) (by omega), Int.toNat_natCast, i73, iw_k1 (by omega), iw_k1 (by omega), iw_n0 (by omega)]
      refine wi (fun c0 => ?_) (fun c0 => ?_)
      · rw [if_pos (Int.ofNat_lt.1 c0)] at hi
        refine wi (fun c1 => ?_) (fun c1 => ?_)
        · rw [decide_eq_true (show cmF α (α.1 0 4) k < 99 by omega), if_pos rfl] at hi
          exact hi _ (by omega)
        · rw [decide_eq_false (show ¬ cmF α (α.1 0 4) k < 99 by omega), if_neg (by decide), Nat.add_zero] at hi
          exact hi _ (by omega)
      · rw [if_neg (fun e => c0 (Int.ofNat_lt.2 e))] at hi
        refine wi (fun c1 => ?_) (fun c1 => ?_)
        · rw [decide_eq_true (show cmF α (α.1 0 4) k < 99 by omega), if_pos rfl] at hi
          exact hi _ (by omega)
        · rw [decide_eq_false (show ¬ cmF α (α.1 0 4) k < 99 by omega), if_neg (by decide), Nat.add_zero] at hi
          exact hi _ (by omega)
  exact kyz (FT α).length 0 _ (by omega)
