/-! the class: by how few changes arrangements came -/
def cv (x : Nat) : Nat := if x < 99 then x else 7
theorem cv_min {x D : Nat} (hD : D < 7) : cv (min x (D + 1)) = min (cv x) (D + 1) := by
  unfold cv
  by_cases c : x < 99
  · rw [if_pos c, if_pos (by omega)]
  · rw [if_neg c, if_pos (by omega), Nat.min_eq_right (by omega), Nat.min_eq_right (by omega)]
theorem cv_eq {x D : Nat} (hD : D < 7) : cv x = D ↔ x = D := by
  unfold cv
  split <;> omega
def vR6 (μ : Mem) (α : Al) (w : Nat → Nat) : Prop := ∀ j, j < (LW α).length → μ 60 j = ((cv (w ((LW α).getD j 0)) : Nat) : Int)
def f60 (μ μ' : Mem) : Prop := ∀ c j, c ≠ 60 → μ' c j = μ c j
theorem fX_60 {μ μ' : Mem} (h : f60 μ μ') : fX μ μ' := ⟨⟨h 0 4 (by decide), h 1 1 (by decide)⟩, fun c j q => by
  have q2 : c ≠ 60 := by
    rw [Bool.or_eq_true, Bool.and_eq_true, Nat.ble_eq, Nat.ble_eq] at q
    rcases q with q | q
    · simp only [Bool.or_eq_true, beq_iff_eq] at q
      omega
    · omega
  exact h c j q2⟩
theorem vWy_60 {μ μ' : Mem} {α : Al} (h : f60 μ μ') (g : vWy μ α) : vWy μ' α := ⟨(h 12 4 (by decide)).trans g.1, fun k hk => (h 59 k (by decide)).trans (g.2 k hk)⟩
set_option maxRecDepth 20000 in
theorem X_spread_ok {d n k D : Nat} {v w0 : Nat → Nat} {μ : Mem} {α : Al} {Q : AV → Mem → Prop} (hv : vX μ α) (hw : wf α) (hn : n < α.1 0 2) (h126 : μ 12 6 = (n : Int)) (hk : k < (LW α).length) (hW : vWy μ α) (hD : D < 6) (hvD : v ((LW α).getD k 0) = D) (hR0 : vR6 μ α w0) (hP0 : PS α n v w0 D) (h : ∀ μ' w, f60 μ μ' → vR6 μ' α w → PS α n v w D → (∀ r, w r ≤ w0 r) → HT α n v w ((LW α).getD k 0) → Q (xI 0) μ') : GM (d + 3) 118 [xR 12, xI ((wy α k : Nat) : Int), xI ((D + 1 : Nat) : Int)] μ Q := by
  have hT := wf_T hw
  have hL := LW_le hT
  obtain ⟨hr, hlaw⟩ := LW_at hk
  refine ge_Came_spread ?_
  have kyz : ∀ (m a : Nat) (ν : Mem) (w : Nat → Nat) (v4 v5 : AV), a + m = α.1 0 1 → f60 μ ν → vR6 ν α w → PS α n v w D → (∀ r, w r ≤ w0 r) → (∀ a' b', a' < a → a' < b' → b' < α.1 0 1 → sp_may α n a' b' = true → w (swr (α.1 0 1) ((LW α).getD k 0) a' b') ≤ D + 1) → DW (d + 3) 118 2 [xR 12, xI ((wy α k : Nat) : Int), xI ((D + 1 : Nat) : Int), xI (a : Int), v4, v5] ν Q := by
    intro m
    induction m with
    | zero =>
      intro a ν w v4 v5 ha hf hR hP hle hI
      refine sg_Came_spread_2 ?_
      rw [hf 2 1 (by decide), vX_T hv, if_neg (by omega)]
      exact h ν w hf hR hP hle (fun a' b' h1 h2 h3 => by rw [hvD]; exact hI a' b' (by omega) h1 h2 h3)
    | succ m ih =>
      intro a ν w v4 v5 ha hf hR hP hle hI
      refine sg_Came_spread_2 ?_
      rw [hf 2 1 (by decide), vX_T hv, if_pos (by omega), iw_k1 (by omega)]
      have inn : ∀ (m2 b : Nat) (ν : Mem) (w : Nat → Nat) (v5 : AV), b + m2 = α.1 0 1 → a < b → f60 μ ν → vR6 ν α w → PS α n v w D → (∀ r, w r ≤ w0 r) → (∀ a' b', (a' < a ∨ (a' = a ∧ b' < b)) → a' < b' → b' < α.1 0 1 → sp_may α n a' b' = true → w (swr (α.1 0 1) ((LW α).getD k 0) a' b') ≤ D + 1) → DW (d + 3) 118 12 [xR 12, xI ((wy α k : Nat) : Int), xI ((D + 1 : Nat) : Int), xI (a : Int), xI (b : Int), v5] ν Q := by
        intro m2
        induction m2 with
        | zero =>
          intro b ν w v5 hb hab hf hR hP hle hI
          refine sg_Came_spread_12 ?_
          rw [hf 2 1 (by decide), vX_T hv, if_neg (by omega)]
          refine sg_Came_spread_46 ?_
          rw [iw_k1 (by omega)]
          exact ih (a + 1) ν w _ _ (by omega) hf hR hP hle (fun a' b' h1 h2 h3 h4 => hI a' b' (by omega) h2 h3 h4)
        | succ m2 ih2 =>
          intro b ν w v5 hb hab hf hR hP hle hI
          have hvν := vX_fr (fX_60 hf) hv
          refine sg_Came_spread_12 ?_
          rw [hf 2 1 (by decide), vX_T hv, if_pos (by omega), hf 12 6 (by decide), h126, iw_k1 (by omega)]
          refine X_allows_ok hvν hw hn (by omega) (by omega) ?_
          refine gI_mk ?_
          by_cases c3 : sp_may α n a b = true
          · rw [if_pos c3, if_neg (by decide)]
            have hsw := swr_ok hT hr (show a < α.1 0 1 by omega) (show b < α.1 0 1 by omega)
            have hl2 : lawB α (rv (α.1 0 1) (swr (α.1 0 1) ((LW α).getD k 0) a b)) = true := by
              rw [lawB_congr hsw.2]; exact swp_law hlaw (by omega) (by omega) c3
            obtain ⟨k', hk', ek⟩ := LW_ix hsw.1 hl2
            refine X_exchanged_ok hw (vX_T hvν) hr hab (by omega) ?_
            refine gI_mk ?_
            rw [← ek]
            refine X_indexOf_ok hw (vWy_60 hf hW) hk' ?_
            refine gI_mk ?_
            have e60 := hR k' hk'
            rw [wb_eq (by omega) (by omega), wb_eq (by omega) (by omega), Int.toNat_natCast, e60]
            have em : min ((cv (w ((LW α).getD k' 0)) : Nat) : Int) ((D + 1 : Nat) : Int) = ((cv (min (w ((LW α).getD k' 0)) (D + 1)) : Nat) : Int) := by
              rw [cv_min (by omega)]; omega
            rw [em]
            refine ih2 (b + 1) _ (xup w ((LW α).getD k' 0) (D + 1)) _ (by omega) (by omega) (fun c j hc => by rw [xs_c hc]; exact hf c j hc) (fun j hj => ?_) ?_ (fun r => Nat.le_trans (xup_le _ _ _ _) (hle r)) (fun a' b' h1 h2 h3 h4 => ?_)
            · unfold xup
              by_cases e : j = k'
              · rw [e, xs_s, if_pos rfl]
              · rw [xs_j e, if_neg (fun e2 => e (LW_inj hT hj hk' e2))]; exact hR j hj
            · have hp := PS_xup hP hr (a := a) (b := b) (by omega) (by omega) hab (by omega) c3
              rw [hvD, ← ek] at hp
              exact hp
            · by_cases e : a' = a ∧ b' = b
              · rw [e.1, e.2, ← ek]; exact xup_at _ _ _
              · exact Nat.le_trans (xup_le _ _ _ _) (hI a' b' (by omega) h2 h3 h4)
          · rw [if_neg c3, if_pos rfl]
            refine ih2 (b + 1) ν w _ (by omega) (by omega) hf hR hP hle (fun a' b' h1 h2 h3 h4 => ?_)
            by_cases e : a' = a ∧ b' = b
            · rw [e.1, e.2] at h4; exact absurd h4 c3
            · exact hI a' b' (by omega) h2 h3 h4
      exact inn (α.1 0 1 - (a + 1)) (a + 1) ν w _ (by omega) (by omega) hf hR hP hle (fun a' b' h1 h2 h3 h4 => hI a' b' (by omega) h2 h3 h4)
  exact kyz (α.1 0 1) 0 μ w0 _ _ (by omega) (fun _ _ _ => rfl) hR0 hP0 (fun _ => Nat.le_refl _) (fun a' _ h1 => absurd h1 (Nat.not_lt_zero a'))
theorem PS_D {α : Al} {n D r : Nat} {v w : Nat → Nat} (h : PS α n v w D) (hr : r < fac (α.1 0 1)) : w r = D ↔ v r = D := by
  have h1 := h.1 r hr
  rcases h.2 r hr with e | ⟨r0, a, b, _, _, a3, _, _, _, _, a8⟩
  · rw [e]
  · constructor
    · intro q; omega
    · intro q; omega
set_option maxRecDepth 20000 in
theorem X_goOn_ok {d n : Nat} {μ : Mem} {α : Al} {Q : AV → Mem → Prop} (hv : vX μ α) (hw : wf α) (hn : n < α.1 0 2) (h126 : μ 12 6 = (n : Int)) (hW : vWy μ α) (hR0 : vR6 μ α (cm α n)) (h : ∀ μ', f60 μ μ' → vR6 μ' α (cm α (n + 1)) → Q (xI 0) μ') : GM (d + 4) 117 [xR 12] μ Q := by
  have hT := wf_T hw
  have hN := wf_N hw
  have hL := LW_le hT
  refine ge_Came_goOn ?_
  rw [h126]
  have kyz : ∀ (e : Nat) (ν : Mem) (w : Nat → Nat) (v2 : AV), e ≤ n + 1 → f60 μ ν → vR6 ν α w → PS α n (cm α n) w e → (∀ r, r < fac (α.1 0 1) → cm α n r < 99 → e ≤ cm α n r → HT α n (cm α n) w r) → DW (d + 4) 117 3 [xR 12, xI ((e : Int) - 1), v2] ν Q := by
    intro e
    induction e with
    | zero =>
      intro ν w v2 he hf hR hP hI
      refine sg_Came_goOn_3 ?_
      rw [if_pos (by omega)]
      refine h ν hf (fun j hj => ?_)
      rw [hR j hj, xStp_uni (w1 := w) (w2 := cm α (n + 1)) ⟨hP, fun r hr hc => hI r hr hc (Nat.zero_le _)⟩ (cm_xStp hT n) _ (LW_at hj).1]
    | succ D ih =>
      intro ν w v2 he hf hR hP hI
      refine sg_Came_goOn_3 ?_
      have eD : ((D + 1 : Nat) : Int) - 1 = (D : Int) := by omega
      rw [eD, if_neg (by omega)]
      have inn : ∀ (m i : Nat) (ν : Mem) (w : Nat → Nat), i + m = (LW α).length → f60 μ ν → vR6 ν α w → PS α n (cm α n) w D → (∀ r, r < fac (α.1 0 1) → cm α n r < 99 → D + 1 ≤ cm α n r → HT α n (cm α n) w r) → (∀ j, j < i → cm α n ((LW α).getD j 0) = D → HT α n (cm α n) w ((LW α).getD j 0)) → DW (d + 4) 117 8 [xR 12, xI (D : Int), xI (i : Int)] ν Q := by
        intro m
        induction m with
        | zero =>
          intro i ν w hi hf hR hP hI hJ
          refine sg_Came_goOn_8 ?_
          rw [hf 12 4 (by decide), hW.1, if_neg (by omega)]
          refine sg_Came_goOn_30 ?_
          rw [show iw ((D : Int) + (-1)) = (D : Int) - 1 by rw [iw_id (by omega) (by omega)]; omega]
          refine ih ν w _ (by omega) hf hR hP (fun r hr hc hD => ?_)
          by_cases q : cm α n r = D
          · obtain ⟨j, hj, ej⟩ := LW_ix hr (cm_law hT n r hr hc)
            have := hJ j (by omega) (by rw [ej]; exact q)
            rw [ej] at this
            exact this
          · exact hI r hr hc (by omega)
        | succ m ihm =>
          intro i ν w hi hf hR hP hI hJ
          have hi' : i < (LW α).length := by omega
          have hRi := hR i hi'
          have hWi := hW.2 i hi'
          have hpd := PS_D hP (LW_at hi').1
          refine sg_Came_goOn_8 ?_
          rw [hf 12 4 (by decide), hW.1, if_pos (by omega), wb_eq (by omega) (by omega), wb_eq (by omega) (by omega), Int.toNat_natCast, hRi, hf 59 i (by decide), hWi, iw_k1 (n := i) (by omega), iw_k1 (n := D) (by omega)]
          refine wi (fun c => ?_) (fun c => ?_)
          · have c1 : cv (w ((LW α).getD i 0)) = D := by omega
            have c2 : cm α n ((LW α).getD i 0) = D := hpd.1 ((cv_eq (by omega)).1 c1)
            refine X_spread_ok (vX_fr (fX_60 hf) hv) hw hn ((hf 12 6 (by decide)).trans h126) hi' (vWy_60 hf hW) (by omega) c2 hR hP (fun μ' w' f' hR' hP' hle hH => ?_)
            refine gV_mk ?_
            refine ihm (i + 1) μ' w' (by omega) (fun c j hc => (f' c j hc).trans (hf c j hc)) hR' hP' (fun r hr hc hD => HT_le (hI r hr hc hD) hle) (fun j hj hq => ?_)
            by_cases e : j = i
            · rw [e]; exact hH
            · exact HT_le (hJ j (by omega) hq) hle
          · refine ihm (i + 1) ν w (by omega) hf hR hP hI (fun j hj hq => ?_)
            by_cases e : j = i
            · rw [e] at hq
              have := (cv_eq (show D < 7 by omega)).2 (hpd.2 hq)
              omega
            · exact hJ j (by omega) hq
      exact inn (LW α).length 0 ν w (by omega) hf hR (PS_down hP (by omega)) hI (fun j hj => absurd hj (Nat.not_lt_zero j))
  have k0 := kyz (n + 1) μ (cm α n) (xL 0) (Nat.le_refl _) (fun _ _ _ => rfl) hR0 (PS_self _ _ _ _) (fun r hr hc hD => by
    have := cm_bd hT n r hr
    omega)
  rw [show ((n + 1 : Nat) : Int) - 1 = (n : Int) by omega] at k0
  exact k0
theorem X_fill60_ok {d : Nat} {μ : Mem} {Q : AV → Mem → Prop} (h : ∀ μ', f60 μ μ' → (∀ j, j < 720 → μ' 60 j = 7) → Q (xI 0) μ') : GM d 95 [xR 60, xI 7] μ Q := by
  refine ge_JArrays_fill_60 ?_
  refine lp_up (fun i (ν : Mem) => DW d 95 5 [xR 60, xI 7, xI (i : Int), xI 720] ν Q) (fun i ν => f60 μ ν ∧ ∀ j, j < i → ν 60 j = 7) 720 ?_ ?_ 720 0 μ rfl ⟨fun _ _ _ => rfl, fun j hj => absurd hj (Nat.not_lt_zero j)⟩
  · intro i ν hi hI hn
    refine sg_JArrays_fill_60_5 ?_
    rw [if_pos (by omega), wb_eq (by omega) (by omega), iw_k1 (by omega), Int.toNat_natCast]
    refine hn _ ⟨fun c j hc => by rw [xs_c hc]; exact hI.1 c j hc, fun j hj => ?_⟩
    by_cases c : j = i
    · rw [c]; exact xs_s
    · rw [xs_j c]; exact hI.2 j (by omega)
  · intro ν hI
    refine sg_JArrays_fill_60_5 ?_
    rw [if_neg (by omega)]
    exact h ν hI.1 hI.2
/-- what was found out before holds, or nothing was -/
def vCm (μ : Mem) (α : Al) (n : Nat) : Prop := μ 12 6 = (n : Int) ∧ vWy μ α ∧ vR6 μ α (cm α n)
def CI (μ : Mem) (α : Al) : Prop := μ 12 6 = -1 ∨ ∃ n, n ≤ α.1 0 2 ∧ vCm μ α n
def fC (μ μ' : Mem) : Prop := ∀ c j, c ≠ 12 → c ≠ 59 → c ≠ 60 → μ' c j = μ c j
theorem fC_refl (μ : Mem) : fC μ μ := fun _ _ _ _ _ => rfl
theorem fC_t {μ ν κ : Mem} (h : fC μ ν) (g : fC ν κ) : fC μ κ := fun c j h1 h2 h3 => (g c j h1 h2 h3).trans (h c j h1 h2 h3)
theorem fX_fC {μ μ' : Mem} (h : fC μ μ') : fX μ μ' := ⟨⟨h 0 4 (by decide) (by decide) (by decide), h 1 1 (by decide) (by decide) (by decide)⟩, fun c j q => by
  have q2 : c ≠ 12 ∧ c ≠ 59 ∧ c ≠ 60 := by
    rw [Bool.or_eq_true, Bool.and_eq_true, Nat.ble_eq, Nat.ble_eq] at q
    rcases q with q | q
    · simp only [Bool.or_eq_true, beq_iff_eq] at q
      omega
    · omega
  exact h c j q2.1 q2.2.1 q2.2.2⟩
theorem X_home_ok {d : Nat} {μ : Mem} {α : Al} {Q : AV → Mem → Prop} (hw : wf α) (hW : vWy μ α) (h : ∀ μ', fC μ μ' → vCm μ' α 0 → Q (xI 0) μ') : GM (d + 1) 116 [xR 12] μ Q := by
  have hT := wf_T hw
  have hL := LW_le hT
  refine ge_Came_startAtHome ?_
  refine X_fill60_ok (fun m1 f1 z1 => ?_)
  refine gV_mk ?_
  refine h _ (fun c j h1 h2 h3 => by rw [xs_c h1, xs_c h3]; exact f1 c j h3) ⟨xs_s, ⟨?_, fun k hk => ?_⟩, fun j hj => ?_⟩
  · rw [xs_j (by decide), xs_c (by decide)]; exact (f1 12 4 (by decide)).trans hW.1
  · rw [xs_c (by decide), xs_c (by decide)]; exact (f1 59 k (by decide)).trans (hW.2 k hk)
  · rw [xs_c (by decide)]
    have e0 := LW_0 hT
    show _ = ((cv (if (LW α).getD j 0 = 0 then 0 else 99) : Nat) : Int)
    by_cases c : j = 0
    · rw [c, xs_s, e0.2]; rfl
    · rw [xs_j c, z1 j (by omega), if_neg (fun e => c (LW_inj hT hj e0.1 (by rw [e, e0.2])))]; rfl
set_option maxRecDepth 20000 in
theorem X_cend_ok {d n : Nat} {μ : Mem} {α : Al} {Q : AV → Mem → Prop} (hv : vX μ α) (hw : wf α) (hn : n ≤ 6) (hA : vA μ α) (hC : vCm μ α n) (h : ∀ (F : Nat) (μ' : Mem), (∀ c j, (c ≠ 12 ∨ (j ≠ 7 ∧ j ≠ 8)) → μ' c j = μ c j) → μ' 12 8 = ((cmN α n (FT α).length : Nat) : Int) → μ' 12 7 = (F : Int) → (¬ cmN α n (FT α).length = 0 → F = cmL α n (FT α).length) → Q (xI 0) μ') : DW (d + 5) 114 52 [xR 12, xI 0] (xset (xset μ 12 7 7) 12 8 0) Q := by
  have hT := wf_T hw
  have hL := LW_le hT
  have kyz : ∀ (m i F : Nat) (ν : Mem), i + m = (LW α).length → (∀ c j, (c ≠ 12 ∨ (j ≠ 7 ∧ j ≠ 8)) → ν c j = μ c j) → ν 12 8 = ((sp_cnt (fun k => cgB α n ((LW α).getD k 0)) i : Nat) : Int) → ν 12 7 = (F : Int) → (∀ k, k < i → cgB α n ((LW α).getD k 0) = true → F ≤ cm α n ((LW α).getD k 0)) → (F = 7 ∨ ∃ k, k < i ∧ cgB α n ((LW α).getD k 0) = true ∧ F = cm α n ((LW α).getD k 0)) → DW (d + 5) 114 52 [xR 12, xI (i : Int)] ν Q := by
    intro m
    induction m with
    | zero =>
      intro i F ν hi hf e8 e7 h1 h2
      have ei : i = (LW α).length := by omega
      subst ei
      refine sg_Came_find_52 ?_
      rw [hf 12 4 (by decide), hC.2.1.1, if_neg (by omega)]
      refine h F ν hf ?_ e7 (fun h0 => cmL_uni hT hn h0 h1 h2)
      rw [e8, cmN_LW]
    | succ m ih =>
      intro i F ν hi hf e8 e7 h1 h2
      have hi' : i < (LW α).length := by omega
      obtain ⟨hr, _⟩ := LW_at hi'
      have hbd := cm_bd hT n _ hr
      have hc := sp_cnt_le (fun k => cgB α n ((LW α).getD k 0)) i
      have hAν : vA ν α := fun p hp => (hf 51 p (by omega)).trans (hA p hp)
      have e59 : ν 59 i = ((wy α i : Nat) : Int) := (hf 59 i (by omega)).trans (hC.2.1.2 i hi')
      have e60 : ν 60 i = ((cv (cm α n ((LW α).getD i 0)) : Nat) : Int) := (hf 60 i (by omega)).trans (hC.2.2 i hi')
      have eN : sp_cnt (fun k => cgB α n ((LW α).getD k 0)) (i + 1) = sp_cnt (fun k => cgB α n ((LW α).getD k 0)) i + (if cgB α n ((LW α).getD i 0) then 1 else 0) := rfl
      have skip : cgB α n ((LW α).getD i 0) = false → DW (d + 5) 114 52 [xR 12, xI ((i + 1 : Nat) : Int)] ν Q := fun e => by
        refine ih (i + 1) F ν (by omega) hf (by rw [eN, e]; exact e8) e7 (fun k hk hg => ?_) ?_
        · by_cases q : k = i
          · rw [q, e] at hg; cases hg
          · exact h1 k (by omega) hg
        · rcases h2 with h2 | ⟨k, a1, a2⟩
          · exact Or.inl h2
          · exact Or.inr ⟨k, by omega, a2⟩
      refine sg_Came_find_52 ?_
      rw [hf 12 4 (by decide), hC.2.1.1, if_pos (by omega), wb_eq (by omega) (by omega), wb_eq (by omega) (by omega), Int.toNat_natCast, e60, e59, iw_k1 (by omega)]
      refine wi (fun c => ?_) (fun c => ?_)
      · have c99 : cm α n ((LW α).getD i 0) < 99 := by
          rcases hbd with q | q
          · omega
          · rw [q] at c; exact absurd c (by decide)
        have ecv : cv (cm α n ((LW α).getD i 0)) = cm α n ((LW α).getD i 0) := if_pos c99
        refine X_isFit_ok hw ((hf 2 1 (by decide)).trans (vX_T hv)) hAν hr ?_
        refine gI_mk ?_
        cases ef : fitB α (rv (α.1 0 1) ((LW α).getD i 0)) with
        | false =>
          rw [show b01 false = 0 from rfl, if_pos rfl]
          exact skip (by unfold cgB; rw [ef, Bool.and_false])
        | true =>
          have eg : cgB α n ((LW α).getD i 0) = true := by unfold cgB; rw [ef, decide_eq_true c99]; rfl
          rw [show b01 true = 1 from rfl, if_neg (by decide), wb_eq (by omega) (by omega), e60, e7, e8, ecv, iw_k1 (by omega), show min (F : Int) ((cm α n ((LW α).getD i 0) : Nat) : Int) = ((min F (cm α n ((LW α).getD i 0)) : Nat) : Int) by omega]
          refine ih (i + 1) (min F (cm α n ((LW α).getD i 0))) _ (by omega) (fun c j hc => ?_) ?_ xs_s (fun k hk hg => ?_) ?_
          · rw [xs_if, if_neg (by omega), xs_if, if_neg (by omega)]; exact hf c j hc
          · rw [xs_j (by decide), xs_s, eN, eg]; rfl
          · by_cases q : k = i
            · rw [q]; exact Nat.min_le_right _ _
            · exact Nat.le_trans (Nat.min_le_left _ _) (h1 k (by omega) hg)
          · rcases Nat.le_total F (cm α n ((LW α).getD i 0)) with q | q
            · rw [Nat.min_eq_left q]
              rcases h2 with h2 | ⟨k, a1, a2⟩
              · exact Or.inl h2
              · exact Or.inr ⟨k, by omega, a2⟩
            · rw [Nat.min_eq_right q]; exact Or.inr ⟨i, by omega, eg, rfl⟩
      · refine skip ?_
        have c99 : ¬ cm α n ((LW α).getD i 0) < 99 := fun w => by
          have ecv : cv (cm α n ((LW α).getD i 0)) = cm α n ((LW α).getD i 0) := if_pos w
          omega
        unfold cgB
        rw [decide_eq_false c99, Bool.false_and]
  exact kyz (LW α).length 0 7 _ (by omega) (fun c j hc => by rw [xs_if, if_neg (by omega), xs_if, if_neg (by omega)]) xs_s (by rw [xs_j (by decide), xs_s]; rfl) (fun k hk => absurd hk (Nat.not_lt_zero k)) (Or.inl rfl)
