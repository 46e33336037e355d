/-! the reference: inn -/
def st_begin (β : Al) : Al := (fun r i => if r = 0 then (if i < 3 then β.1 0 i else 0) else if r = 9 then i else if r = 10 then β.1 6 i else if r = 14 then 0 else β.1 r i, fun _ _ => 0)
def r_inn (α : Al) : Int := match RD α with
  | .inl _ => -4
  | .inr ls => ((ls.length : Nat) : Int)
def t_inn (α : Al) : Al := match RD α with
  | .inl _ => α
  | .inr ls => st_begin (ls.foldl dl α)
theorem inn_l {α : Al} {f : Nat} (e : RD α = .inl f) : r_inn α = -4 ∧ t_inn α = α := by unfold r_inn t_inn; rw [e]; exact ⟨rfl, rfl⟩
theorem inn_r {α : Al} {ls : List (Nat × List Nat)} (e : RD α = .inr ls) : r_inn α = ((ls.length : Nat) : Int) ∧ t_inn α = st_begin (ls.foldl dl α) := by unfold r_inn t_inn; rw [e]; exact ⟨rfl, rfl⟩
theorem wf_begin {β : Al} (h : uw β) : wf (st_begin β) := by
  obtain ⟨a1, a2, a3, a4, a5, a6⟩ := h
  exact ⟨a1, a2, a3, Nat.zero_le _, Nat.zero_le _, (show (0 : Nat) < 32 by decide), Nat.zero_le _, a4, fun i hi => (a5 i hi).1, fun i hi => (a5 i hi).2.1, fun i hi => (a5 i hi).2.2.1, fun i hi => (a5 i hi).2.2.2.1, fun i hi => (a5 i hi).2.2.2.2, a6, fun i hi => absurd hi (Nat.not_lt_zero i), fun i hi => ⟨hi, rfl⟩, fun i j _ _ e => e, fun i hi => (a5 i hi).2.2.2.2, fun i hi => absurd hi (Nat.not_lt_zero i), fun i hi => absurd hi (Nat.not_lt_zero i), fun i hi => absurd hi (Nat.not_lt_zero i), fun k _ => (show (0 : Nat) < 2 by decide), fun e => absurd e (show ¬ (0 : Nat) = 1 by decide), fun e => absurd e (show ¬ (0 : Nat) = 1 by decide), fun e => absurd e (show ¬ (0 : Nat) = 1 by decide), fun e => absurd e (show ¬ (0 : Nat) = 1 by decide), fun e => absurd e (show ¬ (0 : Nat) = 1 by decide), fun e => absurd e (show ¬ (0 : Nat) = 1 by decide)⟩
theorem uw_fold : ∀ (ls : List (Nat × List Nat)) (β : Al), uw β → okLs (sOf β) ls → uw (ls.foldl dl β)
  | [], _, h, _ => h
  | x :: ls, β, h, hk => by
    refine uw_fold ls (dl β x) (uw_dl h hk.1) ?_
    rw [dl_s]
    exact hk.2
theorem wf_tinn {α : Al} (hw : wf α) : wf (t_inn α) := by
  cases e : RD α with
  | inl f => rw [(inn_l e).2]; exact hw
  | inr ls =>
    rw [(inn_r e).2]
    obtain ⟨ls', q1, q2, _⟩ := rdg_ok 14 (sOf α) 0 [] ls (Nat.zero_le _) e
    rw [q1, List.nil_append]
    exact wf_begin (uw_fold ls' α (uw_wf hw) q2)
theorem vM_begin {μ : Mem} {β : Al} (hu : uM μ β) (h6 : μ 61 6 = 0) (h22 : μ 61 22 = 0) (hl : ∀ i, i < β.1 0 1 → μ 67 i = (i : Int) ∧ μ 67 (6 + i) = ((β.1 6 i : Nat) : Int)) (hz : ∀ j, 12 ≤ j → j < 27 → μ 67 j = 0) (hk : μ 69 0 = 0 ∧ μ 69 1 = 0) (hT : β.1 0 1 ≤ 6) : vM μ (st_begin β) := by
  obtain ⟨u1, u2, u3, u4, u5, u6⟩ := hu
  exact ⟨u1, u2, u3, h6, hz 24 (by decide) (by decide), hz 26 (by decide) (by decide), h22, u4, fun i hi => (u5 i hi).1, fun i hi => (u5 i hi).2.1, fun i hi => (u5 i hi).2.2.1, fun i hi => (u5 i hi).2.2.2.1, fun i hi => (u5 i hi).2.2.2.2, u6, fun i hi => absurd hi (Nat.not_lt_zero i), fun i hi => (hl i hi).1, fun i hi => (hl i hi).2, fun i hi => absurd hi (Nat.not_lt_zero i), fun i hi => absurd hi (Nat.not_lt_zero i), fun i hi => absurd hi (Nat.not_lt_zero i), hz 25 (by decide) (by decide), fun i hi => hz (12 + i) (by omega) (by have : i < β.1 0 1 := hi; omega), fun i hi => hz (18 + i) (by omega) (by have : i < β.1 0 1 := hi; omega), fun k hk2 => by
    rcases (show k = 0 ∨ k = 1 by omega) with e | e <;> subst e
    · exact hk.1
    · exact hk.2, fun e => absurd e (show ¬ (0 : Nat) = 1 by decide), fun e => absurd e (show ¬ (0 : Nat) = 1 by decide), fun e => absurd e (show ¬ (0 : Nat) = 1 by decide), fun e => absurd e (show ¬ (0 : Nat) = 1 by decide)⟩
theorem fDo_t {μ ν κ : Mem} (h : fDo μ ν) (g : fDo ν κ) : fDo μ κ := fun c j a b d e => (g c j a b d e).trans (h c j a b d e)
theorem M_dols {d : Nat} {ls : List (Nat × List Nat)} {Q : AV → Mem → Prop} (hlen : ls.length ≤ 14) : ∀ (ls' pre : List (Nat × List Nat)) (β : Al) (ν : Mem), pre ++ ls' = ls → uM ν β → uw β → okLs (sOf β) ls' → lsM ν ls → (∀ k, k < ls.length → (ls.getD k (0, [])).2.length ≤ 4) → ν 61 14 = ((ls.length : Nat) : Int) → (∀ κ x, fDo ν κ → uM κ (ls'.foldl dl β) → DW (d + 6) 138 19 [xR 61, xI x] κ Q) → DW (d + 6) 138 7 [xR 61, xI ((pre.length : Nat) : Int)] ν Q := by
  intro ls'
  induction ls' with
  | nil =>
    intro pre β ν e hu hw hk hl hl4 h14 h
    rw [List.append_nil] at e
    refine sg_M_inn_7 ?_
    rw [h14, e, if_neg (by omega)]
    exact h ν _ (fun _ _ _ _ _ _ => rfl) hu
  | cons x ls' ih =>
    intro pre β ν e hu hw hk hl hl4 h14 h
    have hlen2 : pre.length + (ls'.length + 1) = ls.length := by rw [← e, List.length_append, List.length_cons]
    have hx : ls.getD pre.length (0, []) = x := by
      rw [← e, List.getD_eq_getElem?_getD, List.getElem?_append_right (Nat.le_refl _), Nat.sub_self]
      rfl
    have e5 : iw (5 * ((pre.length : Nat) : Int)) = ((5 * pre.length : Nat) : Int) := by rw [iw_id (by omega) (by omega)]; omega
    have hln := hl pre.length (by omega)
    rw [hx] at hln
    refine sg_M_inn_7 ?_
    rw [h14, if_pos (by omega), e5, iw_k1 (by omega)]
    refine M_doLine_ok hu hw hk.1 hln (by omega) (fun κ fκ uκ => ?_)
    refine gV_mk ?_
    have ihh := ih (pre ++ [x]) (dl β x) κ (by rw [List.append_assoc]; exact e) uκ (uw_dl hw hk.1) (by rw [dl_s]; exact hk.2) (fun k hk2 => lnM_fr (hl4 k hk2) (fun j _ => fκ 66 _ (by omega) (by decide) (by decide) (by decide)) (hl k hk2)) hl4 ((fκ 61 14 (by decide) (by decide) (by decide) (by decide)).trans h14) (fun κ2 x2 f2 u2 => h κ2 x2 (fDo_t fκ f2) u2)
    rw [List.length_append, List.length_singleton] at ihh
    exact ihh
theorem okLs_len : ∀ (ls : List (Nat × List Nat)) (s : St3), okLs s ls → ∀ k, k < ls.length → (ls.getD k (0, [])).2.length ≤ 4
  | [], _, _, k, hk => absurd hk (Nat.not_lt_zero k)
  | x :: ls, s, h, k, hk => by
    cases k with
    | zero => exact okL_len h.1
    | succ k => exact okLs_len ls _ h.2 k (by rw [List.length_cons] at hk; omega)
set_option maxRecDepth 20000 in
theorem M_inn_ok {d : Nat} {μ : Mem} {α : Al} {Q : AV → Mem → Prop} (hv : vM μ α) (hw : wf α) (h : ∀ μ', vM μ' (t_inn α) → Q (xI (r_inn α)) μ') : GM (d + 6) 138 [xR 61] μ Q := by
  refine ge_M_inn ?_
  refine M_isRead_ok hv hw (fun f μ' e f' _ => ?_) (fun ls m1 e f1 h14 hl => ?_)
  · refine gI_mk ?_
    rw [if_pos rfl]
    rw [(inn_l e).1, (inn_l e).2] at h
    exact h μ' (vM_fr (fM_fRd f') hv)
  refine gI_mk ?_
  rw [if_neg (by decide)]
  rw [(inn_r e).1, (inn_r e).2] at h
  obtain ⟨ls', q1, q2, q3⟩ := rdg_ok 14 (sOf α) 0 [] ls (Nat.zero_le _) e
  rw [List.nil_append] at q1
  subst q1
  have hv1 := vM_fr (fM_fRd f1) hv
  refine M_dols (ls := ls) q3 ls [] α m1 rfl (uM_vM hv1) (uw_wf hw) q2 hl (okLs_len ls _ q2) h14 (fun m2 x2 f2 hu2 => ?_)
  have hwβ := uw_fold ls α (uw_wf hw) q2
  generalize hβ : ls.foldl dl α = β at hu2 hwβ h
  have hT := hwβ.2.1
  have h14' : m2 61 14 = ((ls.length : Nat) : Int) := (f2 61 14 (by decide) (by decide) (by decide) (by decide)).trans h14
  refine sg_M_inn_19 ?_
  have zl : ∀ (m j : Nat) (ν : Mem), j + m = 27 → (∀ c i, c ≠ 67 → ν c i = (xset m2 61 6 0) c i) → (∀ i, i < j → ν 67 i = 0) → DW (d + 6) 138 25 [xR 61, xI (j : Int)] ν Q := by
    intro m
    induction m with
    | zero =>
      intro j ν hj f3 z3
      refine sg_M_inn_25 ?_
      rw [if_neg (by omega)]
      refine sg_M_inn_36 ?_
      have tl2 : ∀ (m t : Nat) (κ : Mem), t + m = β.1 0 1 → (∀ c i, c ≠ 67 → κ c i = ν c i) → (∀ i, i < t → κ 67 i = (i : Int) ∧ κ 67 (6 + i) = ((β.1 6 i : Nat) : Int)) → (∀ i, 12 ≤ i → i < 27 → κ 67 i = 0) → DW (d + 6) 138 39 [xR 61, xI (t : Int)] κ Q := by
        intro m
        induction m with
        | zero =>
          intro t κ ht f4 l4 z4
          refine sg_M_inn_39 ?_
          rw [f4 61 2 (by decide), f3 61 2 (by decide), xs_j (by decide), hu2.2.1, if_neg (by omega)]
          refine sg_M_inn_65 ?_
          rw [f4 61 14 (by decide), f3 61 14 (by decide), xs_j (by decide), h14']
          have fr : ∀ c i, c ≠ 67 → c ≠ 69 → (c ≠ 61 ∨ (i ≠ 6 ∧ i ≠ 22)) → xset (xset (xset κ 61 22 0) 69 0 0) 69 1 0 c i = m2 c i := fun c i a1 a2 a3 => by
            rw [xs_c a2, xs_c a2, xs_if, if_neg (by omega), f4 c i a1, f3 c i a1, xs_if, if_neg (by omega)]
          refine h _ (vM_begin ⟨?_, ?_, ?_, fun i hi => ?_, fun i hi => ?_, fun i hi => ?_⟩ ?_ ?_ (fun i hi => ?_) (fun j h1 h2 => ?_) ⟨?_, xs_s⟩ hT)
          · rw [fr 61 0 (by decide) (by decide) (by decide)]; exact hu2.1
          · rw [fr 61 2 (by decide) (by decide) (by decide)]; exact hu2.2.1
          · rw [fr 61 4 (by decide) (by decide) (by decide)]; exact hu2.2.2.1
          · rw [fr 62 i (by decide) (by decide) (by omega)]; exact hu2.2.2.2.1 i hi
          · rw [fr 63 _ (by decide) (by decide) (by omega), fr 63 _ (by decide) (by decide) (by omega), fr 63 _ (by decide) (by decide) (by omega), fr 63 _ (by decide) (by decide) (by omega), fr 63 _ (by decide) (by decide) (by omega)]; exact hu2.2.2.2.2.1 i hi
          · rw [fr 64 i (by decide) (by decide) (by omega)]; exact hu2.2.2.2.2.2 i hi
          · rw [xs_c (by decide), xs_c (by decide), xs_j (by decide), f4 61 6 (by decide), f3 61 6 (by decide), xs_s]
          · rw [xs_c (by decide), xs_c (by decide), xs_s]
          · rw [xs_c (by decide), xs_c (by decide), xs_c (by decide), xs_c (by decide), xs_c (by decide), xs_c (by decide)]; exact l4 i (by omega)
          · rw [xs_c (by decide), xs_c (by decide), xs_c (by decide)]; exact z4 j h1 h2
          · rw [xs_j (by decide), xs_s]
        | succ m ih =>
          intro t κ ht f4 l4 z4
          have htT : t < β.1 0 1 := by omega
          have e63 : κ 63 (5 * t + 4) = ((β.1 6 t : Nat) : Int) := by
            rw [f4 63 _ (by decide), f3 63 _ (by decide), xs_c (by decide)]
            exact (hu2.2.2.2.2.1 t htT).2.2.2.2
          refine sg_M_inn_39 ?_
          rw [f4 61 2 (by decide), f3 61 2 (by decide), xs_j (by decide), hu2.2.1, if_pos (by omega), iw_54 (by omega), iw_6 (by omega), wb_eq (by omega) (by omega), wb_eq (by omega) (by omega), wb_eq (by omega) (by omega), Int.toNat_natCast, Int.toNat_natCast, Int.toNat_natCast, e63, iw_k1 (by omega)]
          refine ih (t + 1) _ (by omega) (fun c i hc => by rw [xs_c hc, xs_c hc]; exact f4 c i hc) (fun i hi => ?_) (fun i h1 h2 => by rw [xs_j (by omega), xs_j (by omega)]; exact z4 i h1 h2)
          by_cases c : i = t
          · rw [c, xs_j (by omega), xs_s, xs_s]; exact ⟨rfl, rfl⟩
          · rw [xs_j (by omega), xs_j (by omega), xs_j (by omega), xs_j (by omega)]; exact l4 i (by omega)
      exact tl2 (β.1 0 1) 0 ν (by omega) (fun _ _ _ => rfl) (fun i hi => absurd hi (Nat.not_lt_zero i)) (fun i _ h2 => z3 i (by omega))
    | succ m ih =>
      intro j ν hj f3 z3
      refine sg_M_inn_25 ?_
      rw [if_pos (by omega), wb_eq (by omega) (by omega), Int.toNat_natCast, iw_k1 (by omega)]
      refine ih (j + 1) _ (by omega) (fun c i hc => by rw [xs_c hc]; exact f3 c i hc) (fun i hi => ?_)
      by_cases c : i = j
      · rw [c, xs_s]
      · rw [xs_j c]; exact z3 i (by omega)
  exact zl 27 0 _ rfl (fun _ _ _ => rfl) (fun i hi => absurd hi (Nat.not_lt_zero i))
