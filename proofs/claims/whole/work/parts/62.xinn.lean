/-! the class: inn -/
theorem vX_begin {μ : Mem} {β : Al} (hu : uX μ β) (h11 : μ 1 1 = 0) (h70 : μ 7 0 = 0) (h3 : μ 3 1 = 0 ∧ μ 3 2 = 0 ∧ μ 3 3 = 0) (h04 : μ 0 4 = 0) (hl : ∀ i : Nat, i < 6 → μ 23 i = (i : Int) ∧ μ 24 i = 0 ∧ μ 25 i = μ 20 i ∧ μ 26 i = 0) (hT : β.1 0 1 ≤ 6) : vX μ (st_begin β) := by
  obtain ⟨u1, u2, u3, u4, u5, u6⟩ := hu
  have l : ∀ i : Nat, i < β.1 0 1 → μ 23 i = (i : Int) ∧ μ 24 i = 0 ∧ μ 25 i = μ 20 i ∧ μ 26 i = 0 := fun i hi => hl i (by omega)
  exact ⟨u1, u2, u3, h11, h3.1, h3.2.2, h70, u4, fun i hi => (u5 i hi).1, fun i hi => (u5 i hi).2.1, fun i hi => (u5 i hi).2.2.1, fun i hi => (u5 i hi).2.2.2.1, fun i hi => (u5 i hi).2.2.2.2, u6, fun i hi => absurd hi (Nat.not_lt_zero i), fun i hi => (l i hi).1, fun i hi => (l i hi).2.2.1.trans (u5 i hi).2.2.2.2, fun i hi => absurd hi (Nat.not_lt_zero i), fun i hi => absurd hi (Nat.not_lt_zero i), fun i hi => absurd hi (Nat.not_lt_zero i), h3.2.1, fun i hi => (l i hi).2.2.2, fun i hi => (l i hi).2.1, ⟨0, by decide, h04, fun k _ => ⟨fun e => absurd e (by rw [Nat.zero_testBit]; decide), fun e => absurd e (show ¬ (0 : Nat) = 1 by decide)⟩⟩, fun e => absurd e (show ¬ (0 : Nat) = 1 by decide), fun e => absurd e (show ¬ (0 : Nat) = 1 by decide), fun e => absurd e (show ¬ (0 : Nat) = 1 by decide), fun e => absurd e (show ¬ (0 : Nat) = 1 by decide)⟩
theorem X_begin_ok {d : Nat} {μ : Mem} {Q : AV → Mem → Prop} (h : ∀ μ', (∀ c j, c ≠ 3 → (c < 23 ∨ 26 < c) → μ' c j = μ c j) → (μ' 3 1 = 0 ∧ μ' 3 2 = 0 ∧ μ' 3 3 = 0) → (∀ i : Nat, i < 6 → μ' 23 i = (i : Int) ∧ μ' 24 i = 0 ∧ μ' 25 i = μ' 20 i ∧ μ' 26 i = 0) → Q (xI 0) μ') : GM d 39 [xR 3] μ Q := by
  refine ge_Now_begin ?_
  have kyz : ∀ (m i : Nat) (ν : Mem), i + m = 6 → (∀ c j, c ≠ 3 → (c < 23 ∨ 26 < c) → ν c j = μ c j) → (ν 3 1 = 0 ∧ ν 3 2 = 0 ∧ ν 3 3 = 0) → (∀ j : Nat, j < i → ν 23 j = (j : Int) ∧ ν 24 j = 0 ∧ ν 25 j = ν 20 j ∧ ν 26 j = 0) → DW d 39 11 [xR 3, xI (i : Int)] ν Q := by
    intro m
    induction m with
    | zero =>
      intro i ν hi f1 z1 l1
      refine sg_Now_begin_11 ?_
      rw [if_neg (by omega)]
      exact h ν f1 z1 (fun j hj => l1 j (by omega))
    | succ m ih =>
      intro i ν hi f1 z1 l1
      refine sg_Now_begin_11 ?_
      rw [if_pos (by omega), wb_eq (by omega) (by omega), wb_eq (by omega) (by omega), wb_eq (by omega) (by omega), wb_eq (by omega) (by omega), wb_eq (by omega) (by omega), Int.toNat_natCast, iw_k1 (by omega)]
      refine ih (i + 1) _ (by omega) (fun c j a1 a2 => by rw [xs_c (by omega), xs_c (by omega), xs_c (by omega), xs_c (by omega)]; exact f1 c j a1 a2) ?_ (fun j hj => ?_)
      · rw [xs_c (by decide), xs_c (by decide), xs_c (by decide), xs_c (by decide), xs_c (by decide), xs_c (by decide), xs_c (by decide), xs_c (by decide), xs_c (by decide), xs_c (by decide), xs_c (by decide), xs_c (by decide)]; exact z1
      · by_cases e : j = i
        · rw [e]
          refine ⟨?_, ?_, ?_, ?_⟩
          · rw [xs_c (by decide), xs_c (by decide), xs_c (by decide), xs_s]
          · rw [xs_c (by decide), xs_c (by decide), xs_s]
          · rw [xs_c (by decide), xs_s, xs_c (by decide), xs_c (by decide), xs_c (by decide), xs_c (by decide)]
          · rw [xs_s]
        · obtain ⟨b1, b2, b3, b4⟩ := l1 j (by omega)
          refine ⟨?_, ?_, ?_, ?_⟩
          · rw [xs_j e, xs_j e, xs_j e, xs_j e]; exact b1
          · rw [xs_j e, xs_j e, xs_j e, xs_j e]; exact b2
          · rw [xs_j e, xs_j e, xs_j e, xs_j e, xs_j e, xs_j e, xs_j e, xs_j e]; exact b3
          · rw [xs_j e, xs_j e, xs_j e, xs_j e]; exact b4
  refine kyz 6 0 _ rfl (fun c j a1 a2 => by rw [xs_c a1, xs_c a1, xs_c a1]) ⟨?_, ?_, xs_s⟩ (fun j hj => absurd hj (Nat.not_lt_zero j))
  · rw [xs_j (by decide), xs_j (by decide), xs_s]
  · rw [xs_j (by decide), xs_s]
theorem fDX_t {μ ν κ : Mem} (h : fDX μ ν) (g : fDX ν κ) : fDX μ κ := fun c j a b => (g c j a b).trans (h c j a b)
theorem X_dols {d : Nat} {ls : List (Nat × List Nat)} {Q : AV → Mem → Prop} (hlen : ls.length ≤ 14) : ∀ (ls' pre : List (Nat × List Nat)) (β : Al) (ν : Mem), pre ++ ls' = ls → uX ν β → uw β → okLs (sOf β) ls' → lsX ν ls → ν 1 4 = ((ls.length : Nat) : Int) → (∀ κ x, fDX ν κ → uX κ (ls'.foldl dl β) → DW (d + 7) 26 32 [xR 0, xI x] κ Q) → DW (d + 7) 26 18 [xR 0, xI ((pre.length : Nat) : Int)] ν Q := by
  intro ls'
  induction ls' with
  | nil =>
    intro pre β ν e hu hw hk hl h4 h
    rw [List.append_nil] at e
    refine sg_X_inn_18 ?_
    rw [h4, e, if_neg (by omega)]
    exact h ν _ (fun _ _ _ _ => rfl) hu
  | cons x ls' ih =>
    intro pre β ν e hu hw hk hl h4 h
    have hlen2 : pre.length + (ls'.length + 1) = ls.length := by rw [← e, List.length_append, List.length_cons]
    have hx : ls.getD pre.length (0, []) = x := by
      rw [← e, List.getD_eq_getElem?_getD, List.getElem?_append_right (Nat.le_refl _), Nat.sub_self]
      rfl
    have hln := hl pre.length (by omega)
    rw [hx] at hln
    refine sg_X_inn_18 ?_
    rw [h4, if_pos (by omega), iw_k1 (by omega)]
    refine X_doLine_ok hu hw hk.1 hln (by omega) (fun κ fκ uκ => ?_)
    refine gV_mk ?_
    have ihh := ih (pre ++ [x]) (dl β x) κ (by rw [List.append_assoc]; exact e) uκ (uw_dl hw hk.1) (by rw [dl_s]; exact hk.2) (fun k hk2 => lnX_fr (fun j => fκ 14 j (by decide) (by decide)) (fun j => fκ 15 j (by decide) (by decide)) (hl k hk2)) ((fκ 1 4 (by decide) (by decide)).trans h4) (fun κ2 x2 f2 u2 => h κ2 x2 (fDX_t fκ f2) u2)
    rw [List.length_append, List.length_singleton] at ihh
    exact ihh
theorem X_inn_ok {d : Nat} {μ : Mem} {α : Al} {Q : AV → Mem → Prop} (hv : vX μ α) (hw : wf α) (hCI : CI μ α) (h : ∀ μ', vX μ' (t_inn α) → CI μ' (t_inn α) → Q (xI (r_inn α)) μ') : GM (d + 7) 26 [xR 0] μ Q := by
  refine ge_X_inn ?_
  refine X_read_ok hv hw (fun f μ' e f' => ?_) (fun ls m1 e f1 h4 hl => ?_)
  · refine gI_mk ?_
    rw [if_neg (by omega)]
    rw [(inn_l e).1, (inn_l e).2] at h
    exact h μ' (vX_fr (fX_fXR f') hv) (CI_sT (sT_refl α) (fun j => f' 12 j (Or.inl (by decide)) (by decide) (by decide)) (fun j => f' 59 j (Or.inl (by decide)) (by decide) (by decide)) (fun j => f' 60 j (Or.inl (by decide)) (by decide) (by decide)) hCI)
  refine gI_mk ?_
  rw [if_pos rfl]
  rw [(inn_r e).1, (inn_r e).2] at h
  obtain ⟨ls', q1, q2, q3⟩ := rdg_ok 14 (sOf α) 0 [] ls (Nat.zero_le _) e
  rw [List.nil_append] at q1
  subst q1
  have hv1 := vX_fr (fX_fXR f1) hv
  refine X_dols (ls := ls) q3 ls [] α m1 rfl (uX_vX hv1) (uw_wf hw) q2 hl h4 (fun m2 x2 f2 hu2 => ?_)
  have hwβ := uw_fold ls α (uw_wf hw) q2
  generalize hβ : ls.foldl dl α = β at hu2 hwβ h
  have hT := hwβ.2.1
  have h4' : m2 1 4 = ((ls.length : Nat) : Int) := (f2 1 4 (by decide) (by decide)).trans h4
  refine sg_X_inn_32 ?_
  refine X_begin_ok (fun m3 f3 z3 l3 => ?_)
  refine gV_mk ?_
  have e14 : m3 1 4 = ((ls.length : Nat) : Int) := by rw [f3 1 4 (by decide) (by decide), xs_j (by decide)]; exact h4'
  rw [e14]
  obtain ⟨u1, u2, u3, u4, u5, u6⟩ := hu2
  have fr : ∀ c i, 1 < c → c < 23 → c ≠ 3 → c ≠ 7 → c ≠ 12 → xset (xset (xset m3 7 0 0) 0 4 0) 12 6 (-1) c i = m2 c i := fun c i a1 a2 a3 a4 a5 => by
    rw [xs_c a5, xs_c (by omega), xs_c a4, f3 c i a3 (by omega), xs_c (by omega)]
  refine h _ (vX_begin ⟨?_, ?_, ?_, fun i hi => ?_, fun i hi => ?_, fun i hi => ?_⟩ ?_ ?_ ?_ ?_ (fun i hi => ?_) hT) (Or.inl xs_s)
  · rw [fr 2 0 (by decide) (by decide) (by decide) (by decide) (by decide)]; exact u1
  · rw [fr 2 1 (by decide) (by decide) (by decide) (by decide) (by decide)]; exact u2
  · rw [fr 2 2 (by decide) (by decide) (by decide) (by decide) (by decide)]; exact u3
  · rw [fr 16 i (by decide) (by decide) (by decide) (by decide) (by decide)]; exact u4 i hi
  · rw [fr 17 i (by decide) (by decide) (by decide) (by decide) (by decide), fr 18 i (by decide) (by decide) (by decide) (by decide) (by decide), fr 21 i (by decide) (by decide) (by decide) (by decide) (by decide), fr 19 i (by decide) (by decide) (by decide) (by decide) (by decide), fr 20 i (by decide) (by decide) (by decide) (by decide) (by decide)]; exact u5 i hi
  · rw [fr 22 i (by decide) (by decide) (by decide) (by decide) (by decide)]; exact u6 i hi
  · rw [xs_c (by decide), xs_c (by decide), xs_c (by decide), f3 1 1 (by decide) (by decide), xs_s]
  · rw [xs_c (by decide), xs_c (by decide), xs_s]
  · rw [xs_c (by decide), xs_c (by decide), xs_c (by decide), xs_c (by decide), xs_c (by decide), xs_c (by decide), xs_c (by decide), xs_c (by decide), xs_c (by decide)]; exact z3
  · rw [xs_c (by decide), xs_s]
  · have := l3 i hi
    rw [xs_c (by decide), xs_c (by decide), xs_c (by decide), xs_c (by decide), xs_c (by decide), xs_c (by decide), xs_c (by decide), xs_c (by decide), xs_c (by decide), xs_c (by decide), xs_c (by decide), xs_c (by decide), xs_c (by decide), xs_c (by decide), xs_c (by decide)]
    exact this
