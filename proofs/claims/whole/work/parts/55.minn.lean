/-! the reference: the whole text read, its lines done -/
theorem tv_2 {α : Al} {f : Nat} : tv α f = -2 ↔ ¬ f < α.1 0 3 := by
  unfold tv
  by_cases c : f < α.1 0 3
  · rw [if_pos c]
    constructor
    · intro h
      repeat' split at h
      all_goals omega
    · intro h; exact absurd c h
  · rw [if_neg c]; exact ⟨fun _ => c, fun _ => rfl⟩
theorem tv_3 {α : Al} {f : Nat} : tv α f = -3 ↔ f < α.1 0 3 ∧ α.1 8 f = 59 := by
  unfold tv
  by_cases c : f < α.1 0 3
  · rw [if_pos c]
    by_cases c1 : isL (α.1 8 f) = true
    · rw [if_pos c1]
      have := isL_iff.1 c1
      constructor
      · intro h
        repeat' split at h
        all_goals omega
      · intro h; omega
    · rw [if_neg c1]
      by_cases c2 : isD (α.1 8 f) = true
      · rw [if_pos c2]
        have := isD_iff.1 c2
        constructor
        · intro h
          repeat' split at h
          all_goals omega
        · intro h; omega
      · rw [if_neg c2]
        by_cases c3 : α.1 8 f = 59
        · rw [if_pos c3]; exact ⟨fun _ => ⟨c, c3⟩, fun _ => rfl⟩
        · rw [if_neg c3]
          constructor
          · intro h; omega
          · intro h; exact absurd h.2 c3
  · rw [if_neg c]
    constructor
    · intro h; omega
    · intro h; exact absurd h.1 c
def fRd (μ μ' : Mem) : Prop := ∀ c j, (c ≠ 61 ∨ (j < 8 ∨ 17 < j)) → c ≠ 66 → μ' c j = μ c j
theorem fM_fRd {μ μ' : Mem} (h : fRd μ μ') : fM μ μ' := ⟨fun j hj => h 61 j (Or.inr (by
  simp only [Bool.or_eq_true, beq_iff_eq] at hj
  omega)) (by decide), fun c j h1 h2 h3 => h c j (Or.inl (by omega)) h3⟩
def lsM (μ : Mem) (ls : List (Nat × List Nat)) : Prop := ∀ k, k < ls.length → lnM μ k (ls.getD k (0, []))
theorem lnM_fr {μ ν : Mem} {k : Nat} {x : Nat × List Nat} (hx : x.2.length ≤ 4) (h : ∀ j, j < 5 → ν 66 (5 * k + j) = μ 66 (5 * k + j)) (g : lnM μ k x) : lnM ν k x := ⟨(h 0 (by decide)).trans g.1, fun j hj => by
  have hj4 : j < 4 := by split at hj <;> omega
  have := h (1 + j) (by omega)
  rw [← Nat.add_assoc] at this
  rw [this]
  exact g.2 j hj⟩
theorem bnd_len (w P T : Nat) : (bnd w P T).length ≤ 4 := by
  unfold bnd
  split <;> simp
theorem okL_len {s : St3} {x : Nat × List Nat} (h : okL s x) : x.2.length ≤ 4 := by rw [okN_len _ _ h.2.2]; exact bnd_len _ _ _
theorem grw_bd {w : Nat} {s : St3} (h : roomB w s = true) (h1 : s.1 ≤ 5) (h2 : s.2.1 ≤ 6) (h3 : s.2.2 ≤ 6) : (grw w s).1 ≤ 5 ∧ (grw w s).2.1 ≤ 6 ∧ (grw w s).2.2 ≤ 6 := by
  unfold roomB at h
  unfold grw
  by_cases c0 : w = 0
  · rw [if_pos c0]; exact ⟨Nat.zero_le _, Nat.zero_le _, Nat.zero_le _⟩
  rw [if_neg c0] at h ⊢
  by_cases c1 : w < 5
  · rw [if_pos c1] at h ⊢
    have := of_decide_eq_true h
    exact ⟨this, h2, h3⟩
  rw [if_neg c1] at h ⊢
  by_cases c2 : w < 9
  · rw [if_pos c2] at h ⊢
    have := of_decide_eq_true h
    exact ⟨h1, this, h3⟩
  rw [if_neg c2] at h ⊢
  by_cases c3 : w = 9
  · rw [if_pos c3] at h ⊢
    have := of_decide_eq_true h
    exact ⟨h1, h2, this⟩
  rw [if_neg c3]
  exact ⟨h1, h2, h3⟩
theorem rdg_s {α : Al} {k i : Nat} {s : St3} {acc : List (Nat × List Nat)} {x : (Nat × List Nat) × Nat} (e : pl α s i = .inr x) : rdg α (k + 1) s i acc = (if bl α x.2 < α.1 0 3 then (if α.1 8 (bl α x.2) = 59 then (if k = 0 then .inl (bl α x.2) else rdg α k (grw x.1.1 s) (te α (bl α x.2)) (acc ++ [x.1])) else .inl (bl α x.2)) else .inr (acc ++ [x.1])) := by
  rw [rdg, e]
theorem rdg_f {α : Al} {k i f : Nat} {s : St3} {acc : List (Nat × List Nat)} (e : pl α s i = .inl f) : rdg α (k + 1) s i acc = .inl f := by
  rw [rdg, e]
set_option maxRecDepth 20000 in
theorem M_read_st {d m i : Nat} {s : St3} {acc : List (Nat × List Nat)} {μ ν : Mem} {α : Al} {Q : AV → Mem → Prop} (ht : tM μ α) (h0 : ∀ f μ', RD α = .inl f → fRd μ μ' → μ' 61 13 = ((f : Nat) : Int) → Q (xI 0) μ') (h1 : ∀ ls μ', RD α = .inr ls → fRd μ μ' → μ' 61 14 = ((ls.length : Nat) : Int) → lsM μ' ls → Q (xI 1) μ') (hm : acc.length + (m + 1) = 14) (hi : i ≤ α.1 0 3) (b1 : s.1 ≤ 5) (b2 : s.2.1 ≤ 6) (b3 : s.2.2 ≤ 6) (hR : RD α = rdg α (m + 1) s i acc) (hf : fRd μ ν) (h8 : ν 61 8 = (i : Int)) (h14 : ν 61 14 = ((acc.length : Nat) : Int)) (hc : cnM ν s) (hls : lsM ν acc) (hl4 : ∀ k, k < acc.length → (acc.getD k (0, [])).2.length ≤ 4) (hn : ∀ (x : (Nat × List Nat) × Nat) (κ : Mem), okL s x.1 → x.2 ≤ α.1 0 3 → m ≠ 0 → RD α = rdg α m (grw x.1.1 s) (te α (bl α x.2)) (acc ++ [x.1]) → fRd μ κ → κ 61 8 = ((te α (bl α x.2) : Nat) : Int) → κ 61 14 = (((acc ++ [x.1]).length : Nat) : Int) → cnM κ (grw x.1.1 s) → lsM κ (acc ++ [x.1]) → DW (d + 5) 130 20 [xR 61, xI 1] κ Q) : DW (d + 5) 130 20 [xR 61, xI 1] ν Q := by
  have tν : tM ν α := tM_of (hf 61 6 (by decide) (by decide)) (fun j => hf 65 j (Or.inl (by decide)) (by decide)) ht
  have e5 : iw (5 * ((acc.length : Nat) : Int)) = ((5 * acc.length : Nat) : Int) := by rw [iw_id (by omega) (by omega)]; omega
  refine sg_M_isRead_20 ?_
  rw [if_neg (by decide), h14, e5]
  refine M_isLine_ok (P := s.1) (T := s.2.1) (N := s.2.2) tν hi h8 (by omega) b1 b2 b3 hc (fun f ef μ' f' e13 => ?_) (fun x ex m1 f1 q8 qc ql => ?_)
  · refine gI_mk ?_
    rw [if_pos rfl]
    exact h0 f μ' (by rw [hR]; exact rdg_f ef) (fun c j a1 a2 => (f' c j (by omega) (Or.inl a2)).trans (hf c j a1 a2)) e13
  refine gI_mk ?_
  have ex' : pl α s i = .inr x := ex
  obtain ⟨ok, hx2⟩ := pl_ok hi ex'
  have hx4 := okL_len ok
  have hR2 := hR.trans (rdg_s ex')
  have g14 : m1 61 14 = ((acc.length : Nat) : Int) := (f1 61 14 (by decide) (Or.inl (by decide))).trans h14
  rw [if_neg (by decide), g14, iw_k1 (by omega)]
  have fx : fRd μ (xset m1 61 14 ((acc.length + 1 : Nat) : Int)) := fun c j a1 a2 => by rw [xs_if, if_neg (by omega), f1 c j (by omega) (Or.inl a2)]; exact hf c j a1 a2
  refine M_next_tok (α := α) (i := x.2) (tM_of (by rw [xs_j (by decide)]; exact f1 61 6 (by decide) (Or.inl (by decide))) (fun j => by rw [xs_c (by decide)]; exact f1 65 j (Or.inl (by decide)) (Or.inl (by decide))) tν) hx2 (by rw [xs_j (by decide)]; exact q8) (fun m3 f3 e8 e9 e10 _ => ?_)
  refine gV_mk ?_
  have hb := bl_bd hx2
  have hte := te_bd hb.2
  have f3' : fRd μ m3 := fun c j a1 a2 => (f3 c j (by omega)).trans (fx c j a1 a2)
  have i14 : m3 61 14 = ((acc.length + 1 : Nat) : Int) := by rw [f3 61 14 (by decide), xs_s]
  have i66 : ∀ j, m3 66 j = m1 66 j := fun j => by rw [f3 66 j (Or.inl (by decide)), xs_c (by decide)]
  have el : (acc ++ [x.1]).length = acc.length + 1 := by rw [List.length_append]; rfl
  have ils : lsM m3 (acc ++ [x.1]) := fun k hk => by
    rw [el] at hk
    by_cases c : k = acc.length
    · rw [c, getD_e]
      exact lnM_fr hx4 (fun j _ => i66 _) ql
    · rw [getD_l (by omega)]
      refine lnM_fr (hl4 k (by omega)) (fun j hj => ?_) (hls k (by omega))
      rw [i66]
      exact f1 66 _ (Or.inl (by decide)) (by omega)
  have last : ∀ (q : tv α (bl α x.2) = -2 → RD α = .inr (acc ++ [x.1])) (q2 : tv α (bl α x.2) ≠ -2 → RD α = .inl (bl α x.2)), DW (d + 5) 130 20 [xR 61, xI 0] m3 Q := fun q q2 => by
    refine sg_M_isRead_20 ?_
    rw [if_pos rfl]
    refine sg_M_isRead_54 ?_
    refine wi (fun c => ?_) (fun c => ?_)
    · exact h1 _ m3 (q (by rw [← e10]; exact xcmp_e c)) f3' (by rw [i14, el]) ils
    · refine h0 _ _ (q2 (by rw [← e10]; exact xcmp_n c)) (fun c j a1 a2 => by rw [xs_if, if_neg (by omega)]; exact f3' c j a1 a2) (by rw [xs_s]; exact e9)
  refine wi (fun c => ?_) (fun c => ?_)
  · have c3 := tv_3.1 (e10.symm.trans (xcmp_e c))
    rw [if_pos c3.1, if_pos c3.2] at hR2
    rw [i14]
    refine wi (fun c4 => ?_) (fun c4 => ?_)
    · have hm0 : m ≠ 0 := by omega
      rw [if_neg hm0] at hR2
      refine hn x m3 ok hx2 hm0 hR2 f3' e8 (by rw [i14, el]) ⟨?_, ?_, ?_⟩ ils
      · rw [f3 61 15 (by decide), xs_j (by decide)]; exact qc.1
      · rw [f3 61 16 (by decide), xs_j (by decide)]; exact qc.2.1
      · rw [f3 61 17 (by decide), xs_j (by decide)]; exact qc.2.2
    · have hm0 : m = 0 := by omega
      rw [if_pos hm0] at hR2
      refine last (fun q => ?_) (fun _ => hR2)
      have := tv_2.1 q
      exact absurd c3.1 this
  · refine last (fun q => ?_) (fun q => ?_)
    · rw [if_neg (tv_2.1 q)] at hR2; exact hR2
    · have c1 : bl α x.2 < α.1 0 3 := by
        apply Decidable.byContradiction
        intro w
        exact q (tv_2.2 w)
      have c2 : ¬ α.1 8 (bl α x.2) = 59 := fun w => xcmp_n c (e10.trans (tv_3.2 ⟨c1, w⟩))
      rw [if_pos c1, if_neg c2] at hR2
      exact hR2
set_option maxRecDepth 20000 in
theorem M_read_go {d : Nat} {μ : Mem} {α : Al} {Q : AV → Mem → Prop} (ht : tM μ α) (h0 : ∀ f μ', RD α = .inl f → fRd μ μ' → μ' 61 13 = ((f : Nat) : Int) → Q (xI 0) μ') (h1 : ∀ ls μ', RD α = .inr ls → fRd μ μ' → μ' 61 14 = ((ls.length : Nat) : Int) → lsM μ' ls → Q (xI 1) μ') : ∀ (m i : Nat) (s : St3) (acc : List (Nat × List Nat)) (ν : Mem), acc.length + (m + 1) = 14 → i ≤ α.1 0 3 → s.1 ≤ 5 → s.2.1 ≤ 6 → s.2.2 ≤ 6 → RD α = rdg α (m + 1) s i acc → fRd μ ν → ν 61 8 = (i : Int) → ν 61 14 = ((acc.length : Nat) : Int) → cnM ν s → lsM ν acc → (∀ k, k < acc.length → (acc.getD k (0, [])).2.length ≤ 4) → DW (d + 5) 130 20 [xR 61, xI 1] ν Q := by
  intro m
  induction m with
  | zero =>
    intro i s acc ν hm hi b1 b2 b3 hR hf h8 h14 hc hls hl4
    exact M_read_st ht h0 h1 hm hi b1 b2 b3 hR hf h8 h14 hc hls hl4 (fun x κ _ _ q => absurd rfl q)
  | succ m ih =>
    intro i s acc ν hm hi b1 b2 b3 hR hf h8 h14 hc hls hl4
    refine M_read_st ht h0 h1 hm hi b1 b2 b3 hR hf h8 h14 hc hls hl4 (fun x κ ok hx2 _ hR' hf' h8' h14' hc' hls' => ?_)
    have hb := bl_bd hx2
    have hte := te_bd hb.2
    have gb := grw_bd ok.2.1 b1 b2 b3
    have el : (acc ++ [x.1]).length = acc.length + 1 := by rw [List.length_append]; rfl
    refine ih _ _ (acc ++ [x.1]) κ (by omega) hte.2 gb.1 gb.2.1 gb.2.2 hR' hf' h8' h14' hc' hls' (fun k hk => ?_)
    rw [el] at hk
    by_cases c : k = acc.length
    · rw [c, getD_e]; exact okL_len ok
    · rw [getD_l (by omega)]; exact hl4 k (by omega)
theorem tM_vM {μ : Mem} {α : Al} (hv : vM μ α) (hw : wf α) : tM μ α := ⟨vM_B hv, vM_text hv, wf_B hw⟩
theorem M_isRead_ok {d : Nat} {μ : Mem} {α : Al} {Q : AV → Mem → Prop} (hv : vM μ α) (hw : wf α) (h0 : ∀ f μ', RD α = .inl f → fRd μ μ' → μ' 61 13 = ((f : Nat) : Int) → Q (xI 0) μ') (h1 : ∀ ls μ', RD α = .inr ls → fRd μ μ' → μ' 61 14 = ((ls.length : Nat) : Int) → lsM μ' ls → Q (xI 1) μ') : GM (d + 5) 130 [xR 61] μ Q := by
  refine ge_M_isRead ?_
  refine M_read_go (tM_vM hv hw) h0 h1 13 0 (α.1 0 0, α.1 0 1, α.1 0 2) [] _ rfl (Nat.zero_le _) (wf_P hw) (wf_T hw) (wf_N hw) rfl (fun c j a1 a2 => ?_) ?_ ?_ ⟨?_, ?_, ?_⟩ (fun k hk => absurd hk (Nat.not_lt_zero k)) (fun k hk => absurd hk (Nat.not_lt_zero k))
  · rw [xs_if, if_neg (by omega), xs_if, if_neg (by omega), xs_if, if_neg (by omega), xs_if, if_neg (by omega), xs_if, if_neg (by omega)]
  · rw [xs_j (by decide), xs_j (by decide), xs_j (by decide), xs_j (by decide), xs_s]; rfl
  · rw [xs_j (by decide), xs_j (by decide), xs_j (by decide), xs_s]; rfl
  · rw [xs_j (by decide), xs_j (by decide), xs_s]; exact vM_P hv
  · rw [xs_j (by decide), xs_s]; exact vM_T hv
  · rw [xs_s]; exact vM_N hv
def r_fault (α : Al) : Int := match RD α with
  | .inl f => ((f : Nat) : Int)
  | .inr _ => -1
theorem r_fault_l {α : Al} {f : Nat} (e : RD α = .inl f) : r_fault α = ((f : Nat) : Int) := by unfold r_fault; rw [e]
theorem r_fault_r {α : Al} {ls : List (Nat × List Nat)} (e : RD α = .inr ls) : r_fault α = -1 := by unfold r_fault; rw [e]
theorem M_fault_ok {d : Nat} {μ : Mem} {α : Al} {Q : AV → Mem → Prop} (hv : vM μ α) (hw : wf α) (h : ∀ μ', vM μ' α → Q (xI (r_fault α)) μ') : GM (d + 6) 129 [xR 61] μ Q := by
  refine ge_M_fault ?_
  refine M_isRead_ok hv hw (fun f μ' e f' e13 => ?_) (fun ls μ' e f' _ _ => ?_)
  · refine gI_mk ?_
    rw [if_pos rfl, e13, ← r_fault_l e]
    exact h μ' (vM_fr (fM_fRd f') hv)
  · refine gI_mk ?_
    rw [if_neg (by decide), ← r_fault_r e]
    exact h μ' (vM_fr (fM_fRd f') hv)
