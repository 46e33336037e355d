/-! the class: came, whole; what it keeps of it from call to call -/
def fCW (μ μ' : Mem) : Prop := ∀ c j, c ≠ 10 → c ≠ 12 → (c < 51 ∨ 54 < c) → c ≠ 59 → c ≠ 60 → μ' c j = μ c j
theorem vCm_fW {μ μ' : Mem} {α : Al} {n : Nat} (h : fW μ μ') (g : vCm μ α n) : vCm μ' α n := ⟨(h 12 6 (by decide) (by decide) (by decide) (by decide) (by decide)).trans g.1, ⟨(h 12 4 (by decide) (by decide) (by decide) (by decide) (by decide)).trans g.2.1.1, fun k hk => (h 59 k (by decide) (by decide) (by decide) (by decide) (by decide)).trans (g.2.1.2 k hk)⟩, fun j hj => (h 60 j (by decide) (by decide) (by decide) (by decide) (by decide)).trans (g.2.2 j hj)⟩
set_option maxRecDepth 20000 in
theorem X_cfind_ok {d : Nat} {μ : Mem} {α : Al} {Q : AV → Mem → Prop} (hv : vX μ α) (hw : wf α) (hCI : CI μ α) (h : ∀ (F : Nat) (μ' : Mem), fCW μ μ' → CI μ' α → μ' 12 8 = ((cmN α (α.1 0 4) (FT α).length : Nat) : Int) → μ' 12 7 = (F : Int) → (¬ cmN α (α.1 0 4) (FT α).length = 0 → F = cmL α (α.1 0 4) (FT α).length) → Q (xI 0) μ') : GM (d + 8) 114 [xR 12] μ Q := by
  have hT := wf_T hw
  have hN := wf_N hw
  have hPs := wf_Ps hw
  have hF := fac_le _ hT
  have kyz : ∀ (m n : Nat) (ν : Mem) (v1 : AV), n + m = α.1 0 4 → fC μ ν → vCm ν α n → DW (d + 3 + 5) 114 24 [xR 12, v1] ν Q := by
    intro m
    induction m with
    | zero =>
      intro n ν v1 hn hf hC
      have hvν := vX_fr (fX_fC hf) hv
      refine sg_Came_find_24 ?_
      rw [hC.1, vX_Ps hvν, if_neg (by omega)]
      refine sg_Came_find_40 ?_
      refine X_weigh_ok hvν hw (fun m1 f1 hv1 hG1 => ?_)
      refine gV_mk ?_
      have hC1 := vCm_fW f1 hC
      refine X_cend_ok hv1 hw (by omega) hG1.1 hC1 (fun F μ' f' e8 e7 hF' => ?_)
      rw [show n = α.1 0 4 by omega] at e8 hF'
      refine h F μ' (fun c j a1 a2 a3 a4 a5 => ?_) (Or.inr ⟨n, by omega, ⟨(f' 12 6 (by decide)).trans hC1.1, ⟨(f' 12 4 (by decide)).trans hC1.2.1.1, fun k hk => (f' 59 k (Or.inl (by decide))).trans (hC1.2.1.2 k hk)⟩, fun j hj => (f' 60 j (Or.inl (by decide))).trans (hC1.2.2 j hj)⟩⟩) e8 e7 hF'
      rw [f' c j (Or.inl a2), f1 c j a1 (by omega) (by omega) (by omega) (by omega)]
      exact hf c j a2 a4 a5
    | succ m ih =>
      intro n ν v1 hn hf hC
      have hvν := vX_fr (fX_fC hf) hv
      refine sg_Came_find_24 ?_
      rw [hC.1, vX_Ps hvν, if_pos (by omega)]
      refine X_goOn_ok hvν hw (by omega) hC.1 hC.2.1 hC.2.2 (fun m1 f1 hR1 => ?_)
      refine gV_mk ?_
      rw [f1 12 6 (by decide), hC.1, iw_k1 (by omega)]
      refine ih (n + 1) _ _ (by omega) (fun c j a1 a2 a3 => ?_) ⟨xs_s, ⟨?_, fun k hk => ?_⟩, fun j hj => ?_⟩
      · rw [xs_c a1, f1 c j a3]; exact hf c j a1 a2 a3
      · rw [xs_j (by decide)]; exact (f1 12 4 (by decide)).trans hC.2.1.1
      · rw [xs_c (by decide)]; exact (f1 59 k (by decide)).trans (hC.2.1.2 k hk)
      · rw [xs_c (by decide)]; exact hR1 j hj
  refine ge_Came_find ?_
  rcases hCI with e | ⟨n, hn, hC⟩
  · rw [if_pos e]
    have fv : fC μ (xset μ 12 4 0) := fun c j h1 _ _ => xs_c h1
    rw [show d + 3 + 4 = (d + (6 - α.1 0 1)) + α.1 0 1 + 1 by omega]
    refine X_list_ok hw (α.1 0 1) _ 0 0 0 [] (xset μ 12 4 0) _ (by omega) (vX_fr (fX_fC fv) hv) (by decide) (by decide) ⟨xs_s, fun k hk => absurd hk (Nat.not_lt_zero k)⟩ ?_ (fun m1 f1 hG1 => ?_)
    · have := List.countP_le_length (p := fitL (lk α) 0) (l := rws (α.1 0 1))
      rw [rws_len hT] at this
      show 0 + (rws (α.1 0 1)).countP (fitL (lk α) 0) ≤ 720
      omega
    · refine gV_mk ?_
      have hW1 := vWy_of hw hG1
      have g1 : fC μ m1 := fun c j a1 a2 a3 => (f1 c j (Or.inl a1) a2).trans (xs_c a1)
      have e6 : m1 12 6 = -1 := by rw [f1 12 6 (by decide) (by decide), xs_j (by decide)]; exact e
      rw [if_pos e6]
      refine X_home_ok hw hW1 (fun m2 f2 hC2 => ?_)
      refine gV_mk ?_
      exact kyz (α.1 0 4) 0 m2 _ (by omega) (fC_t g1 f2) hC2
  · rw [hC.1, if_neg (by omega), if_neg (by omega), vX_Ps hv]
    refine wi (fun c => ?_) (fun c => ?_)
    · refine X_home_ok hw hC.2.1 (fun m2 f2 hC2 => ?_)
      refine gV_mk ?_
      exact kyz (α.1 0 4) 0 m2 _ (by omega) f2 hC2
    · exact kyz (α.1 0 4 - n) n μ _ (by omega) (fC_refl μ) hC
theorem X_came_ok {d : Nat} {w : Int} {μ : Mem} {α : Al} {Q : AV → Mem → Prop} (hv : vX μ α) (hw : wf α) (hCI : CI μ α) (h : ∀ μ', fCW μ μ' → CI μ' α → Q (xI (r_came α w)) μ') : GM (d + 9) 113 [xR 0, xI w] μ Q := by
  refine ge_X_came ?_
  unfold r_came at h
  refine wi (fun c => ?_) (fun c => ?_)
  · rw [if_pos c] at h; exact h μ (fun _ _ _ _ _ _ _ => rfl) hCI
  rw [if_neg c] at h
  refine wi (fun c => ?_) (fun c => ?_)
  · rw [if_pos c] at h; exact h μ (fun _ _ _ _ _ _ _ => rfl) hCI
  rw [if_neg c] at h
  refine X_cfind_ok hv hw hCI (fun F μ' f' hCI' e8 e7 hF => ?_)
  refine gV_mk ?_
  rw [e8, e7]
  refine wi (fun c0 => ?_) (fun c0 => ?_)
  · rw [if_pos (by omega)] at h; exact h μ' f' hCI'
  · rw [if_neg (by omega)] at h
    refine wi (fun c1 => ?_) (fun c1 => ?_)
    · rw [if_pos c1, ← hF (by omega)] at h; exact h μ' f' hCI'
    · rw [if_neg c1] at h; exact h μ' f' hCI'
/-! what was told is the same -/
def sT (α β : Al) : Prop := β.1 0 1 = α.1 0 1 ∧ β.1 0 2 = α.1 0 2 ∧ β.1 1 = α.1 1 ∧ β.1 3 = α.1 3 ∧ β.1 4 = α.1 4 ∧ β.1 7 = α.1 7
theorem sT_refl (α : Al) : sT α α := ⟨rfl, rfl, rfl, rfl, rfl, rfl⟩
theorem sT_may {α β : Al} (h : sT α β) (n a b : Nat) : sp_may β n a b = sp_may α n a b := by
  obtain ⟨_, _, h3, h4, h5, h6⟩ := h
  unfold sp_may sp_open
  rw [h3, h4, h5, h6]
theorem sT_cm {α β : Al} (h : sT α β) : ∀ n, cm β n = cm α n
  | 0 => rfl
  | n + 1 => by
    have ih := sT_cm h n
    funext r
    rw [cm, cm, ih, h.1]
    have e : cst β n (cm α n) r = cst α n (cm α n) r := by
      funext a b x
      unfold cst
      rw [sT_may h, h.1]
    rw [e]
theorem sT_LW {α β : Al} (h : sT α β) : LW β = LW α := by
  unfold LW lawB
  rw [h.1, h.2.2.2.1]
theorem sT_wy {α β : Al} (h : sT α β) (k : Nat) : wy β k = wy α k := by
  unfold wy
  rw [sT_LW h, h.1]
theorem CI_sT {α β : Al} {μ μ' : Mem} (h : sT α β) (h1 : ∀ j, μ' 12 j = μ 12 j) (h2 : ∀ j, μ' 59 j = μ 59 j) (h3 : ∀ j, μ' 60 j = μ 60 j) (g : CI μ α) : CI μ' β := by
  rcases g with g | ⟨n, g1, g2, ⟨g3, g4⟩, g5⟩
  · exact Or.inl ((h1 6).trans g)
  · refine Or.inr ⟨n, by rw [h.2.1]; exact g1, (h1 6).trans g2, ⟨?_, fun k hk => ?_⟩, fun j hj => ?_⟩
    · rw [h1 4, sT_LW h]; exact g3
    · rw [sT_LW h] at hk; rw [h2 k, sT_wy h]; exact g4 k hk
    · rw [sT_LW h] at hj; rw [h3 j, sT_LW h, sT_cm h]; exact g5 j hj
theorem sT_write (α : Al) (c : Int) : sT α (t_write α c) := by
  unfold t_write
  repeat' split
  · exact sT_refl α
  · exact sT_refl α
  · exact sT_refl α
  · exact ⟨rfl, rfl, rfl, rfl, rfl, rfl⟩
theorem sT_erase (α : Al) : sT α (st_erase α) := ⟨rfl, rfl, rfl, rfl, rfl, rfl⟩
theorem sT_forget (α : Al) : sT α (st_forget α) := ⟨rfl, rfl, rfl, rfl, rfl, rfl⟩
theorem sT_seen (α : Al) (p w v : Int) : sT α (t_seen α p w v) := by
  unfold t_seen
  repeat' split
  all_goals first | exact sT_refl α | exact ⟨rfl, rfl, rfl, rfl, rfl, rfl⟩
theorem sT_pass (α : Al) (a b : Int) : sT α (t_pass α a b) := by
  unfold t_pass
  repeat' split
  all_goals first | exact sT_refl α | exact ⟨rfl, rfl, rfl, rfl, rfl, rfl⟩
theorem sT_say (α : Al) (p w : Int) : sT α (t_say α p w) := by
  unfold t_say t_hear
  repeat' split
  all_goals first | exact sT_refl α | exact ⟨rfl, rfl, rfl, rfl, rfl, rfl⟩
theorem sT_keep (α : Al) (k : Int) : sT α (t_keep α k) := by
  unfold t_keep
  repeat' split
  all_goals first | exact sT_refl α | exact ⟨rfl, rfl, rfl, rfl, rfl, rfl⟩
theorem sT_back (α : Al) (k : Int) : sT α (t_back α k) := by
  unfold t_back
  repeat' split
  all_goals first | exact sT_refl α | exact ⟨rfl, rfl, rfl, rfl, rfl, rfl⟩
