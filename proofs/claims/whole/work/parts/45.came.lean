/-! by how few changes arrangements came: rows, changed by two places -/
def swr (T r a b : Nat) : Nat := ro ((List.range T).map (swp a b (rv T r))) 0 0
theorem swr_ok {T r a b : Nat} (hT : T ≤ 6) (hr : r < fac T) (ha : a < T) (hb : b < T) : swr T r a b < fac T ∧ ∀ p, p < T → rv T (swr T r a b) p = swp a b (rv T r) p := by
  obtain ⟨r', h1, h2⟩ := row_of hT (swp_PI (rv_PI hT hr) ha hb)
  have e : swr T r a b = r' := by unfold swr; rw [← h2, rowL_ro hT h1]
  rw [e]
  exact ⟨h1, fun p hp => rv_of h2 hp⟩
theorem swr_inv {T r a b : Nat} (hT : T ≤ 6) (hr : r < fac T) (ha : a < T) (hb : b < T) : swr T (swr T r a b) a b = r := by
  have h1 := swr_ok hT hr ha hb
  have h2 := swr_ok hT h1.1 ha hb
  refine rv_inj hT h2.1 hr (fun p hp => ?_)
  rw [h2.2 p hp]
  show (if p = b then rv T (swr T r a b) a else if p = a then rv T (swr T r a b) b else rv T (swr T r a b) p) = rv T r p
  rw [h1.2 a ha, h1.2 b hb, h1.2 p hp]
  unfold swp
  by_cases c1 : p = b
  · rw [if_pos c1]
    by_cases c2 : a = b
    · rw [if_pos c2, c1, c2]
    · rw [if_neg c2, if_pos rfl, c1]
  · rw [if_neg c1]
    by_cases c2 : p = a
    · rw [if_pos c2, if_pos rfl, c2]
    · rw [if_neg c2, if_neg c1, if_neg c2]
def cst (α : Al) (n : Nat) (v : Nat → Nat) (r : Nat) : Nat → Nat → Nat → Nat := fun a b x => if sp_may α n a b then (if v (swr (α.1 0 1) r a b) < 99 then min x (v (swr (α.1 0 1) r a b) + 1) else x) else x
def cm (α : Al) : Nat → Nat → Nat
  | 0, r => if r = 0 then 0 else 99
  | n + 1, r => ga (α.1 0 1) (cst α n (cm α n) r) (α.1 0 1) (cm α n r)
theorem cst_le (α : Al) (n : Nat) (v : Nat → Nat) (r a b x : Nat) : cst α n v r a b x ≤ x := by
  unfold cst
  split
  · split
    · exact Nat.min_le_left _ _
    · exact Nat.le_refl _
  · exact Nat.le_refl _
theorem gb_le {T a : Nat} {f : Nat → Nat → Nat → Nat} (hd : ∀ a b x, f a b x ≤ x) : ∀ m v, gb T f a m v ≤ v
  | 0, _ => Nat.le_refl _
  | m + 1, v => Nat.le_trans (gb_le hd m _) (hd _ _ _)
theorem gb_hit {T a b0 c : Nat} {f : Nat → Nat → Nat → Nat} (hd : ∀ a b x, f a b x ≤ x) (hh : ∀ x, f a b0 x ≤ c) : ∀ m v, T - m ≤ b0 → b0 < T → gb T f a m v ≤ c
  | 0, _, h1, h2 => absurd h2 (by omega)
  | m + 1, v, h1, h2 => by
    rw [gb]
    by_cases e : T - (m + 1) = b0
    · rw [e]; exact Nat.le_trans (gb_le hd m _) (hh v)
    · exact gb_hit hd hh m _ (by omega) h2
theorem ga_le {T : Nat} {f : Nat → Nat → Nat → Nat} (hd : ∀ a b x, f a b x ≤ x) : ∀ m v, ga T f m v ≤ v
  | 0, _ => Nat.le_refl _
  | m + 1, v => Nat.le_trans (ga_le hd m _) (gb_le hd m v)
theorem ga_hit {T a0 b0 c : Nat} {f : Nat → Nat → Nat → Nat} (hd : ∀ a b x, f a b x ≤ x) (hh : ∀ x, f a0 b0 x ≤ c) (hab : a0 < b0) (hb : b0 < T) : ∀ m v, T - m ≤ a0 → ga T f m v ≤ c
  | 0, _, h1 => absurd h1 (by omega)
  | m + 1, v, h1 => by
    rw [ga]
    by_cases e : T - (m + 1) = a0
    · rw [e]; exact Nat.le_trans (ga_le hd m _) (gb_hit hd hh m v (by omega) hb)
    · exact ga_hit hd hh hab hb m _ (by omega)
/-- below v, and each value is v's or comes from a row by one change -/
def PS (α : Al) (n : Nat) (v w : Nat → Nat) (D : Nat) : Prop := (∀ r, r < fac (α.1 0 1) → w r ≤ v r) ∧ ∀ r, r < fac (α.1 0 1) → w r = v r ∨ ∃ r0 a b, r0 < fac (α.1 0 1) ∧ v r0 < 99 ∧ D ≤ v r0 ∧ a < b ∧ b < α.1 0 1 ∧ sp_may α n a b = true ∧ swr (α.1 0 1) r0 a b = r ∧ w r = v r0 + 1
/-- all changes of a row were done -/
def HT (α : Al) (n : Nat) (v w : Nat → Nat) (r : Nat) : Prop := ∀ a b, a < b → b < α.1 0 1 → sp_may α n a b = true → w (swr (α.1 0 1) r a b) ≤ v r + 1
def xStp (α : Al) (n : Nat) (v w : Nat → Nat) : Prop := PS α n v w 0 ∧ ∀ r, r < fac (α.1 0 1) → v r < 99 → HT α n v w r
theorem xStp_le {α : Al} {n : Nat} {v w1 w2 : Nat → Nat} (h1 : xStp α n v w1) (h2 : xStp α n v w2) : ∀ r, r < fac (α.1 0 1) → w2 r ≤ w1 r := by
  intro r hr
  rcases h1.1.2 r hr with e | ⟨r0, a, b, a1, a2, _, a4, a5, a6, a7, a8⟩
  · rw [e]; exact h2.1.1 r hr
  · rw [a8, ← a7]; exact h2.2 r0 a1 a2 a b a4 a5 a6
theorem xStp_uni {α : Al} {n : Nat} {v w1 w2 : Nat → Nat} (h1 : xStp α n v w1) (h2 : xStp α n v w2) : ∀ r, r < fac (α.1 0 1) → w1 r = w2 r := fun r hr => Nat.le_antisymm (xStp_le h2 h1 r hr) (xStp_le h1 h2 r hr)
theorem cm_xStp {α : Al} (hT : α.1 0 1 ≤ 6) (n : Nat) : xStp α n (cm α n) (cm α (n + 1)) := by
  refine ⟨⟨fun r _ => ga_le (cst_le α n (cm α n) r) _ _, fun r hr => ?_⟩, fun r hr hv a b hab hb hm => ?_⟩
  · refine ga_inv (P := fun x => x = cm α n r ∨ ∃ r0 a b, r0 < fac (α.1 0 1) ∧ cm α n r0 < 99 ∧ 0 ≤ cm α n r0 ∧ a < b ∧ b < α.1 0 1 ∧ sp_may α n a b = true ∧ swr (α.1 0 1) r0 a b = r ∧ x = cm α n r0 + 1) (fun a b x hab hb hx => ?_) _ _ (Nat.le_refl _) (Or.inl rfl)
    unfold cst
    by_cases c1 : sp_may α n a b = true
    · rw [if_pos c1]
      by_cases c2 : cm α n (swr (α.1 0 1) r a b) < 99
      · rw [if_pos c2]
        rcases Nat.le_total x (cm α n (swr (α.1 0 1) r a b) + 1) with h | h
        · rw [Nat.min_eq_left h]; exact hx
        · rw [Nat.min_eq_right h]
          exact Or.inr ⟨_, a, b, (swr_ok hT hr (by omega) hb).1, c2, Nat.zero_le _, hab, hb, c1, swr_inv hT hr (by omega) hb, rfl⟩
      · rw [if_neg c2]; exact hx
    · rw [if_neg c1]; exact hx
  · have h1 := (swr_ok hT hr (show a < α.1 0 1 by omega) hb).1
    refine ga_hit (a0 := a) (b0 := b) (cst_le α n (cm α n) _) (fun x => ?_) hab hb _ _ (by omega)
    unfold cst
    rw [if_pos hm, swr_inv hT hr (by omega) hb, if_pos hv]
    exact Nat.min_le_right _ _
def xup (w : Nat → Nat) (r' x : Nat) : Nat → Nat := fun r => if r = r' then min (w r') x else w r
theorem xup_le (w : Nat → Nat) (r' x r : Nat) : xup w r' x r ≤ w r := by
  unfold xup
  split
  · next e => rw [e]; exact Nat.min_le_left _ _
  · exact Nat.le_refl _
theorem xup_at (w : Nat → Nat) (r' x : Nat) : xup w r' x r' ≤ x := by
  unfold xup
  rw [if_pos rfl]; exact Nat.min_le_right _ _
theorem PS_xup {α : Al} {n D r0 a b : Nat} {v w : Nat → Nat} (h : PS α n v w D) (hr : r0 < fac (α.1 0 1)) (hv : v r0 < 99) (hD : D ≤ v r0) (hab : a < b) (hb : b < α.1 0 1) (hm : sp_may α n a b = true) : PS α n v (xup w (swr (α.1 0 1) r0 a b) (v r0 + 1)) D := by
  refine ⟨fun r hr' => Nat.le_trans (xup_le _ _ _ _) (h.1 r hr'), fun r hr' => ?_⟩
  unfold xup
  by_cases c : r = swr (α.1 0 1) r0 a b
  · rw [if_pos c, ← c]
    rcases Nat.le_total (w r) (v r0 + 1) with q | q
    · rw [Nat.min_eq_left q]; exact h.2 r hr'
    · rw [Nat.min_eq_right q]; exact Or.inr ⟨r0, a, b, hr, hv, hD, hab, hb, hm, c.symm, rfl⟩
  · rw [if_neg c]; exact h.2 r hr'
theorem PS_self (α : Al) (n D : Nat) (v : Nat → Nat) : PS α n v v D := ⟨fun _ _ => Nat.le_refl _, fun _ _ => Or.inl rfl⟩
theorem PS_down {α : Al} {n D D' : Nat} {v w : Nat → Nat} (h : PS α n v w D) (hD : D' ≤ D) : PS α n v w D' := ⟨h.1, fun r hr => by
  rcases h.2 r hr with e | ⟨r0, a, b, a1, a2, a3, a4⟩
  · exact Or.inl e
  · exact Or.inr ⟨r0, a, b, a1, a2, by omega, a4⟩⟩
theorem HT_le {α : Al} {n r : Nat} {v w w' : Nat → Nat} (h : HT α n v w r) (hw : ∀ r, w' r ≤ w r) : HT α n v w' r := fun a b h1 h2 h3 => Nat.le_trans (hw _) (h a b h1 h2 h3)
theorem cm_bd {α : Al} (hT : α.1 0 1 ≤ 6) : ∀ n r, r < fac (α.1 0 1) → cm α n r ≤ n ∨ cm α n r = 99
  | 0, r, _ => by
    show (if r = 0 then 0 else 99) ≤ 0 ∨ (if r = 0 then 0 else 99) = 99
    split
    · exact Or.inl (Nat.le_refl _)
    · exact Or.inr rfl
  | n + 1, r, hr => by
    rcases (cm_xStp hT n).1.2 r hr with e | ⟨r0, a, b, a1, a2, _, a4, a5, a6, a7, a8⟩
    · rw [e]
      rcases cm_bd hT n r hr with q | q
      · exact Or.inl (by omega)
      · exact Or.inr q
    · rcases cm_bd hT n r0 a1 with q | q
      · exact Or.inl (by omega)
      · omega
theorem row0_chk : ∀ T, T < 7 → rowL T 0 = List.range T := by decide +kernel
theorem rv_0 {T p : Nat} (hT : T ≤ 6) (hp : p < T) : rv T 0 p = p := by
  have e : rowL T 0 = (List.range T).map (fun i => i) := by rw [row0_chk T (by omega), List.map_id']
  exact rv_of e hp
theorem cm_law {α : Al} (hT : α.1 0 1 ≤ 6) : ∀ n r, r < fac (α.1 0 1) → cm α n r < 99 → lawB α (rv (α.1 0 1) r) = true
  | 0, r, _, h => by
    have h' : (if r = 0 then 0 else 99) < 99 := h
    by_cases c : r = 0
    · rw [c]
      exact lawB_iff.2 (fun p hp => by rw [rv_0 hT hp])
    · rw [if_neg c] at h'; omega
  | n + 1, r, hr, h => by
    rcases (cm_xStp hT n).1.2 r hr with e | ⟨r0, a, b, a1, a2, _, a4, a5, a6, a7, a8⟩
    · exact cm_law hT n r hr (by omega)
    · have h1 := cm_law hT n r0 a1 a2
      have h2 := swr_ok hT a1 (show a < α.1 0 1 by omega) a5
      rw [← a7, lawB_congr h2.2]
      exact swp_law h1 (by omega) a5 a6
/-! the answer -/
def cmF (α : Al) (n k : Nat) : Nat := cm α n ((FT α).getD k 0)
def cmL (α : Al) (n : Nat) : Nat → Nat
  | 0 => 99
  | k + 1 => if cmF α n k < cmL α n k then cmF α n k else cmL α n k
def cmN (α : Al) (n : Nat) (k : Nat) : Nat := sp_cnt (fun k => decide (cmF α n k < 99)) k
def r_came (α : Al) (w : Int) : Int := if w < 0 then -3 else if 1 < w then -3 else if cmN α (α.1 0 4) (FT α).length = 0 then -1 else if w = 0 then ((cmL α (α.1 0 4) (FT α).length : Nat) : Int) else ((cmN α (α.1 0 4) (FT α).length : Nat) : Int)
