/-! the start -/
def lw_a0 : Al := (fun _ _ => 0, fun _ _ => 0)
def lw_m0 : Mem := fun c j => if c = 12 then (if j = 6 then -1 else 0) else 0
abbrev lw_ql (o1 o2 : Nat) (rX rM : Nat → Nat → Nat) : List Nat := [o1, rX 0 1, rX 0 2, rX 0 3, rX 0 0, rX 0 4, rX 0 5, rX 0 6, rX 0 7, rX 0 8, rX 0 9, rX 0 10, rX 0 11, rX 1 0, rX 1 1, rX 1 2, rX 2 0, rX 2 1, rX 2 2, rX 2 3, rX 2 4, rX 2 5, rX 2 6, rX 3 0, rX 3 1, rX 3 2, rX 3 3, rX 4 0, rX 4 1, rX 4 2, rX 4 3, rX 5 0, rX 5 1, rX 5 2, rX 5 3, rX 6 0, rX 6 1, rX 6 2, rX 7 0, rX 7 1, rX 7 2, rX 8 0, rX 20 0, rX 20 1, rX 20 2, rX 20 3, rX 20 4, rX 20 5, rX 20 6, rX 8 1, rX 8 2, rX 9 0, rX 9 1, rX 9 2, rX 9 3, rX 10 0, rX 10 1, rX 10 2, rX 10 3, rX 11 0, rX 11 1, o2, rM 0 0, rM 0 1, rM 0 2, rM 0 3, rM 0 4, rM 0 5, rM 0 6, rM 0 7, rM 0 8, rM 0 9, rM 0 10, rM 0 11, rM 0 12]
abbrev lw_q (o1 o2 : Nat) (rX rM : Nat → Nat → Nat) (kc : Nat → Nat) (fm : Value) : (Nat → Nat) × Value := (fun i => (lw_ql o1 o2 rX rM).getD i (kc i), fm)
def lw_px : List Nat := [0, 1, 5, 13, 18, 19, 24, 29, 33, 37, 48, 53, 58, 2, 3, 4, 6, 7, 8, 9, 10, 11, 12, 14, 15, 16, 17, 20, 21, 22, 23, 25, 26, 27, 28, 30, 31, 32, 34, 35, 36, 38, 39, 40, 41, 42, 43, 44, 45, 46, 47, 49, 50, 51, 52, 54, 55, 56, 57, 59, 60, 61, 62, 63, 64, 65, 66, 67, 68, 69, 70, 71, 72, 73, 74]
theorem lw_qk {o1 o2 : Nat} {rX rM : Nat → Nat → Nat} {kc : Nat → Nat} {fm : Value} {i : Nat} (h : 75 ≤ i) : (lw_q o1 o2 rX rM kc fm).1 i = kc i := by
  show (lw_ql o1 o2 rX rM).getD i (kc i) = kc i
  rw [List.getD_eq_getElem?_getD, List.getElem?_eq_none (by show 75 ≤ i; exact h)]
  rfl
set_option maxRecDepth 100000 in
set_option maxHeartbeats 4000000 in
theorem lw_cells (o1 o2 : Nat) (rX rM : Nat → Nat → Nat) (kc : Nat → Nat) (fm : Value) (tc : Nat → ClassId) : ∀ i : Nat, i < 75 → (wn_X tc o1 rX ++ wn_Model tc o2 rM)[lw_px.getD i 0]? = some ((lw_q o1 o2 rX rM kc fm).1 i, ax_cE (lw_q o1 o2 rX rM kc fm) tc lw_m0 i) := by
  intro i hi
  match i, hi with
  | 0, _ => rfl
  | 1, _ => rfl
  | 2, _ => rfl
  | 3, _ => rfl
  | 4, _ =>
    refine congrArg some (congrArg (fun f => ((rX 0 0, (.inl (tc 2, 2, .inr (.inr (.inr (.inr f)))) : va_E)))) (funext fun j => ?_))
    match j with
    | 0 => rfl
    | 1 => rfl
    | j + 2 => simp [va_up]
  | 5, _ => rfl
  | 6, _ => rfl
  | 7, _ => rfl
  | 8, _ => rfl
  | 9, _ => rfl
  | 10, _ => rfl
  | 11, _ => rfl
  | 12, _ => rfl
  | 13, _ => rfl
  | 14, _ => rfl
  | 15, _ => rfl
  | 16, _ => rfl
  | 17, _ => rfl
  | 18, _ => rfl
  | 19, _ => rfl
  | 20, _ => rfl
  | 21, _ => rfl
  | 22, _ => rfl
  | 23, _ => rfl
  | 24, _ => rfl
  | 25, _ => rfl
  | 26, _ => rfl
  | 27, _ => rfl
  | 28, _ => rfl
  | 29, _ => rfl
  | 30, _ => rfl
  | 31, _ => rfl
  | 32, _ => rfl
  | 33, _ => rfl
  | 34, _ => rfl
  | 35, _ => rfl
  | 36, _ => rfl
  | 37, _ => rfl
  | 38, _ => rfl
  | 39, _ => rfl
  | 40, _ => rfl
  | 41, _ =>
    refine congrArg some (congrArg (fun f => ((rX 8 0, (.inl (tc 3, 7, .inr (.inr (.inr (.inr f)))) : va_E)))) (funext fun j => ?_))
    match j with
    | 0 => rfl
    | 1 => rfl
    | 2 => rfl
    | 3 => rfl
    | 4 => rfl
    | 5 => rfl
    | 6 => rfl
    | j + 7 => rw [if_neg (show ¬ j + 7 < 7 by omega), if_neg (show ¬ j + 7 < 7 by omega)]
  | 42, _ => rfl
  | 43, _ => rfl
  | 44, _ => rfl
  | 45, _ => rfl
  | 46, _ => rfl
  | 47, _ => rfl
  | 48, _ => rfl
  | 49, _ => rfl
  | 50, _ => rfl
  | 51, _ => rfl
  | 52, _ => rfl
  | 53, _ => rfl
  | 54, _ => rfl
  | 55, _ => rfl
  | 56, _ => rfl
  | 57, _ => rfl
  | 58, _ => rfl
  | 59, _ => rfl
  | 60, _ => rfl
  | 61, _ => rfl
  | 62, _ => rfl
  | 63, _ => rfl
  | 64, _ => rfl
  | 65, _ => rfl
  | 66, _ => rfl
  | 67, _ => rfl
  | 68, _ => rfl
  | 69, _ => rfl
  | 70, _ => rfl
  | 71, _ => rfl
  | 72, _ => rfl
  | 73, _ => rfl
  | 74, _ => rfl
  | n + 75, h => exact absurd h (by omega)
theorem lw_pxi : ∀ i : Nat, i < 75 → ∀ j : Nat, j < 75 → lw_px.getD i 0 = lw_px.getD j 0 → i = j := by decide +kernel
theorem lw_wget {sd : Nat × Nat} {q : (Nat → Nat) × Value} {tc : Nat → ClassId} {μ : Mem} {k : Nat} {x : Nat × va_E} (h : (ax_wd sd q tc μ)[k]? = some x) : k < sd.2 ∧ x = (q.1 (sd.1 + k), ax_cE q tc μ (sd.1 + k)) := by
  have hk : k < sd.2 := by
    have := (List.getElem?_eq_some_iff.mp h).1
    unfold ax_wd at this
    rw [List.length_map, List.length_range] at this
    exact this
  have h2 := ax_wd_get (sd := sd) (q := q) (tc := tc) (μ := μ) (i := sd.1 + k) (by omega) (by omega)
  rw [show sd.1 + k - sd.1 = k by omega, h] at h2
  exact ⟨hk, Option.some.inj h2⟩
theorem lw_toP {sd : Nat × Nat} {q : (Nat → Nat) × Value} {tc : Nat → ClassId} {μ : Mem} {ws : va_W} {D : va_G} {H : Heap} (hsd : sd.1 + sd.2 ≤ 75) (h : ∀ i : Nat, i < 75 → ws[lw_px.getD i 0]? = some (q.1 i, ax_cE q tc μ i)) (hP : va_P D ax_cl ws H) : va_P D ax_cl (ax_wd sd q tc μ) H := fun k x hk => by
  obtain ⟨h1, rfl⟩ := lw_wget hk
  exact hP _ _ (h (sd.1 + k) (by omega))
theorem lw_inj {q : (Nat → Nat) × Value} {tc : Nat → ClassId} {μ : Mem} {ws : va_W} {A : Nat → Prop} (h : ∀ i : Nat, i < 75 → ws[lw_px.getD i 0]? = some (q.1 i, ax_cE q tc μ i)) (hD : va_D A ws) : ∀ i j : Nat, i < 75 → j < 75 → q.1 i = q.1 j → i = j := fun i j hi hj e => lw_pxi i hi j hj (hD.1 _ _ _ _ (h i hi) (h j hj) e)
theorem lw_toD {sd : Nat × Nat} {q : (Nat → Nat) × Value} {tc : Nat → ClassId} {μ : Mem} {ws : va_W} {A : Nat → Prop} (hsd : sd.1 + sd.2 ≤ 75) (h : ∀ i : Nat, i < 75 → ws[lw_px.getD i 0]? = some (q.1 i, ax_cE q tc μ i)) (hD : va_D A ws) : va_D A (ax_wd sd q tc μ) := ⟨fun i j x y hi hj e => by
  obtain ⟨h1, rfl⟩ := lw_wget hi
  obtain ⟨h2, rfl⟩ := lw_wget hj
  have := lw_inj h hD _ _ (show sd.1 + i < 75 by omega) (show sd.1 + j < 75 by omega) e
  omega, fun k x hk => by
  obtain ⟨h1, rfl⟩ := lw_wget hk
  exact hD.2 _ _ (h (sd.1 + k) (by omega))⟩
theorem lw_okm : ax_okm lw_m0 := by
  intro i j
  have h : lw_m0 i j = -1 ∨ lw_m0 i j = 0 := by
    unfold lw_m0
    by_cases h1 : i = 12
    · rw [if_pos h1]
      by_cases h2 : j = 6
      · rw [if_pos h2]; exact Or.inl rfl
      · rw [if_neg h2]; exact Or.inr rfl
    · rw [if_neg h1]; exact Or.inr rfl
  split
  · unfold ax_r64; omega
  · unfold ax_r32; omega
theorem lw_wf0 : wf lw_a0 := by
  unfold wf
  simp [lw_a0]
theorem lw_vX0 : vX lw_m0 lw_a0 := ⟨rfl, rfl, rfl, rfl, rfl, rfl, rfl, fun i h => absurd h (Nat.not_lt_zero i), fun i h => absurd h (Nat.not_lt_zero i), fun i h => absurd h (Nat.not_lt_zero i), fun i h => absurd h (Nat.not_lt_zero i), fun i h => absurd h (Nat.not_lt_zero i), fun i h => absurd h (Nat.not_lt_zero i), fun i h => absurd h (Nat.not_lt_zero i), fun i h => absurd h (Nat.not_lt_zero i), fun i h => absurd h (Nat.not_lt_zero i), fun i h => absurd h (Nat.not_lt_zero i), fun i h => absurd h (Nat.not_lt_zero i), fun i h => absurd h (Nat.not_lt_zero i), fun i h => absurd h (Nat.not_lt_zero i), rfl, fun i h => absurd h (Nat.not_lt_zero i), fun i h => absurd h (Nat.not_lt_zero i), ⟨0, by decide, rfl, fun k _ => by simp [lw_a0]⟩, fun h => absurd h (by decide), fun h => absurd h (by decide), fun h => absurd h (by decide), fun h => absurd h (by decide)⟩
theorem lw_vM0 : vM lw_m0 lw_a0 := ⟨rfl, rfl, rfl, rfl, rfl, rfl, rfl, fun i h => absurd h (Nat.not_lt_zero i), fun i h => absurd h (Nat.not_lt_zero i), fun i h => absurd h (Nat.not_lt_zero i), fun i h => absurd h (Nat.not_lt_zero i), fun i h => absurd h (Nat.not_lt_zero i), fun i h => absurd h (Nat.not_lt_zero i), fun i h => absurd h (Nat.not_lt_zero i), fun i h => absurd h (Nat.not_lt_zero i), fun i h => absurd h (Nat.not_lt_zero i), fun i h => absurd h (Nat.not_lt_zero i), fun i h => absurd h (Nat.not_lt_zero i), fun i h => absurd h (Nat.not_lt_zero i), fun i h => absurd h (Nat.not_lt_zero i), rfl, fun i h => absurd h (Nat.not_lt_zero i), fun i h => absurd h (Nat.not_lt_zero i), fun k _ => rfl, fun h => absurd h (by decide), fun h => absurd h (by decide), fun h => absurd h (by decide), fun h => absurd h (by decide)⟩
theorem lw_CI0 : CI lw_m0 lw_a0 := Or.inl rfl
