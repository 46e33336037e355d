/-! the host's best plan -/
def gb {σ : Type} (T : Nat) (f : Nat → Nat → σ → σ) (a : Nat) : Nat → σ → σ
  | 0, v => v
  | m + 1, v => gb T f a m (f a (T - (m + 1)) v)
def ga {σ : Type} (T : Nat) (f : Nat → Nat → σ → σ) : Nat → σ → σ
  | 0, v => v
  | m + 1, v => ga T f m (gb T f (T - (m + 1)) m v)
theorem gb_inv {σ : Type} {T a : Nat} {f : Nat → Nat → σ → σ} {P : σ → Prop} (hs : ∀ b v, a < b → b < T → P v → P (f a b v)) : ∀ m v, a + m < T → P v → P (gb T f a m v)
  | 0, _, _, h => h
  | m + 1, v, hm, h => gb_inv hs m _ (by omega) (hs _ v (by omega) (by omega) h)
theorem ga_inv {σ : Type} {T : Nat} {f : Nat → Nat → σ → σ} {P : σ → Prop} (hs : ∀ a b v, a < b → b < T → P v → P (f a b v)) : ∀ m v, m ≤ T → P v → P (ga T f m v)
  | 0, _, _, h => h
  | m + 1, v, hm, h => ga_inv hs m _ (by omega) (gb_inv (hs (T - (m + 1))) m v (by omega) h)
def swp (a b : Nat) (f : Nat → Nat) : Nat → Nat := fun i => if i = b then f a else if i = a then f b else f i
theorem swp_PI {T a b : Nat} {f : Nat → Nat} (h : PI T f) (ha : a < T) (hb : b < T) : PI T (swp a b f) := by
  refine ⟨fun i hi => ?_, fun i j hi hj e => ?_⟩
  · unfold swp
    split
    · exact h.1 a ha
    · split
      · exact h.1 b hb
      · exact h.1 i hi
  · unfold swp at e
    split at e
    · split at e
      · omega
      · split at e
        · have := h.2 a b ha hb e; omega
        · have := h.2 a j ha hj e; omega
    · split at e
      · split at e
        · have := h.2 b a hb ha e; omega
        · split at e
          · omega
          · have := h.2 b j hb hj e; omega
      · split at e
        · have := h.2 i a hi ha e; omega
        · split at e
          · have := h.2 i b hi hb e; omega
          · exact h.2 i j hi hj e
theorem lawB_iff {α : Al} {f : Nat → Nat} : lawB α f = true ↔ ∀ p, p < α.1 0 1 → α.1 3 p = α.1 3 (f p) := by
  unfold lawB
  rw [sp_all_iff]
  constructor
  · intro h p hp; exact beq_iff_eq.1 (h p hp)
  · intro h p hp; exact beq_iff_eq.2 (h p hp)
theorem lawB_congr {α : Al} {f g : Nat → Nat} (h : ∀ p, p < α.1 0 1 → f p = g p) : lawB α f = lawB α g := by
  rw [Bool.eq_iff_iff, lawB_iff, lawB_iff]
  constructor
  · intro q p hp; rw [← h p hp]; exact q p hp
  · intro q p hp; rw [h p hp]; exact q p hp
theorem swp_law {α : Al} {a b n : Nat} {f : Nat → Nat} (h : lawB α f = true) (ha : a < α.1 0 1) (hb : b < α.1 0 1) (hm : sp_may α n a b = true) : lawB α (swp a b f) = true := by
  have hl : α.1 3 a = α.1 3 b := by
    unfold sp_may at hm
    simp only [Bool.and_eq_true, beq_iff_eq] at hm
    exact hm.1.1
  rw [lawB_iff] at h ⊢
  intro p hp
  unfold swp
  split
  · next e => rw [e, ← hl]; exact h a ha
  · split
    · next e => rw [e, hl]; exact h b hb
    · exact h p hp
def exc (s a b : Nat) : Nat := if s.testBit a = s.testBit b then s else s ^^^ (2 ^ a ||| 2 ^ b)
theorem exc_chk : ∀ s, s < 64 → ∀ a, a < 6 → ∀ b, b < 6 → exc s a b < 64 ∧ pop (exc s a b) = pop s ∧ ∀ i, i < 6 → (exc s a b).testBit i = if i = b then s.testBit a else if i = a then s.testBit b else s.testBit i := by decide +kernel
theorem x_exc : ∀ s, s < 64 → ∀ a, a < 6 → ∀ b, b < 6 → xxor ((s : Nat) : Int) (xior (xshl (xand (xxor (xshr ((s : Nat) : Int) ((a : Nat) : Int)) (xshr ((s : Nat) : Int) ((b : Nat) : Int))) 1) ((a : Nat) : Int)) (xshl (xand (xxor (xshr ((s : Nat) : Int) ((a : Nat) : Int)) (xshr ((s : Nat) : Int) ((b : Nat) : Int))) 1) ((b : Nat) : Int))) = ((exc s a b : Nat) : Int) := by decide +kernel
def csF (α : Al) (f : Nat → Nat) : Nat := sp_bits (fun p => decide (0 < α.1 2 (f p))) (α.1 0 1)
def hostB (α : Al) : Nat := sp_bits (fun p => α.1 1 (α.1 4 p) == 3) (α.1 0 1)
theorem csF_congr {α : Al} {f g : Nat → Nat} (h : ∀ p, p < α.1 0 1 → f p = g p) : csF α f = csF α g := sp_bits_ext (fun i hi => by rw [h i hi])
theorem tb_64 {x i : Nat} (hx : x < 64) (hi : 6 ≤ i) : x.testBit i = false := Nat.testBit_lt_two_pow (Nat.lt_of_lt_of_le hx (Nat.pow_le_pow_right (n := 2) (i := 6) (by decide) hi))
theorem cs_swp {α : Al} (hT : α.1 0 1 ≤ 6) {a b : Nat} {f : Nat → Nat} (ha : a < α.1 0 1) (hb : b < α.1 0 1) : csF α (swp a b f) = exc (csF α f) a b := by
  have h64 : csF α f < 64 := sp_bits64 _ hT
  have hx := exc_chk _ h64 a (by omega) b (by omega)
  apply Nat.eq_of_testBit_eq
  intro i
  by_cases c : i < 6
  · rw [hx.2.2 i c]
    unfold csF
    rw [sp_bits_tb, sp_bits_tb, sp_bits_tb, sp_bits_tb]
    unfold swp
    by_cases c1 : i = b
    · rw [if_pos c1, if_pos c1, c1, decide_eq_true hb, decide_eq_true ha]
    · rw [if_neg c1, if_neg c1]
      by_cases c2 : i = a
      · rw [if_pos c2, if_pos c2, c2, decide_eq_true hb, decide_eq_true ha]
      · rw [if_neg c2, if_neg c2]
  · have q1 : csF α (swp a b f) < 64 := sp_bits64 _ hT
    rw [tb_64 q1 (by omega), tb_64 hx.1 (by omega)]
def stp (α : Al) (n : Nat) (P : Nat → Int) (s : Nat) : Nat → Nat → Int → Int := fun a b v => if sp_may α n a b then max v (P (exc s a b) - 1) else v
def pb (α : Al) : Nat → Nat → Int
  | 0, s => ((16 * pop (s &&& hostB α) : Nat) : Int)
  | k + 1, s => ga (α.1 0 1) (stp α (α.1 0 2 - (k + 1)) (pb α k) s) (α.1 0 1) (pb α k s)
def good (k : Nat) (w : Int) : Prop := ∃ c j : Nat, c ≤ 6 ∧ j ≤ k ∧ w = 16 * (c : Int) - (j : Int)
theorem good_up {k k' : Nat} {w : Int} (h : good k w) (hk : k ≤ k') : good k' w := by
  obtain ⟨c, j, h1, h2, h3⟩ := h
  exact ⟨c, j, h1, by omega, h3⟩
theorem pop6 : ∀ s, s < 64 → pop s ≤ 6 := by decide +kernel
theorem good_max {k : Nat} {v w : Int} (h : good k v) (h2 : good k w) : good k (max v w) := by
  rw [Int.max_def]
  split
  · exact h2
  · exact h
theorem pb_good {α : Al} (hT : α.1 0 1 ≤ 6) : ∀ k s, s < 64 → good k (pb α k s)
  | 0, s, hs => ⟨pop (s &&& hostB α), 0, pop6 _ (Nat.lt_of_le_of_lt Nat.and_le_left hs), Nat.le_refl 0, by rw [pb]; omega⟩
  | k + 1, s, hs => by
    rw [pb]
    refine ga_inv (P := good (k + 1)) (fun a b v ha hb hv => ?_) _ _ (Nat.le_refl _) (good_up (pb_good hT k s hs) (by omega))
    unfold stp
    split
    · refine good_max hv ?_
      obtain ⟨c, j, h1, h2, h3⟩ := pb_good hT k (exc s a b) (exc_chk s hs a (by omega) b (by omega)).1
      exact ⟨c, j + 1, h1, by omega, by omega⟩
    · exact hv
theorem pb_att {α : Al} (k s : Nat) : pb α (k + 1) s = pb α k s ∨ ∃ a b, a < b ∧ b < α.1 0 1 ∧ sp_may α (α.1 0 2 - (k + 1)) a b = true ∧ pb α (k + 1) s = pb α k (exc s a b) - 1 := by
  rw [pb]
  refine ga_inv (P := fun v => v = pb α k s ∨ ∃ a b, a < b ∧ b < α.1 0 1 ∧ sp_may α (α.1 0 2 - (k + 1)) a b = true ∧ v = pb α k (exc s a b) - 1) (fun a b v ha hb hv => ?_) _ _ (Nat.le_refl _) (Or.inl rfl)
  unfold stp
  split
  · next hm =>
    rw [Int.max_def]
    split
    · exact Or.inr ⟨a, b, ha, hb, hm, rfl⟩
    · exact hv
  · exact hv
def conv (w : Int) : Int := w + 84 * ((w + 15) / 16)
theorem conv_lt {v w : Int} (h : good 6 v) (h2 : good 6 w) : conv v < conv w ↔ v < w := by
  obtain ⟨c', j', g1, g2, g3⟩ := h2
  obtain ⟨c, j, h1, h2, h3⟩ := h
  unfold conv
  omega
theorem conv_eq {v w : Int} (h : good 6 v) (h2 : good 6 w) : conv v = conv w ↔ v = w := by
  obtain ⟨c', j', g1, g2, g3⟩ := h2
  obtain ⟨c, j, h1, h2, h3⟩ := h
  unfold conv
  omega
theorem conv_m1 {k : Nat} {w : Int} (hk : k ≤ 5) (h : good k w) : conv (w - 1) = conv w - 1 ∧ good 6 (w - 1) := by
  obtain ⟨c, j, h1, h2, h3⟩ := h
  refine ⟨?_, c, j + 1, h1, by omega, by omega⟩
  unfold conv
  omega
theorem conv_bd {w : Int} (h : good 6 w) : -6 ≤ conv w ∧ conv w ≤ 600 := by
  obtain ⟨c, j, h1, h2, h3⟩ := h
  unfold conv
  omega
/-! the first change of a best plan -/
def fst1 (t : Nat → Nat → Bool) : Nat → Nat → Option (Nat × Nat) → Option (Nat × Nat) := fun a b v => match v with
  | some x => some x
  | none => if t a b then some (a, b) else none
theorem gb_some {T a : Nat} {t : Nat → Nat → Bool} {x : Nat × Nat} : ∀ m, gb T (fst1 t) a m (some x) = some x
  | 0 => rfl
  | m + 1 => gb_some m
theorem ga_some {T : Nat} {t : Nat → Nat → Bool} {x : Nat × Nat} : ∀ m, ga T (fst1 t) m (some x) = some x
  | 0 => rfl
  | m + 1 => by rw [ga, gb_some, ga_some m]
theorem fst_ok {T : Nat} {t : Nat → Nat → Bool} : ∀ x, ga T (fst1 t) T none = some x → x.1 < x.2 ∧ x.2 < T ∧ t x.1 x.2 = true := by
  refine ga_inv (P := fun (v : Option (Nat × Nat)) => ∀ x : Nat × Nat, v = some x → x.1 < x.2 ∧ x.2 < T ∧ t x.1 x.2 = true) (fun a b v ha hb hv => ?_) T none (Nat.le_refl _) (fun x hx => by cases hx)
  intro x hx
  unfold fst1 at hx
  split at hx
  · next y => exact hv x hx
  · split at hx
    · next ht => cases hx; exact ⟨ha, hb, ht⟩
    · cases hx
theorem gb_none {T a : Nat} {t : Nat → Nat → Bool} : ∀ m v, a + m < T → gb T (fst1 t) a m v = none → v = none ∧ ∀ b, T - m ≤ b → b < T → t a b = false
  | 0, v, hm, h => ⟨h, fun b h1 h2 => by omega⟩
  | m + 1, v, hm, h => by
    rw [gb] at h
    have ih := gb_none m _ (by omega) h
    unfold fst1 at ih
    cases v with
    | some x => cases ih.1
    | none =>
      refine ⟨rfl, fun b h1 h2 => ?_⟩
      by_cases c : b = T - (m + 1)
      · rw [c]
        have := ih.1
        simp only at this
        split at this
        · cases this
        · next q => simpa using q
      · exact ih.2 b (by omega) h2
theorem ga_none {T : Nat} {t : Nat → Nat → Bool} : ∀ m v, m ≤ T → ga T (fst1 t) m v = none → v = none ∧ ∀ a b, T - m ≤ a → a < b → b < T → t a b = false
  | 0, v, hm, h => ⟨h, fun a b h1 h2 h3 => by omega⟩
  | m + 1, v, hm, h => by
    rw [ga] at h
    have ih := ga_none m _ (by omega) h
    have ih2 := gb_none m _ (by omega) ih.1
    refine ⟨ih2.1, fun a b h1 h2 h3 => ?_⟩
    by_cases c : a = T - (m + 1)
    · subst c; exact ih2.2 b (by omega) h3
    · exact ih.2 a b (by omega) h2 h3
def tst (α : Al) (n k s : Nat) : Nat → Nat → Bool := fun a b => sp_may α n a b && decide (pb α k (exc s a b) - 1 = pb α (k + 1) s)
def chp (α : Al) (n k s : Nat) : Option (Nat × Nat) := if pb α k s = pb α (k + 1) s then none else ga (α.1 0 1) (fst1 (tst α n k s)) (α.1 0 1) none
def nxt (s : Nat) : Option (Nat × Nat) → Nat
  | none => s
  | some x => exc s x.1 x.2
def o01 : Option (Nat × Nat) → Nat
  | none => 0
  | some _ => 1
def oA : Option (Nat × Nat) → Int
  | none => -1
  | some x => (x.1 : Int)
def oB : Option (Nat × Nat) → Int
  | none => -1
  | some x => (x.2 : Int)
theorem chp_ok {α : Al} {n k s : Nat} {x : Nat × Nat} (h : chp α n k s = some x) : x.1 < x.2 ∧ x.2 < α.1 0 1 ∧ sp_may α n x.1 x.2 = true ∧ pb α k (exc s x.1 x.2) - 1 = pb α (k + 1) s := by
  unfold chp at h
  split at h
  · cases h
  · obtain ⟨h1, h2, h3⟩ := fst_ok x h
    unfold tst at h3
    rw [Bool.and_eq_true, decide_eq_true_eq] at h3
    exact ⟨h1, h2, h3.1, h3.2⟩
theorem chp_pb {α : Al} {n k s : Nat} (hn : n = α.1 0 2 - (k + 1)) : pb α (k + 1) s = pb α k (nxt s (chp α n k s)) - (o01 (chp α n k s) : Int) := by
  cases e : chp α n k s with
  | some x =>
    have := (chp_ok e).2.2.2
    show _ = pb α k (exc s x.1 x.2) - 1
    omega
  | none =>
    show _ = pb α k s - 0
    rcases pb_att (α := α) k s with h | ⟨a, b, h1, h2, h3, h4⟩
    · omega
    · unfold chp at e
      split at e
      · omega
      · have := (ga_none _ _ (Nat.le_refl _) e).2 a b (by omega) h1 h2
        unfold tst at this
        rw [hn, h3, decide_eq_true h4.symm] at this
        cases this
theorem nxt_lt {α : Al} (hT : α.1 0 1 ≤ 6) {n k s : Nat} (hs : s < 64) : nxt s (chp α n k s) < 64 ∧ pop (nxt s (chp α n k s)) = pop s := by
  cases e : chp α n k s with
  | none => exact ⟨hs, rfl⟩
  | some x =>
    obtain ⟨h1, h2, _, _⟩ := chp_ok e
    have := exc_chk s hs x.1 (by omega) x.2 (by omega)
    exact ⟨this.1, this.2.1⟩
def pth (α : Al) : Nat → Nat
  | 0 => csF α (α.1 9)
  | i + 1 => nxt (pth α i) (chp α (α.1 0 4 + i) (α.1 0 2 - (α.1 0 4 + i) - 1) (pth α i))
def pch (α : Al) (i : Nat) : Option (Nat × Nat) := chp α (α.1 0 4 + i) (α.1 0 2 - (α.1 0 4 + i) - 1) (pth α i)
def pcc (α : Al) : Nat → Nat
  | 0 => 0
  | i + 1 => pcc α i + o01 (pch α i)
theorem pth_lt {α : Al} (hT : α.1 0 1 ≤ 6) : ∀ i, pth α i < 64 ∧ pop (pth α i) = pop (pth α 0)
  | 0 => ⟨sp_bits64 _ hT, rfl⟩
  | i + 1 => by
    have ih := pth_lt hT i
    have := nxt_lt hT (n := α.1 0 4 + i) (k := α.1 0 2 - (α.1 0 4 + i) - 1) ih.1
    exact ⟨this.1, this.2.trans ih.2⟩
theorem o01_le : ∀ o : Option (Nat × Nat), o01 o ≤ 1
  | none => Nat.zero_le 1
  | some _ => Nat.le_refl 1
theorem pcc_le (α : Al) : ∀ i, pcc α i ≤ i
  | 0 => Nat.le_refl 0
  | i + 1 => by
    have := pcc_le α i
    have := o01_le (pch α i)
    rw [pcc]
    omega
theorem pth_pb {α : Al} : ∀ i, α.1 0 4 + i ≤ α.1 0 2 → pb α (α.1 0 2 - α.1 0 4) (pth α 0) = pb α (α.1 0 2 - (α.1 0 4 + i)) (pth α i) - (pcc α i : Int)
  | 0, _ => by rw [Nat.add_zero, pcc]; omega
  | i + 1, h => by
    rw [pth_pb i (by omega)]
    obtain ⟨k, hk⟩ : ∃ k, α.1 0 2 - (α.1 0 4 + i) = k + 1 := ⟨α.1 0 2 - (α.1 0 4 + i) - 1, by omega⟩
    have e := chp_pb (α := α) (n := α.1 0 4 + i) (k := k) (s := pth α i) (by omega)
    have e2 : pth α (i + 1) = nxt (pth α i) (chp α (α.1 0 4 + i) k (pth α i)) := by rw [pth, hk]; rfl
    have e3 : pcc α (i + 1) = pcc α i + o01 (chp α (α.1 0 4 + i) k (pth α i)) := by rw [pcc, pch, hk]; rfl
    rw [hk, e, e2, e3, show α.1 0 2 - (α.1 0 4 + (i + 1)) = k by omega]
    omega
def plC (α : Al) : Nat := pop (pth α (α.1 0 2 - α.1 0 4) &&& hostB α)
def plK (α : Al) : Nat := pcc α (α.1 0 2 - α.1 0 4)
theorem pl_pb {α : Al} (hw : wf α) : pb α (α.1 0 2 - α.1 0 4) (csF α (α.1 9)) = 16 * (plC α : Int) - (plK α : Int) ∧ plK α ≤ 6 ∧ plC α ≤ 6 := by
  have hN := wf_N hw
  have hT := wf_T hw
  have hPs := wf_Ps hw
  have h := pth_pb (α := α) (α.1 0 2 - α.1 0 4) (by omega)
  rw [show α.1 0 2 - (α.1 0 4 + (α.1 0 2 - α.1 0 4)) = 0 by omega, pb] at h
  have h2 := pcc_le α (α.1 0 2 - α.1 0 4)
  refine ⟨?_, ?_, ?_⟩
  · show pb α (α.1 0 2 - α.1 0 4) (pth α 0) = _
    rw [h]; unfold plC plK; omega
  · unfold plK; omega
  · exact pop6 _ (Nat.lt_of_le_of_lt Nat.and_le_left (pth_lt hT _).1)
def r_plan (α : Al) (w : Int) : Int := if w < 0 then -3 else if 1 < w then -3 else if w = 0 then ((plC α : Nat) : Int) else ((plK α : Nat) : Int)
def r_planned (α : Al) (m s : Int) : Int := if m < ((α.1 0 4 : Nat) : Int) then -2 else if m < ((α.1 0 2 : Nat) : Int) then (if s < 0 then -3 else if 1 < s then -3 else if s = 0 then oA (pch α (m.toNat - α.1 0 4)) else oB (pch α (m.toNat - α.1 0 4))) else -2
