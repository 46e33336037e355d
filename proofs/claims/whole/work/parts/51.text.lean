/-! reading the text: tokens -/
def isL (c : Nat) : Bool := Nat.ble 97 c && Nat.ble c 122
def isD (c : Nat) : Bool := Nat.ble 48 c && Nat.ble c 57
theorem isL_iff {c : Nat} : isL c = true ↔ 97 ≤ c ∧ c ≤ 122 := by unfold isL; rw [Bool.and_eq_true, Nat.ble_eq, Nat.ble_eq]
theorem isD_iff {c : Nat} : isD c = true ↔ 48 ≤ c ∧ c ≤ 57 := by unfold isD; rw [Bool.and_eq_true, Nat.ble_eq, Nat.ble_eq]
def isB (c : Nat) : Bool := c == 32
def rn (P : Nat → Bool) (tx : Nat → Nat) : Nat → Nat → Nat
  | 0, i => i
  | k + 1, i => if P (tx i) then rn P tx k (i + 1) else i
theorem rn_bd (P : Nat → Bool) (tx : Nat → Nat) : ∀ k i, i ≤ rn P tx k i ∧ rn P tx k i ≤ i + k
  | 0, i => ⟨Nat.le_refl _, Nat.le_refl _⟩
  | k + 1, i => by
    rw [rn]
    have := rn_bd P tx k (i + 1)
    split <;> omega
theorem rn_in (P : Nat → Bool) (tx : Nat → Nat) : ∀ k i j, i ≤ j → j < rn P tx k i → P (tx j) = true
  | 0, i, j, h1, h2 => absurd h2 (by rw [rn]; omega)
  | k + 1, i, j, h1, h2 => by
    rw [rn] at h2
    by_cases c : P (tx i) = true
    · rw [if_pos c] at h2
      by_cases e : j = i
      · rw [e]; exact c
      · exact rn_in P tx k (i + 1) j (by omega) h2
    · rw [if_neg c] at h2; omega
def bl (α : Al) (i : Nat) : Nat := rn isB (α.1 8) (α.1 0 3 - i) i
def te (α : Al) (f : Nat) : Nat := if f < α.1 0 3 then (if isL (α.1 8 f) then rn isL (α.1 8) (α.1 0 3 - f) f else if isD (α.1 8 f) then rn isD (α.1 8) (α.1 0 3 - f) f else f + 1) else f
theorem bl_bd {α : Al} {i : Nat} (h : i ≤ α.1 0 3) : i ≤ bl α i ∧ bl α i ≤ α.1 0 3 := by
  have := rn_bd isB (α.1 8) (α.1 0 3 - i) i
  unfold bl
  omega
theorem rn_pos {P : Nat → Bool} {tx : Nat → Nat} {k i : Nat} (hk : 0 < k) (h : P (tx i) = true) : i < rn P tx k i := by
  obtain ⟨m, rfl⟩ : ∃ m, k = m + 1 := ⟨k - 1, by omega⟩
  rw [rn, if_pos h]
  have := (rn_bd P tx m (i + 1)).1
  omega
theorem te_bd {α : Al} {f : Nat} (h : f ≤ α.1 0 3) : f ≤ te α f ∧ te α f ≤ α.1 0 3 := by
  have h1 := rn_bd isL (α.1 8) (α.1 0 3 - f) f
  have h2 := rn_bd isD (α.1 8) (α.1 0 3 - f) f
  unfold te
  repeat' split
  all_goals omega
theorem te_lt {α : Al} {f : Nat} (h : f < α.1 0 3) : f < te α f := by
  unfold te
  rw [if_pos h]
  split
  · next c => exact rn_pos (by omega) c
  · split
    · next c => exact rn_pos (by omega) c
    · omega
theorem te_n {α : Al} {f : Nat} (h : ¬ f < α.1 0 3) : te α f = f := by unfold te; rw [if_neg h]
theorem te_L {α : Al} {f : Nat} (h : f < α.1 0 3) (c : isL (α.1 8 f) = true) : te α f = rn isL (α.1 8) (α.1 0 3 - f) f := by unfold te; rw [if_pos h, if_pos c]
theorem LD {c : Nat} (h : isD c = true) : isL c = false := by
  cases e : isL c with
  | false => rfl
  | true => rw [isL_iff] at e; rw [isD_iff] at h; omega
theorem te_D {α : Al} {f : Nat} (h : f < α.1 0 3) (c : isD (α.1 8 f) = true) : te α f = rn isD (α.1 8) (α.1 0 3 - f) f := by unfold te; rw [if_pos h, LD c, if_neg (by decide), if_pos c]
/-! words, numbers -/
def hs (α : Al) (f : Nat) : Nat → Nat
  | 0 => 0
  | k + 1 => 27 * hs α f k + (α.1 8 (f + k) - 96)
def hx (l : List Nat) : Nat → Nat
  | 0 => 0
  | k + 1 => 27 * hx l k + (l.getD k 0 - 96)
def vd (α : Al) (f : Nat) : Nat → Nat
  | 0 => 0
  | k + 1 => 10 * vd α f k + (α.1 8 (f + k) - 48)
def WSL : List (List Nat) := [[105, 110, 110], [103, 117, 101, 115, 116], [119, 97, 116, 99, 104, 101, 114], [108, 101, 110, 100, 101, 114], [104, 111, 115, 116], [100, 117, 108, 108], [116, 114, 117, 101], [102, 97, 100, 105, 110, 103], [109, 111, 111, 100, 121], [110, 105, 103, 104, 116], [112, 111, 119, 101, 114]]
def WS (w : Nat) : List Nat := WSL.getD w []
def WC (w : Nat) : Nat := [6953, 4137608, 8935714008, 175122720, 168932, 94377, 407354, 86710561, 7215046, 7622660, 8815221].getD w 0
theorem WC_chk : ∀ w, w < 11 → hx (WS w) (WS w).length = WC w ∧ 0 < WC w ∧ 3 ≤ (WS w).length ∧ (WS w).length ≤ 7 ∧ ∀ j, j < (WS w).length → 97 ≤ (WS w).getD j 0 ∧ (WS w).getD j 0 ≤ 122 := by decide
theorem WC_inj : ∀ w, w < 11 → ∀ v, v < 11 → WC w = WC v → w = v := by decide
theorem hs_inj {α : Al} {f : Nat} {l : List Nat} : ∀ K m, (∀ j, j < K → 97 ≤ α.1 8 (f + j) ∧ α.1 8 (f + j) ≤ 122) → (∀ j, j < m → 97 ≤ l.getD j 0 ∧ l.getD j 0 ≤ 122) → hs α f K = hx l m → K = m ∧ ∀ j, j < m → α.1 8 (f + j) = l.getD j 0
  | 0, 0, _, _, _ => ⟨rfl, fun j hj => absurd hj (Nat.not_lt_zero j)⟩
  | 0, m + 1, _, h2, h => by
    have := h2 m (by omega)
    rw [hs, hx] at h
    omega
  | K + 1, 0, h1, _, h => by
    have := h1 K (by omega)
    rw [hs, hx] at h
    omega
  | K + 1, m + 1, h1, h2, h => by
    have a1 := h1 K (by omega)
    have a2 := h2 m (by omega)
    rw [hs, hx] at h
    obtain ⟨e1, e2⟩ := hs_inj K m (fun j hj => h1 j (by omega)) (fun j hj => h2 j (by omega)) (by omega)
    subst e1
    refine ⟨rfl, fun j hj => ?_⟩
    by_cases e : j = K
    · rw [e]; omega
    · exact e2 j (by omega)
theorem hs_eq {α : Al} {f : Nat} {l : List Nat} : ∀ m, (∀ j, j < m → α.1 8 (f + j) = l.getD j 0) → hs α f m = hx l m
  | 0, _ => rfl
  | m + 1, h => by rw [hs, hx, hs_eq m (fun j hj => h j (by omega)), h m (by omega)]
def spB (α : Al) (f w : Nat) : Bool := (te α f - f == (WS w).length) && sp_all (fun i => α.1 8 (f + i) == (WS w).getD i 0) (WS w).length
theorem spB_iff {α : Al} {f w : Nat} : spB α f w = true ↔ te α f - f = (WS w).length ∧ ∀ i, i < (WS w).length → α.1 8 (f + i) = (WS w).getD i 0 := by
  unfold spB
  rw [Bool.and_eq_true, beq_iff_eq, sp_all_iff]
  constructor
  · exact fun h => ⟨h.1, fun i hi => beq_iff_eq.1 (h.2 i hi)⟩
  · exact fun h => ⟨h.1, fun i hi => beq_iff_eq.2 (h.2 i hi)⟩
def wxg (α : Al) (f : Nat) : Nat → Nat → Nat
  | 0, w => w
  | k + 1, w => if spB α f w then w else wxg α f k (w + 1)
def wx (α : Al) (f : Nat) : Nat := wxg α f 11 0
theorem wxg_hit {α : Al} {f v : Nat} (h : spB α f v = true) : ∀ k w, w ≤ v → v < w + k → (∀ j, w ≤ j → j < v → spB α f j = false) → wxg α f k w = v
  | 0, w, h1, h2, _ => by omega
  | k + 1, w, h1, h2, h3 => by
    rw [wxg]
    by_cases e : w = v
    · rw [e, if_pos h]
    · rw [if_neg (by rw [h3 w (Nat.le_refl _) (by omega)]; decide)]
      exact wxg_hit h k (w + 1) (by omega) (by omega) (fun j a1 a2 => h3 j (by omega) a2)
theorem wxg_no {α : Al} {f : Nat} : ∀ k w, (∀ j, w ≤ j → j < w + k → spB α f j = false) → wxg α f k w = w + k
  | 0, w, _ => rfl
  | k + 1, w, h => by
    rw [wxg, if_neg (by rw [h w (Nat.le_refl _) (by omega)]; decide), wxg_no k (w + 1) (fun j a1 a2 => h j (by omega) (by omega))]
    omega
def tv (α : Al) (f : Nat) : Int := if f < α.1 0 3 then (if isL (α.1 8 f) then (if 9 < te α f - f then -4 else ((hs α f (te α f - f) : Nat) : Int)) else if isD (α.1 8 f) then (if 2 < te α f - f then -4 else -1) else if α.1 8 f = 59 then -3 else -4) else -2
theorem tv_sp {α : Al} {f w : Nat} (hw : w < 11) : tv α f = ((WC w : Nat) : Int) ↔ spB α f w = true := by
  obtain ⟨k1, k2, k3, k4, k5⟩ := WC_chk w hw
  rw [spB_iff]
  constructor
  · intro h
    unfold tv at h
    by_cases c1 : f < α.1 0 3
    · rw [if_pos c1] at h
      by_cases c2 : isL (α.1 8 f) = true
      · rw [if_pos c2] at h
        by_cases c3 : 9 < te α f - f
        · rw [if_pos c3] at h; omega
        · rw [if_neg c3] at h
          have e := te_L c1 c2
          exact hs_inj (te α f - f) (WS w).length (fun j hj => isL_iff.1 (rn_in isL (α.1 8) (α.1 0 3 - f) f (f + j) (by omega) (by rw [← e]; omega))) k5 (by omega)
      · rw [if_neg c2] at h
        repeat' split at h
        all_goals omega
    · rw [if_neg c1] at h; omega
  · intro h
    have c1 : f < α.1 0 3 := by
      rcases Nat.lt_or_ge f (α.1 0 3) with q | q
      · exact q
      · rw [te_n (by omega)] at h; omega
    have c2 : isL (α.1 8 f) = true := by
      have := h.2 0 (by omega)
      rw [Nat.add_zero] at this
      rw [isL_iff, this]
      exact k5 0 (by omega)
    unfold tv
    rw [if_pos c1, if_pos c2, if_neg (by omega), h.1, hs_eq _ h.2, k1]
theorem wx_is {α : Al} {f w : Nat} (hw : w < 11) (h : spB α f w = true) : wx α f = w := by
  refine wxg_hit h 11 0 (Nat.zero_le _) (by omega) (fun j _ hj => ?_)
  cases e : spB α f j with
  | false => rfl
  | true =>
    have e1 := (tv_sp (show j < 11 by omega)).2 e
    have e2 := (tv_sp hw).2 h
    have := WC_inj w hw j (by omega) (by omega)
    omega
theorem wx_no {α : Al} {f : Nat} (h : ∀ w, w < 11 → spB α f w = false) : wx α f = 11 := wxg_no 11 0 (fun j _ hj => h j (by omega))
/-! numbers of a line, lines, the text -/
def nuB (α : Al) (f : Nat) : Bool := decide (f < α.1 0 3) && (isD (α.1 8 f) && decide (te α f - f ≤ 2))
def nok (α : Al) (f b : Nat) : Bool := nuB α f && decide (vd α f (te α f - f) < b)
def pns (α : Al) : List Nat → Nat → Nat ⊕ (List Nat × Nat)
  | [], i => .inr ([], i)
  | b :: bs, i => if nok α (bl α i) b then (match pns α bs (te α (bl α i)) with
    | .inl f => .inl f
    | .inr x => .inr (vd α (bl α i) (te α (bl α i) - bl α i) :: x.1, x.2)) else .inl (bl α i)
def bnd (w P T : Nat) : List Nat := match w with
  | 5 => [3, P]
  | 6 => [3, P, 4]
  | 7 => [3, P, 4, 10]
  | 8 => [3, P, 4]
  | 9 => [2 ^ P]
  | 10 => [T, 10]
  | _ => []
abbrev St3 : Type := Nat × Nat × Nat
def roomB (w : Nat) (s : St3) : Bool := if w = 0 then true else if w < 5 then decide (s.1 < 5) else if w < 9 then decide (s.2.1 < 6) else if w = 9 then decide (s.2.2 < 6) else true
def grw (w : Nat) (s : St3) : St3 := if w = 0 then (0, 0, 0) else if w < 5 then (s.1 + 1, s.2.1, s.2.2) else if w < 9 then (s.1, s.2.1 + 1, s.2.2) else if w = 9 then (s.1, s.2.1, s.2.2 + 1) else s
def pl (α : Al) (s : St3) (i : Nat) : Nat ⊕ ((Nat × List Nat) × Nat) := if wx α (bl α i) < 11 then (if roomB (wx α (bl α i)) s then (match pns α (bnd (wx α (bl α i)) s.1 s.2.1) (te α (bl α i)) with
  | .inl f => .inl f
  | .inr x => .inr ((wx α (bl α i), x.1), x.2)) else .inl (bl α i)) else .inl (bl α i)
def rdg (α : Al) : Nat → St3 → Nat → List (Nat × List Nat) → Nat ⊕ List (Nat × List Nat)
  | 0, _, i, _ => .inl i
  | k + 1, s, i, acc => match pl α s i with
    | .inl f => .inl f
    | .inr x => if bl α x.2 < α.1 0 3 then (if α.1 8 (bl α x.2) = 59 then (if k = 0 then .inl (bl α x.2) else rdg α k (grw x.1.1 s) (te α (bl α x.2)) (acc ++ [x.1])) else .inl (bl α x.2)) else .inr (acc ++ [x.1])
def RD (α : Al) : Nat ⊕ List (Nat × List Nat) := rdg α 14 (α.1 0 0, α.1 0 1, α.1 0 2) 0 []
def okN : List Nat → List Nat → Prop
  | [], [] => True
  | b :: bs, x :: l => x < b ∧ okN bs l
  | _, _ => False
theorem pns_ok {α : Al} : ∀ bs i x, i ≤ α.1 0 3 → pns α bs i = .inr x → okN bs x.1 ∧ x.2 ≤ α.1 0 3
  | [], i, x, hi, h => by cases h; exact ⟨trivial, hi⟩
  | b :: bs, i, x, hi, h => by
    rw [pns] at h
    by_cases c : nok α (bl α i) b = true
    · rw [if_pos c] at h
      have hb := bl_bd hi
      have ht := te_bd hb.2
      cases e : pns α bs (te α (bl α i)) with
      | inl f => rw [e] at h; cases h
      | inr y =>
        rw [e] at h
        have h := Sum.inr.inj h
        subst h
        obtain ⟨g1, g2⟩ := pns_ok bs _ y ht.2 e
        unfold nok at c
        rw [Bool.and_eq_true] at c
        exact ⟨⟨of_decide_eq_true c.2, g1⟩, g2⟩
    · rw [if_neg c] at h; cases h
theorem okN_len : ∀ bs l, okN bs l → l.length = bs.length
  | [], [], _ => rfl
  | _ :: bs, _ :: l, h => by rw [List.length_cons, List.length_cons, okN_len bs l h.2]
  | [], _ :: _, h => h.elim
  | _ :: _, [], h => h.elim
def okL (s : St3) (x : Nat × List Nat) : Prop := x.1 < 11 ∧ roomB x.1 s = true ∧ okN (bnd x.1 s.1 s.2.1) x.2
theorem pl_ok {α : Al} {s : St3} {i : Nat} {x : (Nat × List Nat) × Nat} (hi : i ≤ α.1 0 3) (h : pl α s i = .inr x) : okL s x.1 ∧ x.2 ≤ α.1 0 3 := by
  have hb := bl_bd hi
  have ht := te_bd hb.2
  unfold pl at h
  by_cases c1 : wx α (bl α i) < 11
  · rw [if_pos c1] at h
    by_cases c2 : roomB (wx α (bl α i)) s = true
    · rw [if_pos c2] at h
      cases e : pns α (bnd (wx α (bl α i)) s.1 s.2.1) (te α (bl α i)) with
      | inl f => rw [e] at h; cases h
      | inr y =>
        rw [e] at h
        have h := Sum.inr.inj h
        subst h
        obtain ⟨g1, g2⟩ := pns_ok _ _ y ht.2 e
        exact ⟨⟨c1, c2, g1⟩, g2⟩
    · rw [if_neg c2] at h; cases h
  · rw [if_neg c1] at h; cases h
def okLs : St3 → List (Nat × List Nat) → Prop
  | _, [] => True
  | s, x :: ls => okL s x ∧ okLs (grw x.1 s) ls
theorem rdg_ok {α : Al} : ∀ k s i acc ls, i ≤ α.1 0 3 → rdg α k s i acc = .inr ls → ∃ ls', ls = acc ++ ls' ∧ okLs s ls' ∧ ls'.length ≤ k
  | 0, s, i, acc, ls, _, h => by
    have h' : (Sum.inl i : Nat ⊕ List (Nat × List Nat)) = .inr ls := h
    cases h'
  | k + 1, s, i, acc, ls, hi, h => by
    rw [rdg] at h
    cases e : pl α s i with
    | inl f => rw [e] at h; cases h
    | inr x =>
      obtain ⟨g1, g2⟩ := pl_ok hi e
      have hb := bl_bd g2
      have ht := te_bd hb.2
      rw [e] at h
      have h' : (if bl α x.2 < α.1 0 3 then (if α.1 8 (bl α x.2) = 59 then (if k = 0 then (Sum.inl (bl α x.2) : Nat ⊕ List (Nat × List Nat)) else rdg α k (grw x.1.1 s) (te α (bl α x.2)) (acc ++ [x.1])) else .inl (bl α x.2)) else .inr (acc ++ [x.1])) = .inr ls := h
      by_cases c1 : bl α x.2 < α.1 0 3
      · rw [if_pos c1] at h'
        by_cases c2 : α.1 8 (bl α x.2) = 59
        · rw [if_pos c2] at h'
          by_cases c3 : k = 0
          · rw [if_pos c3] at h'; cases h'
          · rw [if_neg c3] at h'
            obtain ⟨ls', q1, q2, q3⟩ := rdg_ok k _ _ _ ls ht.2 h'
            exact ⟨x.1 :: ls', by rw [q1, List.append_assoc]; rfl, ⟨g1, q2⟩, by rw [List.length_cons]; omega⟩
        · rw [if_neg c2] at h'; cases h'
      · rw [if_neg c1] at h'
        have h' := Sum.inr.inj h'
        subst h'
        exact ⟨[x.1], rfl, ⟨g1, trivial⟩, by rw [List.length_singleton]; omega⟩
