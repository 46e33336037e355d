/-! lawful rows, packed -/
def LW (α : Al) : List Nat := (List.range (fac (α.1 0 1))).filter (fun r => lawB α (rv (α.1 0 1) r))
def lk (α : Al) (p t : Nat) : Bool := α.1 3 t == α.1 3 p
def pk : List Nat → Nat → Nat
  | [], acc => acc
  | t :: l, acc => pk l (8 * acc + t)
theorem lk_law {α : Al} (a : Nat → Nat) : sp_all (fun p => lk α p (a p)) (α.1 0 1) = lawB α a := by
  unfold lawB
  rw [Bool.eq_iff_iff, sp_all_iff, sp_all_iff]
  constructor
  · intro h i hi
    have := h i hi
    unfold lk at this
    rw [beq_iff_eq] at this ⊢
    exact this.symm
  · intro h i hi
    have := h i hi
    unfold lk
    rw [beq_iff_eq] at this ⊢
    exact this.symm
theorem LW_rows {α : Al} (hT : α.1 0 1 ≤ 6) : (rws (α.1 0 1)).filter (fitL (lk α) 0) = (LW α).map (rowL (α.1 0 1)) := by
  rw [rws_map hT, List.filter_map, LW]
  congr 1
  apply List.filter_congr
  intro r hr
  rw [Function.comp, fitL_row hT (List.mem_range.1 hr), lk_law]
def incB : List Nat → Bool
  | [] => true
  | x :: l => (match l with
    | [] => true
    | y :: _ => Nat.blt x y) && incB l
theorem incB_pw : ∀ l, incB l = true → List.Pairwise (· < ·) l
  | [], _ => List.Pairwise.nil
  | [x], _ => List.pairwise_singleton _ _
  | x :: y :: l, h => by
    have h' : (Nat.blt x y && incB (y :: l)) = true := h
    rw [Bool.and_eq_true, Nat.blt_eq] at h'
    have ih := incB_pw (y :: l) h'.2
    refine List.Pairwise.cons (fun z hz => ?_) ih
    rcases List.mem_cons.1 hz with e | e
    · omega
    · have := (List.pairwise_cons.1 ih).1 z e
      omega
theorem pk_inc : ∀ T, T < 7 → incB ((rws T).map (fun l => pk l 0)) = true := by decide +kernel
def WL (α : Al) : List Nat := (LW α).map (fun r => pk (rowL (α.1 0 1) r) 0)
theorem WL_eq {α : Al} (hT : α.1 0 1 ≤ 6) : WL α = ((rws (α.1 0 1)).filter (fitL (lk α) 0)).map (fun l => pk l 0) := by
  rw [LW_rows hT, List.map_map]
  rfl
theorem WL_pw {α : Al} (hT : α.1 0 1 ≤ 6) : List.Pairwise (· < ·) (WL α) := by
  rw [WL_eq hT]
  exact List.Pairwise.sublist (List.Sublist.map _ List.filter_sublist) (incB_pw _ (pk_inc _ (by omega)))
theorem WL_len (α : Al) : (WL α).length = (LW α).length := List.length_map _
def wy (α : Al) (k : Nat) : Nat := pk (rowL (α.1 0 1) ((LW α).getD k 0)) 0
theorem WL_get {α : Al} {k : Nat} (hk : k < (LW α).length) : (WL α)[k]'(by rw [WL_len]; exact hk) = wy α k := by
  unfold WL wy
  rw [List.getElem_map, List.getD_eq_getElem?_getD, List.getElem?_eq_getElem hk]
  rfl
theorem wy_lt {α : Al} (hT : α.1 0 1 ≤ 6) {i j : Nat} (hij : i < j) (hj : j < (LW α).length) : wy α i < wy α j := by
  have h := List.pairwise_iff_getElem.1 (WL_pw hT) i j (by rw [WL_len]; omega) (by rw [WL_len]; exact hj) hij
  rw [WL_get (by omega), WL_get hj] at h
  exact h
theorem LW_mem {α : Al} {r : Nat} : r ∈ LW α ↔ r < fac (α.1 0 1) ∧ lawB α (rv (α.1 0 1) r) = true := by
  unfold LW
  rw [List.mem_filter, List.mem_range]
theorem LW_at {α : Al} {k : Nat} (hk : k < (LW α).length) : (LW α).getD k 0 < fac (α.1 0 1) ∧ lawB α (rv (α.1 0 1) ((LW α).getD k 0)) = true := LW_mem.1 (getD_mem hk)
theorem LW_ix {α : Al} {r : Nat} (hr : r < fac (α.1 0 1)) (h : lawB α (rv (α.1 0 1) r) = true) : ∃ k, k < (LW α).length ∧ (LW α).getD k 0 = r := by
  obtain ⟨k, hk, e⟩ := List.mem_iff_getElem.1 (LW_mem.2 ⟨hr, h⟩)
  refine ⟨k, hk, ?_⟩
  rw [List.getD_eq_getElem?_getD, List.getElem?_eq_getElem hk]
  exact e
theorem LW_inj {α : Al} (hT : α.1 0 1 ≤ 6) {i j : Nat} (hi : i < (LW α).length) (hj : j < (LW α).length) (e : (LW α).getD i 0 = (LW α).getD j 0) : i = j := by
  have ew : wy α i = wy α j := by unfold wy; rw [e]
  rcases Nat.lt_trichotomy i j with c | c | c
  · have := wy_lt hT c hj; omega
  · exact c
  · have := wy_lt hT c hi; omega
theorem LW_le {α : Al} (hT : α.1 0 1 ≤ 6) : (LW α).length ≤ 720 := by
  have h := List.length_filter_le (fun r => lawB α (rv (α.1 0 1) r)) (List.range (fac (α.1 0 1)))
  rw [List.length_range] at h
  have := fac_le _ hT
  unfold LW
  omega
theorem law_0 {α : Al} (hT : α.1 0 1 ≤ 6) : lawB α (rv (α.1 0 1) 0) = true := lawB_iff.2 (fun p hp => by rw [rv_0 hT hp])
theorem LW_0 {α : Al} (hT : α.1 0 1 ≤ 6) : 0 < (LW α).length ∧ (LW α).getD 0 0 = 0 := by
  have hf := (fac_le _ hT).1
  obtain ⟨m, hm⟩ : ∃ m, fac (α.1 0 1) = m + 1 := ⟨fac (α.1 0 1) - 1, by omega⟩
  have e : LW α = 0 :: ((List.range m).map Nat.succ).filter (fun r => lawB α (rv (α.1 0 1) r)) := by
    unfold LW
    rw [hm, List.range_succ_eq_map, List.filter_cons, if_pos (law_0 hT)]
  rw [e]
  exact ⟨by rw [List.length_cons]; omega, rfl⟩
/-! packed rows: two places changed, the thing of a place -/
def exN (T x a b : Nat) : Nat := Nat.xor x (Nat.lor (Nat.mul (Nat.land (Nat.xor (Nat.div x (Nat.pow 2 (Nat.mul 3 (Nat.sub (Nat.sub T 1) a)))) (Nat.div x (Nat.pow 2 (Nat.mul 3 (Nat.sub (Nat.sub T 1) b))))) 7) (Nat.pow 2 (Nat.mul 3 (Nat.sub (Nat.sub T 1) a)))) (Nat.mul (Nat.land (Nat.xor (Nat.div x (Nat.pow 2 (Nat.mul 3 (Nat.sub (Nat.sub T 1) a)))) (Nat.div x (Nat.pow 2 (Nat.mul 3 (Nat.sub (Nat.sub T 1) b))))) 7) (Nat.pow 2 (Nat.mul 3 (Nat.sub (Nat.sub T 1) b)))))
def swL (T : Nat) (l : List Nat) (a b : Nat) : List Nat := (List.range T).map (swp a b (fun i => l.getD i 0))
theorem ex_chk : ∀ T, T < 7 → (rws T).all (fun l => (List.range T).all (fun b => (List.range b).all (fun a => Nat.beq (exN T (pk l 0) a b) (pk (swL T l a b) 0)))) = true := by decide +kernel
theorem dg_chk : ∀ T, T < 7 → (rws T).all (fun l => Nat.blt (pk l 0) 262144 && (List.range T).all (fun p => Nat.beq (Nat.land (Nat.div (pk l 0) (Nat.pow 2 (Nat.mul 3 (Nat.sub (Nat.sub T 1) p)))) 7) (l.getD p 0))) = true := by decide +kernel
theorem swr_row {T r a b : Nat} (hT : T ≤ 6) (hr : r < fac T) (ha : a < T) (hb : b < T) : rowL T (swr T r a b) = swL T (rowL T r) a b := by
  obtain ⟨r', h1, h2⟩ := row_of hT (swp_PI (rv_PI hT hr) ha hb)
  have e : swr T r a b = r' := by unfold swr; rw [← h2, rowL_ro hT h1]
  rw [e, h2]
  rfl
theorem exN_ok {T r a b : Nat} (hT : T ≤ 6) (hr : r < fac T) (hab : a < b) (hb : b < T) : exN T (pk (rowL T r) 0) a b = pk (rowL T (swr T r a b)) 0 := by
  have h := List.all_eq_true.1 (ex_chk T (by omega)) _ (rowL_mem hT hr)
  have h2 := List.all_eq_true.1 h b (List.mem_range.2 hb)
  have h3 := List.all_eq_true.1 h2 a (List.mem_range.2 hab)
  rw [swr_row hT hr (by omega) hb]
  exact Nat.eq_of_beq_eq_true h3
theorem pk_bd {T r : Nat} (hT : T ≤ 6) (hr : r < fac T) : pk (rowL T r) 0 < 262144 := by
  have h := List.all_eq_true.1 (dg_chk T (by omega)) _ (rowL_mem hT hr)
  rw [Bool.and_eq_true, Nat.blt_eq] at h
  exact h.1
theorem pk_dg {T r p : Nat} (hT : T ≤ 6) (hr : r < fac T) (hp : p < T) : (pk (rowL T r) 0 / 2 ^ (3 * (T - 1 - p))) &&& 7 = rv T r p := by
  have h := List.all_eq_true.1 (dg_chk T (by omega)) _ (rowL_mem hT hr)
  rw [Bool.and_eq_true] at h
  have h2 := List.all_eq_true.1 h.2 p (List.mem_range.2 hp)
  exact Nat.eq_of_beq_eq_true h2
theorem iw_sh {T p : Nat} (hT : T ≤ 6) (hp : p < T) : iw (3 * iw (iw ((T : Int) - 1) - (p : Int))) = ((3 * (T - 1 - p) : Nat) : Int) := by
  rw [iw_id (x := (T : Int) - 1) (by omega) (by omega), iw_id (x := (T : Int) - 1 - (p : Int)) (by omega) (by omega), iw_id (by omega) (by omega)]
  omega
theorem p15 {k : Nat} (h : k ≤ 15) : 2 ^ k ≤ 32768 := Nat.pow_le_pow_right (n := 2) (j := 15) (by decide) h
theorem and7 (x : Nat) : x &&& 7 < 8 := Nat.lt_of_le_of_lt Nat.and_le_right (by decide)
theorem x_exN {T x a b : Nat} (hT : T ≤ 6) (hx : x < 262144) (ha : a < T) (hb : b < T) : (xxor (x : Int) (xior (xshl (xand (xxor (xshr (x : Int) (iw (3 * iw (iw ((T : Int) - 1) - (a : Int))))) (xshr (x : Int) (iw (3 * iw (iw ((T : Int) - 1) - (b : Int)))))) 7) (iw (3 * iw (iw ((T : Int) - 1) - (a : Int))))) (xshl (xand (xxor (xshr (x : Int) (iw (3 * iw (iw ((T : Int) - 1) - (a : Int))))) (xshr (x : Int) (iw (3 * iw (iw ((T : Int) - 1) - (b : Int)))))) 7) (iw (3 * iw (iw ((T : Int) - 1) - (b : Int))))))) = ((exN T x a b : Nat) : Int) := by
  rw [iw_sh hT ha, iw_sh hT hb]
  have ka : 3 * (T - 1 - a) ≤ 15 := by omega
  have kb : 3 * (T - 1 - b) ≤ 15 := by omega
  have e : exN T x a b = x ^^^ ((((x / 2 ^ (3 * (T - 1 - a))) ^^^ (x / 2 ^ (3 * (T - 1 - b)))) &&& 7) * 2 ^ (3 * (T - 1 - a)) ||| (((x / 2 ^ (3 * (T - 1 - a))) ^^^ (x / 2 ^ (3 * (T - 1 - b)))) &&& 7) * 2 ^ (3 * (T - 1 - b))) := rfl
  rw [e]
  generalize 3 * (T - 1 - a) = u at ka ⊢
  generalize 3 * (T - 1 - b) = w at kb ⊢
  have d1 : x / 2 ^ u < 262144 := Nat.lt_of_le_of_lt (Nat.div_le_self _ _) hx
  have d2 : x / 2 ^ w < 262144 := Nat.lt_of_le_of_lt (Nat.div_le_self _ _) hx
  have d3 : (x / 2 ^ u) ^^^ (x / 2 ^ w) < 262144 := Nat.xor_lt_two_pow (n := 18) d1 d2
  rw [xshr_nat (by omega) (by omega), xshr_nat (by omega) (by omega), xxor_nat (by omega) (by omega)]
  have e7 := xand_nat (a := (x / 2 ^ u) ^^^ (x / 2 ^ w)) (b := 7) (by omega)
  rw [show ((7 : Nat) : Int) = 7 from rfl] at e7
  rw [e7]
  have d4 := and7 ((x / 2 ^ u) ^^^ (x / 2 ^ w))
  generalize ((x / 2 ^ u) ^^^ (x / 2 ^ w)) &&& 7 = dd at d4 ⊢
  have m1 : dd * 2 ^ u ≤ 7 * 32768 := Nat.mul_le_mul (by omega) (p15 ka)
  have m2 : dd * 2 ^ w ≤ 7 * 32768 := Nat.mul_le_mul (by omega) (p15 kb)
  have m3 : dd * 2 ^ u ||| dd * 2 ^ w < 262144 := Nat.or_lt_two_pow (n := 18) (show _ < 262144 by omega) (show _ < 262144 by omega)
  rw [xshl_nat (by omega) (by omega), xshl_nat (by omega) (by omega), xior_nat (by omega) (by omega), xxor_nat (by omega) (by omega)]
theorem x_pk {x t : Nat} (hx : x < 262144) (ht : t < 8) : xior (xshl (x : Int) 3) (t : Int) = ((8 * x + t : Nat) : Int) := by
  have h3 := xshl_nat (a := x) (j := 3) (by decide) (by omega)
  rw [show ((3 : Nat) : Int) = 3 from rfl, show 2 ^ 3 = 8 from rfl] at h3
  rw [h3, xior_nat (by omega) (by omega)]
  have := Nat.two_pow_add_eq_or_of_lt (i := 3) (b := t) ht x
  rw [show 2 ^ 3 = 8 from rfl] at this
  rw [this, Nat.mul_comm]
/-! counting and least over lists -/
theorem sp_cnt_list (g : Nat → Bool) (l : List Nat) : ∀ k, k ≤ l.length → sp_cnt (fun k => g (l.getD k 0)) k = (l.take k).countP g
  | 0, _ => by rw [List.take_zero]; rfl
  | k + 1, h => by
    have e : l.take (k + 1) = l.take k ++ [l.getD k 0] := by
      rw [List.getD_eq_getElem?_getD, List.getElem?_eq_getElem (by omega), List.take_succ, List.getElem?_eq_getElem (by omega)]
      rfl
    rw [sp_cnt, sp_cnt_list g l k (by omega), e, List.countP_append, List.countP_singleton]
def cgB (α : Al) (n r : Nat) : Bool := decide (cm α n r < 99) && fitB α (rv (α.1 0 1) r)
theorem cmN_LW (α : Al) (n : Nat) : cmN α n (FT α).length = sp_cnt (fun k => cgB α n ((LW α).getD k 0)) (LW α).length := by
  have e1 := sp_cnt_list (fun r => decide (cm α n r < 99)) (FT α) (FT α).length (Nat.le_refl _)
  rw [List.take_length] at e1
  have e2 := sp_cnt_list (cgB α n) (LW α) (LW α).length (Nat.le_refl _)
  rw [List.take_length] at e2
  have e3 : cmN α n (FT α).length = sp_cnt (fun k => decide (cm α n ((FT α).getD k 0) < 99)) (FT α).length := rfl
  rw [e3, e1, e2, FT, ft_filter, LW, List.countP_filter, List.countP_filter]
  apply cnt_congr
  intro r _
  unfold cgB fitB
  cases decide (cm α n r < 99) <;> cases lawB α (rv (α.1 0 1) r) <;> cases seenB α (rv (α.1 0 1) r) <;> rfl
theorem cmL_ok (α : Al) (n : Nat) : ∀ k, (∀ i, i < k → cmL α n k ≤ cmF α n i) ∧ (cmL α n k = 99 ∨ ∃ i, i < k ∧ cmL α n k = cmF α n i)
  | 0 => ⟨fun i hi => absurd hi (Nat.not_lt_zero i), Or.inl rfl⟩
  | k + 1 => by
    obtain ⟨h1, h2⟩ := cmL_ok α n k
    rw [cmL]
    by_cases c : cmF α n k < cmL α n k
    · rw [if_pos c]
      refine ⟨fun i hi => ?_, Or.inr ⟨k, by omega, rfl⟩⟩
      by_cases e : i = k
      · rw [e]; exact Nat.le_refl _
      · have := h1 i (by omega); omega
    · rw [if_neg c]
      refine ⟨fun i hi => ?_, ?_⟩
      · by_cases e : i = k
        · rw [e]; omega
        · exact h1 i (by omega)
      · rcases h2 with h2 | ⟨i, hi, e⟩
        · exact Or.inl h2
        · exact Or.inr ⟨i, by omega, e⟩
theorem FT_ix {α : Al} {r : Nat} (hr : r < fac (α.1 0 1)) (h : fitB α (rv (α.1 0 1) r) = true) : ∃ k, k < (FT α).length ∧ (FT α).getD k 0 = r := by
  have hm : r ∈ FT α := ft_mem.2 ⟨hr, h⟩
  obtain ⟨k, hk, e⟩ := List.mem_iff_getElem.1 hm
  refine ⟨k, hk, ?_⟩
  rw [List.getD_eq_getElem?_getD, List.getElem?_eq_getElem hk]
  exact e
theorem sp_cnt_ex {f : Nat → Bool} : ∀ n, ¬ sp_cnt f n = 0 → ∃ k, k < n ∧ f k = true
  | 0, h => absurd rfl h
  | n + 1, h => by
    rw [sp_cnt] at h
    by_cases c : f n = true
    · exact ⟨n, by omega, c⟩
    · rw [if_neg c, Nat.add_zero] at h
      obtain ⟨k, hk, e⟩ := sp_cnt_ex n h
      exact ⟨k, by omega, e⟩
/-- the least that the other way finds is the same -/
theorem cmL_uni {α : Al} (hT : α.1 0 1 ≤ 6) {n F : Nat} (hn : n ≤ 6) (h0 : ¬ cmN α n (FT α).length = 0) (h1 : ∀ k, k < (LW α).length → cgB α n ((LW α).getD k 0) = true → F ≤ cm α n ((LW α).getD k 0)) (h2 : F = 7 ∨ ∃ k, k < (LW α).length ∧ cgB α n ((LW α).getD k 0) = true ∧ F = cm α n ((LW α).getD k 0)) : F = cmL α n (FT α).length := by
  obtain ⟨k0, hk0, e0⟩ := sp_cnt_ex _ h0
  have e0 := of_decide_eq_true e0
  obtain ⟨g1, g2⟩ := cmL_ok α n (FT α).length
  have lw : ∀ i, i < (FT α).length → cmF α n i < 99 → F ≤ cmF α n i := fun i hi hc => by
    obtain ⟨r1, r2⟩ := FT_r hi
    have hl : lawB α (rv (α.1 0 1) ((FT α).getD i 0)) = true := by unfold fitB at r2; rw [Bool.and_eq_true] at r2; exact r2.1
    obtain ⟨k, hk, e⟩ := LW_ix r1 hl
    have := h1 k hk (by unfold cgB; rw [e, Bool.and_eq_true]; exact ⟨decide_eq_true hc, r2⟩)
    rw [e] at this
    exact this
  have l0 := g1 k0 hk0
  have hF0 := lw k0 hk0 e0
  apply Nat.le_antisymm
  · rcases g2 with g2 | ⟨i, hi, e⟩
    · omega
    · have := lw i hi (by omega); omega
  · rcases h2 with h2 | ⟨k, hk, c, e⟩
    · obtain ⟨r1, _⟩ := FT_r hk0
      have := cm_bd hT n _ r1
      have : cmF α n k0 = cm α n ((FT α).getD k0 0) := rfl
      omega
    · unfold cgB at c
      rw [Bool.and_eq_true] at c
      obtain ⟨i, hi, e2⟩ := FT_ix (LW_at hk).1 c.2
      have := g1 i hi
      unfold cmF at this
      rw [e2] at this
      omega
