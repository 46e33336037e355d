/-! the fewest words by which all are told apart: first finds -/
def fq {β : Type} (m : Nat) (f : Nat → Option β) : Nat → Option β
  | 0 => none
  | k + 1 => match f (m - (k + 1)) with
    | some x => some x
    | none => fq m f k
theorem fq_s {β : Type} {m k : Nat} {f : Nat → Option β} {x : β} (h : f (m - (k + 1)) = some x) : fq m f (k + 1) = some x := by rw [fq, h]
theorem fq_n {β : Type} {m k : Nat} {f : Nat → Option β} (h : f (m - (k + 1)) = none) : fq m f (k + 1) = fq m f k := by rw [fq, h]
theorem fq_none {β : Type} {m : Nat} {f : Nat → Option β} : ∀ k, (∀ q, m - k ≤ q → q < m → f q = none) → k ≤ m → fq m f k = none
  | 0, _, _ => rfl
  | k + 1, h, hk => by rw [fq_n (h _ (Nat.le_refl _) (by omega))]; exact fq_none k (fun q h1 h2 => h q (by omega) h2) (by omega)
theorem fq_ok {β : Type} {m : Nat} {f : Nat → Option β} {x : β} : ∀ k, k ≤ m → fq m f k = some x → ∃ q, m - k ≤ q ∧ q < m ∧ f q = some x
  | 0, _, h => by cases h
  | k + 1, hk, h => by
    cases e : f (m - (k + 1)) with
    | some y => rw [fq_s e] at h; cases h; exact ⟨_, Nat.le_refl _, by omega, e⟩
    | none =>
      rw [fq_n e] at h
      obtain ⟨q, h1, h2, h3⟩ := fq_ok k (by omega) h
      exact ⟨q, by omega, h2, h3⟩
theorem lp_fq {β : Type} {m : Nat} {f : Nat → Option β} {Wh : Nat → Prop} {Wx : Prop} {R : β → Prop} (hs : ∀ q, q < m → (∀ x, f q = some x → R x) → (f q = none → Wh (q + 1)) → Wh q) (hx : Wx → Wh m) : ∀ k q, q + k = m → (∀ x, fq m f k = some x → R x) → (fq m f k = none → Wx) → Wh q := by
  intro k
  induction k with
  | zero => intro q hq _ h2; rw [show q = m by omega]; exact hx (h2 rfl)
  | succ k ih =>
    intro q hq h1 h2
    have eq : m - (k + 1) = q := by omega
    refine hs q (by omega) (fun x e => h1 x (fq_s (by rw [eq]; exact e))) (fun e => ?_)
    have en := fq_n (m := m) (k := k) (f := f) (by rw [eq]; exact e)
    rw [en] at h1 h2
    exact ih (q + 1) (by omega) h1 h2
def srch (m : Nat) (P : List Nat → Bool) : Nat → Nat → List Nat → Option (List Nat)
  | 0, _, pre => if P pre then some pre else none
  | e + 1, first, pre => fq m (fun q => srch m P e (q + 1) (pre ++ [q])) (m - first)
/-! answers -/
def ansB (α : Al) (k : Nat) : Nat := sp_bits (fun q => gW α q ((FT α).getD k 0)) (4 * α.1 0 1)
def bs : List Nat → Nat
  | [] => 0
  | q :: l => 2 ^ q ||| bs l
def ptB (α : Al) (S : Nat) : Bool := sp_all (fun k => sp_all (fun j => !((ansB α k ^^^ ansB α j) &&& S == 0)) k) (FT α).length
def AP1 (α : Al) (n : Nat) : Option (List Nat) := if 2 ^ n < (FT α).length then none else srch (4 * α.1 0 1) (fun l => ptB α (bs l)) n 0 []
def AP (α : Al) : Option (List Nat) := fq 5 (AP1 α) 5
def ap_i (l : List Nat) (i : Nat) : Int := match l[i]? with
  | some q => (q : Int)
  | none => -1
def r_apart (α : Al) (i : Int) : Int := if i < -1 then -3 else match AP α with
  | none => -1
  | some l => if i = -1 then (l.length : Int) else ap_i l i.toNat
theorem bits_24 {f : Nat → Bool} {T : Nat} (hT : T ≤ 6) : sp_bits f (4 * T) < 16777216 := Nat.lt_of_lt_of_le (sp_bits_lt f _) (Nat.pow_le_pow_right (n := 2) (j := 24) (by decide) (by omega))
theorem p24 {q : Nat} (hq : q < 24) : 2 ^ q < 16777216 := Nat.pow_lt_pow_right (n := 24) (by decide) hq
theorem or24 {a b : Nat} (ha : a < 16777216) (hb : b < 16777216) : a ||| b < 16777216 := Nat.or_lt_two_pow (n := 24) ha hb
def vAn (μ : Mem) (α : Al) : Prop := μ 61 26 = (((FT α).length : Nat) : Int) ∧ ∀ k, k < (FT α).length → μ 74 k = ((ansB α k : Nat) : Int)
set_option maxRecDepth 20000 in
theorem M_parts_ok {d S : Nat} {μ : Mem} {α : Al} {Q : AV → Mem → Prop} (hw : wf α) (hA : vAn μ α) (h : Q (xI (b01 (ptB α S))) μ) : GM d 189 [xR 61, xI (S : Int)] μ Q := by
  have hT := wf_T hw
  have hL := FT_le hw
  refine ge_M_parts ?_
  have key : ∀ m k v3, k + m = (FT α).length → (∀ k', k' < k → sp_all (fun j => !((ansB α k' ^^^ ansB α j) &&& S == 0)) k' = true) → DW d 189 2 [xR 61, xI (S : Int), xI (k : Int), v3] μ Q := by
    intro m
    induction m with
    | zero =>
      intro k v3 hk hz
      refine sg_M_parts_2 ?_
      rw [hA.1, if_neg (by omega)]
      have e : ptB α S = true := sp_all_iff.2 (fun i hi => hz i (by omega))
      rw [e] at h
      exact h
    | succ m ih =>
      intro k v3 hk hz
      have hk' : k < (FT α).length := by omega
      refine sg_M_parts_2 ?_
      rw [hA.1, if_pos (by omega)]
      have inn : ∀ n j, j + n = k → (∀ j', j' < j → (!((ansB α k ^^^ ansB α j') &&& S == 0)) = true) → DW d 189 9 [xR 61, xI (S : Int), xI (k : Int), xI (j : Int)] μ Q := by
        intro n
        induction n with
        | zero =>
          intro j hj hz2
          refine sg_M_parts_9 ?_
          rw [if_neg (by omega)]
          refine sg_M_parts_29 ?_
          rw [iw_k1 (by omega)]
          refine ih (k + 1) _ (by omega) (fun k' hk2 => ?_)
          by_cases c : k' = k
          · rw [c]; exact sp_all_iff.2 (fun i hi => hz2 i (by omega))
          · exact hz k' (by omega)
        | succ n ihn =>
          intro j hj hz2
          have b1 : ansB α k < 16777216 := bits_24 hT
          have b2 : ansB α j < 16777216 := bits_24 hT
          have b3 : ansB α k ^^^ ansB α j < 16777216 := Nat.xor_lt_two_pow (n := 24) b1 b2
          refine sg_M_parts_9 ?_
          rw [if_pos (by omega), wb_eq (by omega) (by omega), wb_eq (by omega) (by omega), Int.toNat_natCast, Int.toNat_natCast, hA.2 k hk', hA.2 j (by omega), xxor_nat (by omega) (by omega), xand_nat (by omega), iw_k1 (by omega)]
          refine wi (fun c => ?_) (fun c => ?_)
          · have c' : (ansB α k ^^^ ansB α j) &&& S = 0 := by omega
            have e1 : sp_all (fun j => !((ansB α k ^^^ ansB α j) &&& S == 0)) k = false := sp_all_no (k := j) (by omega) (by rw [c']; rfl)
            have e : ptB α S = false := sp_all_no hk' e1
            rw [e] at h
            exact h
          · refine ihn (j + 1) (by omega) (fun j' hj' => ?_)
            by_cases c2 : j' = j
            · rw [c2, Bool.not_eq_true', beq_eq_false_iff_ne]; omega
            · exact hz2 j' (by omega)
      exact inn k 0 (by omega) (fun j' hj' => absurd hj' (Nat.not_lt_zero j'))
  exact key (FT α).length 0 _ (by omega) (fun k' hk' => absurd hk' (Nat.not_lt_zero k'))
def fA (μ μ' : Mem) : Prop := ∀ c j, c ≠ 71 → c ≠ 72 → c ≠ 74 → (c ≠ 61 ∨ j ≠ 26) → μ' c j = μ c j
theorem fM_fA {μ μ' : Mem} (h : fA μ μ') : fM μ μ' := ⟨fun j hj => h 61 j (by decide) (by decide) (by decide) (Or.inr (fun e => by subst e; revert hj; decide)), fun c j h1 h2 _ => h c j (by omega) (by omega) (by omega) (Or.inl (by omega))⟩
set_option maxRecDepth 20000 in
theorem M_layAnswers_ok {d : Nat} {μ : Mem} {α : Al} {Q : AV → Mem → Prop} (hv : vM μ α) (hw : wf α) (h : ∀ μ', fA μ μ' → vM μ' α → vAn μ' α → Q (xI 0) μ') : GM (d + 6) 187 [xR 61] μ Q := by
  have hT := wf_T hw
  have hL := FT_le hw
  refine ge_M_layAnswers ?_
  refine M_layFitting_ok hv hw (fun μ1 hf1 hv1 hF1 => ?_)
  refine gV_mk ?_
  have g1 : fA μ μ1 := fun c j a1 a2 _ a4 => hf1 c j a1 a2 a4
  have key : ∀ m k (ν : Mem) v2, k + m = (FT α).length → (∀ c j, c ≠ 71 → c ≠ 74 → ν c j = μ1 c j) → (∀ k', k' < k → ν 74 k' = ((ansB α k' : Nat) : Int)) → DW (d + 6) 187 4 [xR 61, xI (k : Int), v2] ν Q := by
    intro m
    induction m with
    | zero =>
      intro k ν v2 hk hf hI
      have f2 : fA μ ν := fun c j a1 a2 a3 a4 => (hf c j a1 a3).trans (g1 c j a1 a2 a3 a4)
      refine sg_M_layAnswers_4 ?_
      rw [hf 61 26 (by decide) (by decide), hF1.1, if_neg (by omega)]
      refine h ν f2 (vM_fr (fM_fA f2) hv) ⟨?_, fun k' hk' => hI k' (by omega)⟩
      rw [hf 61 26 (by decide) (by decide)]; exact hF1.1
    | succ m ih =>
      intro k ν v2 hk hf hI
      have hk' : k < (FT α).length := by omega
      obtain ⟨r1, r2⟩ := FT_r hk'
      have f2 : fA μ ν := fun c j a1 a2 a3 a4 => (hf c j a1 a3).trans (g1 c j a1 a2 a3 a4)
      have hv' := vM_fr (fM_fA f2) hv
      refine sg_M_layAnswers_4 ?_
      rw [hf 61 26 (by decide) (by decide), hF1.1, if_pos (by omega), wb_eq (by omega) (by omega), Int.toNat_natCast, hf 72 k (by decide) (by decide), hF1.2 k hk']
      refine M_lay_ok hT (vM_T hv') r1 (fun m1 q1 q2 => ?_)
      refine gV_mk ?_
      rw [wb_eq (by omega) (by omega)]
      have inn : ∀ n q (κ : Mem), q + n = 4 * α.1 0 1 → (∀ c j, c ≠ 71 → c ≠ 74 → κ c j = μ1 c j) → (∀ p, p < α.1 0 1 → κ 71 p = ((rv (α.1 0 1) ((FT α).getD k 0) p : Nat) : Int)) → (∀ k', k' < k → κ 74 k' = ((ansB α k' : Nat) : Int)) → κ 74 k = ((sp_bits (fun q => gW α q ((FT α).getD k 0)) q : Nat) : Int) → DW (d + 6) 187 22 [xR 61, xI (k : Int), xI (q : Int)] κ Q := by
        intro n
        induction n with
        | zero =>
          intro q κ hq hf hL2 hI hc
          have f3 : fA μ κ := fun c j a1 a2 a3 a4 => (hf c j a1 a3).trans (g1 c j a1 a2 a3 a4)
          have hv3 := vM_fr (fM_fA f3) hv
          refine sg_M_layAnswers_22 ?_
          rw [vM_T hv3, if_neg (by rw [iw_id (by omega) (by omega)]; omega)]
          refine sg_M_layAnswers_60 ?_
          rw [iw_k1 (by omega)]
          refine ih (k + 1) κ _ (by omega) hf (fun k' hk2 => ?_)
          by_cases c : k' = k
          · rw [c, hc, show q = 4 * α.1 0 1 by omega]; rfl
          · exact hI k' (by omega)
        | succ n ihn =>
          intro q κ hq hf hL2 hI hc
          have f3 : fA μ κ := fun c j a1 a2 a3 a4 => (hf c j a1 a3).trans (g1 c j a1 a2 a3 a4)
          have hv3 := vM_fr (fM_fA f3) hv
          have hq4 : q / 4 < α.1 0 1 := by omega
          have hr := rv_lt hT r1 hq4
          have hb : sp_bits (fun q => gW α q ((FT α).getD k 0)) q < 2147483648 := Nat.lt_of_lt_of_le (sp_bits_lt _ q) (Nat.pow_le_pow_right (n := 2) (j := 31) (by decide) (by omega))
          refine sg_M_layAnswers_22 ?_
          rw [vM_T hv3, if_pos (by rw [iw_id (by omega) (by omega)]; omega), wb_eq (by omega) (by omega), xdiv_4 (by omega), xrem_4, wb_eq (by omega) (by omega), Int.toNat_natCast, Int.toNat_natCast, hL2 _ hq4, hc, iw_k1 (by omega)]
          refine M_works_ok hv3 hw hr hq4 ?_
          refine gI_mk ?_
          have h01 := sp_works01 α (rv (α.1 0 1) ((FT α).getD k 0) (q / 4)) (q / 4) ((q % 4 : Nat) : Int)
          have go : ∀ x, x = ((sp_bits (fun q => gW α q ((FT α).getD k 0)) (q + 1) : Nat) : Int) → DW (d + 6) 187 22 [xR 61, xI (k : Int), xI ((q + 1 : Nat) : Int)] (xset κ 74 k x) Q := by
            intro x hx
            refine ihn (q + 1) _ (by omega) (fun c j a1 a2 => by rw [xs_c a2]; exact hf c j a1 a2) (fun p hp => by rw [xs_c (by decide)]; exact hL2 p hp) (fun k' hk2 => by rw [xs_j (by omega)]; exact hI k' hk2) ?_
            rw [xs_s, hx]
          refine wi (fun c => ?_) (fun c => ?_)
          · rw [wb_eq (by omega) (by omega)]
            refine go _ ?_
            rw [xior_0 hb, sp_bits_no (f := fun q => gW α q ((FT α).getD k 0)) (by show ¬ gW α q ((FT α).getD k 0) = true; unfold gW; rw [decide_eq_true_eq]; omega)]
          · rw [wb_eq (by omega) (by omega)]
            refine go _ ?_
            exact sp_bits_or (f := fun q => gW α q ((FT α).getD k 0)) (by omega) (decide_eq_true (by omega))
      refine inn (4 * α.1 0 1) 0 _ (by omega) (fun c j a1 a2 => ?_) (fun p hp => ?_) (fun k' hk2 => ?_) xs_s
      · rw [xs_c a2, q1 c j a1]; exact hf c j a1 a2
      · rw [xs_c (by decide)]; exact q2 p hp
      · rw [xs_j (by omega), q1 74 k' (by decide)]; exact hI k' hk2
  exact key (FT α).length 0 μ1 _ (by omega) (fun _ _ _ _ => rfl) (fun k' hk' => absurd hk' (Nat.not_lt_zero k'))
