/-! the rows that fit -/
def ft (α : Al) : Nat → List Nat
  | 0 => []
  | r + 1 => if fitB α (rv (α.1 0 1) r) then ft α r ++ [r] else ft α r
def FT (α : Al) : List Nat := ft α (fac (α.1 0 1))
theorem ft_mem {α : Al} {r : Nat} : ∀ {n : Nat}, r ∈ ft α n ↔ r < n ∧ fitB α (rv (α.1 0 1) r) = true
  | 0 => ⟨fun h => (by cases h), fun h => absurd h.1 (Nat.not_lt_zero r)⟩
  | n + 1 => by
    rw [ft]
    by_cases c : fitB α (rv (α.1 0 1) n) = true
    · rw [if_pos c, List.mem_append, ft_mem, List.mem_singleton]
      constructor
      · rintro (h | h)
        · exact ⟨by omega, h.2⟩
        · rw [h]; exact ⟨by omega, c⟩
      · intro h
        by_cases e : r = n
        · exact Or.inr e
        · exact Or.inl ⟨by omega, h.2⟩
    · rw [if_neg c, ft_mem]
      constructor
      · intro h; exact ⟨by omega, h.2⟩
      · intro h
        by_cases e : r = n
        · rw [e] at h; exact absurd h.2 c
        · exact ⟨by omega, h.2⟩
theorem ft_len (α : Al) : ∀ n, (ft α n).length ≤ n
  | 0 => Nat.le_refl 0
  | n + 1 => by
    have := ft_len α n
    rw [ft]
    split
    · rw [List.length_append]; simp only [List.length_cons, List.length_nil]; omega
    · omega
theorem getD_mem {l : List Nat} {k : Nat} (h : k < l.length) : l.getD k 0 ∈ l := by
  rw [List.getD_eq_getElem?_getD, List.getElem?_eq_getElem h]
  exact List.getElem_mem h
theorem getD_app1 {l : List Nat} {x k : Nat} (h : k < l.length) : (l ++ [x]).getD k 0 = l.getD k 0 := by
  rw [List.getD_eq_getElem?_getD, List.getD_eq_getElem?_getD, List.getElem?_append_left h]
theorem getD_app2 {l : List Nat} {x : Nat} : (l ++ [x]).getD l.length 0 = x := by
  rw [List.getD_eq_getElem?_getD, List.getElem?_append_right (Nat.le_refl _), Nat.sub_self]
  rfl
theorem FT_r {α : Al} {k : Nat} (h : k < (FT α).length) : (FT α).getD k 0 < fac (α.1 0 1) ∧ fitB α (rv (α.1 0 1) ((FT α).getD k 0)) = true := ft_mem.1 (getD_mem h)
def fF (μ μ' : Mem) : Prop := ∀ c j, c ≠ 71 → c ≠ 72 → (c ≠ 61 ∨ j ≠ 26) → μ' c j = μ c j
theorem fM_fF {μ μ' : Mem} (h : fF μ μ') : fM μ μ' := ⟨fun j hj => h 61 j (by decide) (by decide) (Or.inr (fun e => by subst e; revert hj; decide)), fun c j h1 h2 _ => h c j (by omega) (by omega) (Or.inl (by omega))⟩
def vF (μ : Mem) (α : Al) : Prop := μ 61 26 = (((FT α).length : Nat) : Int) ∧ ∀ k, k < (FT α).length → μ 72 k = (((FT α).getD k 0 : Nat) : Int)
theorem vF_71 {μ μ' : Mem} {α : Al} (h : ∀ c j, c ≠ 71 → μ' c j = μ c j) (hF : vF μ α) : vF μ' α := ⟨(h 61 26 (by decide)).trans hF.1, fun k hk => (h 72 k (by decide)).trans (hF.2 k hk)⟩
set_option maxRecDepth 20000 in
theorem M_layFitting_ok {d : Nat} {μ : Mem} {α : Al} {Q : AV → Mem → Prop} (hv : vM μ α) (hw : wf α) (h : ∀ μ', fF μ μ' → vM μ' α → vF μ' α → Q (xI 0) μ') : GM (d + 5) 179 [xR 61] μ Q := by
  have hT := wf_T hw
  have hfc := fac_le _ hT
  refine ge_M_layFitting ?_
  refine lp_up (fun r (ν : Mem) => DW (d + 5) 179 5 [xR 61, xI (r : Int)] ν Q) (fun r ν => fF μ ν ∧ ν 61 26 = (((ft α r).length : Nat) : Int) ∧ ∀ k, k < (ft α r).length → ν 72 k = (((ft α r).getD k 0 : Nat) : Int)) (fac (α.1 0 1)) ?_ ?_ (fac (α.1 0 1)) 0 _ (by omega) ⟨fun c j _ _ h3 => ?_, rfl, fun k hk => absurd hk (Nat.not_lt_zero k)⟩
  · intro r ν hr hI hn
    obtain ⟨hf, h1, h2⟩ := hI
    have hv' := vM_fr (fM_fF hf) hv
    have hlen := ft_len α r
    refine sg_M_layFitting_5 ?_
    refine M_rowMany_ok hT (vM_T hv') ?_
    refine gI_mk ?_
    rw [if_pos (by omega)]
    refine M_lay_ok hT (vM_T hv') hr (fun m3 g1 g2 => ?_)
    refine gV_mk ?_
    have hv3 := vM_fr (fM_71 g1) hv'
    have f3 : fF μ m3 := fun c j a1 a2 a3 => (g1 c j a1).trans (hf c j a1 a2 a3)
    refine M_isLawful_ok hv3 hw (fun p hp => rv_lt hT hr hp) g2 ?_
    refine gI_mk ?_
    rw [iw_k1 (by omega)]
    have nofit : fitB α (rv (α.1 0 1) r) = false → DW (d + 5) 179 5 [xR 61, xI ((r + 1 : Nat) : Int)] m3 Q := fun e => by
      have e2 : ft α (r + 1) = ft α r := by rw [ft, if_neg (by rw [e]; decide)]
      refine hn m3 ⟨f3, ?_, ?_⟩
      · rw [e2, g1 61 26 (by decide)]; exact h1
      · rw [e2]; intro k hk; rw [g1 72 k (by decide)]; exact h2 k hk
    cases e1 : lawB α (rv (α.1 0 1) r) with
    | false =>
      rw [if_pos (by rfl)]
      exact nofit (by unfold fitB; rw [e1]; rfl)
    | true =>
      rw [if_neg (by decide)]
      refine M_isAsSeen_ok hv3 hw (fun p hp => rv_lt hT hr hp) g2 ?_
      refine gI_mk ?_
      cases e3 : seenB α (rv (α.1 0 1) r) with
      | false =>
        rw [if_pos (by rfl)]
        exact nofit (by unfold fitB; rw [e1, e3]; rfl)
      | true =>
        rw [if_neg (by decide)]
        have e : fitB α (rv (α.1 0 1) r) = true := by unfold fitB; rw [e1, e3]; rfl
        have e2 : ft α (r + 1) = ft α r ++ [r] := by rw [ft, if_pos e]
        have e5 : (ft α (r + 1)).length = (ft α r).length + 1 := by rw [e2, List.length_append, List.length_singleton]
        have e4 : m3 61 26 = (((ft α r).length : Nat) : Int) := (g1 61 26 (by decide)).trans h1
        rw [e4, wb_eq (by omega) (by omega), iw_k1 (by omega), Int.toNat_natCast]
        refine hn _ ⟨fun c j a1 a2 a3 => ?_, ?_, ?_⟩
        · rw [xs_if, if_neg (fun w => by omega), xs_c a2]; exact f3 c j a1 a2 a3
        · rw [e5]; exact xs_s
        · intro k hk
          rw [e5] at hk
          have e6 : ∀ x : Int, xset (xset m3 72 (ft α r).length (r : Int)) 61 26 x 72 k = xset m3 72 (ft α r).length (r : Int) 72 k := fun x => xs_c (by decide)
          rw [e6]
          by_cases c : k = (ft α r).length
          · have e7 : (ft α (r + 1)).getD k 0 = r := by rw [e2, c]; exact getD_app2
            rw [e7, c]; exact xs_s
          · have e7 : (ft α (r + 1)).getD k 0 = (ft α r).getD k 0 := by rw [e2]; exact getD_app1 (by omega)
            rw [e7, xs_j c, g1 72 k (by decide)]; exact h2 k (by omega)
  · intro ν hI
    obtain ⟨hf, h1, h2⟩ := hI
    have hv' := vM_fr (fM_fF hf) hv
    refine sg_M_layFitting_5 ?_
    refine M_rowMany_ok hT (vM_T hv') ?_
    refine gI_mk ?_
    rw [if_neg (by omega)]
    exact h ν hf hv' ⟨h1, h2⟩
  · rw [xs_if, if_neg (fun w => by omega)]
/-! counting over what fits -/
def cF (α : Al) (g : Nat → Bool) : Nat → Nat
  | 0 => 0
  | k + 1 => cF α g k + (if g ((FT α).getD k 0) then 1 else 0)
theorem cF_le (α : Al) (g : Nat → Bool) : ∀ k, cF α g k ≤ k
  | 0 => Nat.le_refl 0
  | k + 1 => by
    have := cF_le α g k
    rw [cF]
    split <;> omega
theorem cF_cnt (α : Al) (g : Nat → Bool) : ∀ k, k ≤ (FT α).length → cF α g k = ((FT α).take k).countP g
  | 0, _ => rfl
  | k + 1, h => by
    have e : (FT α).take (k + 1) = (FT α).take k ++ [(FT α).getD k 0] := by
      rw [List.getD_eq_getElem?_getD, List.getElem?_eq_getElem (by omega), List.take_succ, List.getElem?_eq_getElem (by omega)]
      rfl
    rw [cF, cF_cnt α g k (by omega), e, List.countP_append, List.countP_singleton]
def CF (α : Al) (g : Nat → Bool) : Nat := cF α g (FT α).length
theorem CF_cnt (α : Al) (g : Nat → Bool) : CF α g = (FT α).countP g := by
  unfold CF
  rw [cF_cnt α g _ (Nat.le_refl _), List.take_length]
theorem FT_le {α : Al} (hw : wf α) : (FT α).length ≤ 720 := by
  have h1 := ft_len α (fac (α.1 0 1))
  have h2 := fac_le _ (wf_T hw)
  unfold FT
  omega
theorem M_fit_ok {d : Nat} {μ : Mem} {α : Al} {Q : AV → Mem → Prop} (hv : vM μ α) (hw : wf α) (h : ∀ μ', vM μ' α → Q (xI (((FT α).length : Nat) : Int)) μ') : GM (d + 6) 178 [xR 61] μ Q := by
  refine ge_M_fit ?_
  refine M_layFitting_ok hv hw (fun μ' hf hv' hF => ?_)
  refine gV_mk ?_
  rw [hF.1]
  exact h μ' hv'
/-! bits -/
theorem sp_bits_tb (f : Nat → Bool) (i : Nat) : ∀ n, (sp_bits f n).testBit i = (decide (i < n) && f i)
  | 0 => by rw [sp_bits, Nat.zero_testBit]; simp
  | n + 1 => by
    have hl := sp_bits_lt f n
    by_cases c : f n = true
    · rw [sp_bits, if_pos c, ← sp_or_pow hl, tb_or, sp_bits_tb f i n]
      by_cases e : n = i
      · subst e; simp [c]
      · have : (i < n + 1) = (i < n) := by apply propext; omega
        simp [e, this]
    · rw [sp_bits_no c, sp_bits_tb f i n]
      by_cases e : n = i
      · subst e; simp [c]
      · have : (i < n + 1) = (i < n) := by apply propext; omega
        simp [this]
theorem sp_bits_on {f : Nat → Bool} {n t : Nat} (ht : t < n) : sp_bits f n ||| 2 ^ t = sp_bits (fun i => f i || i == t) n := by
  apply Nat.eq_of_testBit_eq
  intro i
  rw [tb_or, sp_bits_tb, sp_bits_tb]
  by_cases e : t = i
  · subst e; simp [ht]
  · have e2 : ¬ i = t := fun q => e q.symm
    by_cases c : i < n <;> simp [e, e2, c]
theorem sp_bits_ext {f g : Nat → Bool} : ∀ {n : Nat}, (∀ i, i < n → f i = g i) → sp_bits f n = sp_bits g n
  | 0, _ => rfl
  | n + 1, h => by rw [sp_bits, sp_bits, sp_bits_ext (fun i hi => h i (by omega)), h n (by omega)]
theorem sp_bits64 (f : Nat → Bool) {n : Nat} (hn : n ≤ 6) : sp_bits f n < 64 := Nat.lt_of_lt_of_le (sp_bits_lt f n) (Nat.pow_le_pow_right (n := 2) (by decide) hn)
def lB (α : Al) (p : Nat) (k : Nat) : Nat → Bool := fun t => ((FT α).take k).any (fun r => rv (α.1 0 1) r p == t)
def LB (α : Al) (p : Nat) : Nat := sp_bits (lB α p (FT α).length) (α.1 0 1)
theorem lB_step {α : Al} {p k : Nat} (hk : k < (FT α).length) (t : Nat) : lB α p (k + 1) t = (lB α p k t || t == rv (α.1 0 1) ((FT α).getD k 0) p) := by
  have e : (FT α).take (k + 1) = (FT α).take k ++ [(FT α).getD k 0] := by
    rw [List.getD_eq_getElem?_getD, List.getElem?_eq_getElem hk, List.take_succ, List.getElem?_eq_getElem hk]
    rfl
  unfold lB
  rw [e, List.any_append]
  simp only [List.any_cons, List.any_nil, Bool.or_false]
  congr 1
  rw [Bool.eq_iff_iff, beq_iff_eq, beq_iff_eq]
  exact ⟨fun h => h.symm, fun h => h.symm⟩
set_option maxRecDepth 20000 in
theorem M_liesIn_ok {d p : Nat} {μ : Mem} {α : Al} {Q : AV → Mem → Prop} (hv : vM μ α) (hw : wf α) (hF : vF μ α) (hp : p < α.1 0 1) (h : ∀ μ', (∀ c j, c ≠ 71 → μ' c j = μ c j) → Q (xI ((LB α p : Nat) : Int)) μ') : GM (d + 2) 182 [xR 61, xI (p : Int)] μ Q := by
  have hT := wf_T hw
  have hL := FT_le hw
  refine ge_M_liesIn ?_
  have e0 : sp_bits (lB α p 0) (α.1 0 1) = 0 := by
    apply Nat.eq_of_testBit_eq
    intro i
    rw [sp_bits_tb, Nat.zero_testBit]
    simp [lB]
  have w := lp_up (fun k (ν : Mem) => DW (d + 2) 182 4 [xR 61, xI (p : Int), xI ((sp_bits (lB α p k) (α.1 0 1) : Nat) : Int), xI (k : Int)] ν Q) (fun k ν => ∀ c j, c ≠ 71 → ν c j = μ c j) (FT α).length (by
    intro k ν hk hf hn
    obtain ⟨r1, r2⟩ := FT_r hk
    have hF' := vF_71 hf hF
    have hv' := vM_fr (fM_71 hf) hv
    refine sg_M_liesIn_4 ?_
    rw [hF'.1, if_pos (by omega), wb_eq (by omega) (by omega), Int.toNat_natCast, hF'.2 k hk]
    refine M_lay_ok hT (vM_T hv') r1 (fun m1 g1 g2 => ?_)
    refine gV_mk ?_
    have hr := rv_lt hT r1 hp
    rw [wb_eq (by omega) (by omega), Int.toNat_natCast, g2 p hp, x_or (sp_bits64 _ hT) (by omega), sp_bits_on hr, iw_k1 (by omega), ← sp_bits_ext (fun i _ => lB_step hk i)]
    exact hn m1 (fun c j hc => (g1 c j hc).trans (hf c j hc))) (by
    intro ν hf
    have hF' := vF_71 hf hF
    refine sg_M_liesIn_4 ?_
    rw [hF'.1, if_neg (by omega)]
    exact h ν hf) (FT α).length 0 μ (by omega) (fun _ _ _ => rfl)
  rw [e0] at w
  exact w
def r_lies (α : Al) (p : Int) : Int := if p < 0 then -2 else if p < ((α.1 0 1 : Nat) : Int) then ((LB α p.toNat : Nat) : Int) else -2
theorem M_lies_ok {d : Nat} {p : Int} {μ : Mem} {α : Al} {Q : AV → Mem → Prop} (hv : vM μ α) (hw : wf α) (h : ∀ μ', vM μ' α → Q (xI (r_lies α p)) μ') : GM (d + 6) 181 [xR 61, xI p] μ Q := by
  have hT := wf_T hw
  refine ge_M_lies ?_
  unfold r_lies at h
  rw [vM_T hv, iw_m1 (by omega)]
  refine wi (fun c0 => ?_) (fun c0 => ?_)
  · rw [if_pos c0] at h; exact h μ hv
  rw [if_neg c0] at h
  refine wi (fun c1 => ?_) (fun c1 => ?_)
  · rw [if_neg (by omega)] at h; exact h μ hv
  rw [if_pos (by omega)] at h
  obtain ⟨p, rfl⟩ := Int.eq_ofNat_of_zero_le (show 0 ≤ p by omega)
  rw [Int.toNat_natCast] at h
  refine M_layFitting_ok hv hw (fun μ1 hf hv1 hF => ?_)
  refine gV_mk ?_
  refine M_liesIn_ok hv1 hw hF (by omega) (fun μ2 hf2 => ?_)
  exact h μ2 (vM_fr (fM_71 hf2) hv1)
def oneB (x : Nat) : Bool := sp_cnt (fun i => x.testBit i) 6 == 1
theorem oneB_chk : ∀ x : Nat, x < 64 → (xand (x : Int) (iw ((x : Int) - 1)) = 0 ∧ ¬ x = 0 ↔ oneB x = true) := by
  have hx : ∀ x : Nat, x < 64 → x = 0 ∨ xand (x : Int) (iw ((x : Int) - 1)) = ((x &&& (x - 1) : Nat) : Int) := by
    intro x hx
    by_cases c : x = 0
    · exact Or.inl c
    · refine Or.inr ?_
      rw [iw_s1 (by omega) (by omega), xand_nat (by omega)]
  have hd : ∀ x : Nat, x < 64 → ((x &&& (x - 1) = 0 ∧ ¬ x = 0) ↔ oneB x = true) := by decide +kernel
  intro x h
  rcases hx x h with e | e
  · subst e
    have := hd 0 (by decide)
    constructor
    · intro q; exact absurd rfl q.2
    · intro q; exact absurd (this.2 q).2 (fun w => w rfl)
  · rw [e]
    have := hd x h
    constructor
    · intro q; exact this.1 ⟨by omega, q.2⟩
    · intro q; have := this.2 q; exact ⟨by omega, this.2⟩
def SU (α : Al) : Nat := sp_bits (fun p => oneB (LB α p)) (α.1 0 1)
set_option maxRecDepth 20000 in
theorem M_sure_ok {d : Nat} {μ : Mem} {α : Al} {Q : AV → Mem → Prop} (hv : vM μ α) (hw : wf α) (h : ∀ μ', vM μ' α → Q (xI ((SU α : Nat) : Int)) μ') : GM (d + 6) 183 [xR 61] μ Q := by
  have hT := wf_T hw
  refine ge_M_sure ?_
  refine M_layFitting_ok hv hw (fun μ1 hf1 hv1 hF1 => ?_)
  refine gV_mk ?_
  refine lp_up (fun p (x : Mem × AV) => DW (d + 6) 183 6 [xR 61, xI ((sp_bits (fun p => oneB (LB α p)) p : Nat) : Int), xI (p : Int), x.2] x.1 Q) (fun p x => ∀ c j, c ≠ 71 → x.1 c j = μ1 c j) (α.1 0 1) ?_ ?_ (α.1 0 1) 0 (μ1, xL 0) (by omega) (fun _ _ _ => rfl)
  · intro p x hp hf hn
    have hF' := vF_71 hf hF1
    have hv' := vM_fr (fM_71 hf) hv1
    refine sg_M_sure_6 ?_
    rw [vM_T hv', if_pos (by omega)]
    refine M_liesIn_ok hv' hw hF' hp (fun m1 g1 => ?_)
    refine gI_mk ?_
    have hb : LB α p < 64 := sp_bits64 _ hT
    have hs := sp_bits_lt (fun p => oneB (LB α p)) p
    have hs6 : sp_bits (fun p => oneB (LB α p)) p < 64 := sp_bits64 _ (by omega)
    have fr : ∀ c j, c ≠ 71 → m1 c j = μ1 c j := fun c j hc => (g1 c j hc).trans (hf c j hc)
    have chk := oneB_chk (LB α p) hb
    rw [iw_k1 (by omega)]
    have no : ¬ oneB (LB α p) = true → DW (d + 6) 183 6 [xR 61, xI (xior ((sp_bits (fun p => oneB (LB α p)) p : Nat) : Int) 0), xI ((p + 1 : Nat) : Int), xI ((LB α p : Nat) : Int)] m1 Q := fun c => by
      rw [xior_0 (by omega), ← sp_bits_no (f := fun p => oneB (LB α p)) c]
      exact hn (m1, _) fr
    refine wi (fun c => ?_) (fun c => ?_)
    · exact no (fun e => (chk.2 e).2 (by omega))
    refine wi (fun c2 => ?_) (fun c2 => ?_)
    · have e : oneB (LB α p) = true := chk.1 ⟨c2, by omega⟩
      rw [sp_bits_or (f := fun p => oneB (LB α p)) (by omega) e]
      exact hn (m1, _) fr
    · exact no (fun e => c2 (chk.2 e).1)
  · intro x hf
    have hv' := vM_fr (fM_71 hf) hv1
    refine sg_M_sure_6 ?_
    rw [vM_T hv', if_neg (by omega)]
    exact h x.1 hv'
