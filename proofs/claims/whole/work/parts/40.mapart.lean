/-! the reference: what tells all apart -/
def rk (l : List Nat) (q : Nat) : Nat := l.countP (fun x => decide (x < q))
theorem rk_c {x q : Nat} {t : List Nat} : rk (x :: t) q = rk t q + (if x < q then 1 else 0) := by
  unfold rk
  rw [List.countP_cons]
  by_cases c : x < q
  · rw [if_pos c, decide_eq_true c]; rfl
  · rw [if_neg c, decide_eq_false c]; rfl
theorem rk_low : ∀ (l : List Nat) (q : Nat), (∀ y, y ∈ l → q ≤ y) → rk l q = 0
  | [], _, _ => rfl
  | x :: t, q, h => by
    have hx := h x List.mem_cons_self
    rw [rk_c, rk_low t q (fun y hy => h y (List.mem_cons_of_mem x hy)), if_neg (by omega)]
theorem rk_end : ∀ (l : List Nat) (q : Nat), (∀ y, y ∈ l → y < q) → rk l q = l.length
  | [], _, _ => rfl
  | x :: t, q, h => by
    have hx := h x List.mem_cons_self
    rw [rk_c, rk_end t q (fun y hy => h y (List.mem_cons_of_mem x hy)), if_pos hx, List.length_cons]
theorem rk_out : ∀ (l : List Nat) (q : Nat), ¬ q ∈ l → rk l (q + 1) = rk l q
  | [], _, _ => rfl
  | x :: t, q, h => by
    rw [List.mem_cons] at h
    have ih := rk_out t q (fun e => h (Or.inr e))
    have hx : q ≠ x := fun e => h (Or.inl e)
    rw [rk_c, rk_c, ih]
    by_cases c : x < q
    · rw [if_pos c, if_pos (by omega)]
    · rw [if_neg c, if_neg (by omega)]
theorem rk_in : ∀ (l : List Nat) (q : Nat), List.Pairwise (· < ·) l → q ∈ l → rk l (q + 1) = rk l q + 1 ∧ l[rk l q]? = some q
  | [], _, _, h => by cases h
  | x :: t, q, hp, h => by
    rw [List.pairwise_cons] at hp
    rw [List.mem_cons] at h
    by_cases c : q = x
    · have e1 := rk_low t (q + 1) (fun y hy => by have := hp.1 y hy; omega)
      have e2 := rk_low t q (fun y hy => by have := hp.1 y hy; omega)
      rw [rk_c, rk_c, e1, e2, if_pos (by omega), if_neg (by omega)]
      refine ⟨rfl, ?_⟩
      rw [c]; rfl
    · have hq : q ∈ t := by rcases h with h | h; exact absurd h c; exact h
      have hx := hp.1 q hq
      obtain ⟨i1, i2⟩ := rk_in t q hp.2 hq
      rw [rk_c, rk_c, i1, if_pos (by omega), if_pos hx]
      refine ⟨rfl, ?_⟩
      rw [List.getElem?_cons_succ]; exact i2
theorem bs_tb : ∀ (l : List Nat) (q : Nat), (bs l).testBit q = true ↔ q ∈ l
  | [], q => by
    rw [show bs [] = 0 from rfl, Nat.zero_testBit]
    exact ⟨fun h => (by cases h), fun h => (by cases h)⟩
  | x :: l, q => by
    rw [bs, Nat.testBit_or, Nat.testBit_two_pow, Bool.or_eq_true, bs_tb l q, List.mem_cons, decide_eq_true_eq]
    constructor
    · intro h; rcases h with h | h; exact Or.inl h.symm; exact Or.inr h
    · intro h; rcases h with h | h; exact Or.inl h.symm; exact Or.inr h
theorem bs_lt : ∀ (l : List Nat), (∀ x, x ∈ l → x < 24) → bs l < 16777216
  | [], _ => by decide
  | x :: l, h => or24 (p24 (h x List.mem_cons_self)) (bs_lt l (fun y hy => h y (List.mem_cons_of_mem x hy)))
theorem srch_ok {m : Nat} {P : List Nat → Bool} : ∀ e first pre l, first ≤ m → List.Pairwise (· < ·) pre → (∀ x, x ∈ pre → x < first) → srch m P e first pre = some l → l.length = pre.length + e ∧ List.Pairwise (· < ·) l ∧ (∀ x, x ∈ l → x < m) ∧ P l = true
  | 0, first, pre, l, h1, h2, h3, h => by
    have h' : (if P pre then some pre else none) = some l := h
    by_cases c : P pre = true
    · rw [if_pos c] at h'
      cases h'
      exact ⟨rfl, h2, fun x hx => by have := h3 x hx; omega, c⟩
    · rw [if_neg c] at h'; cases h'
  | e + 1, first, pre, l, h1, h2, h3, h => by
    obtain ⟨q, g1, g2, g3⟩ := fq_ok (f := fun q => srch m P e (q + 1) (pre ++ [q])) _ (Nat.sub_le _ _) h
    have ih := srch_ok e (q + 1) (pre ++ [q]) l (by omega) (by
      rw [List.pairwise_append]
      refine ⟨h2, List.pairwise_singleton _ _, fun a ha b hb => ?_⟩
      rw [List.mem_singleton] at hb
      have := h3 a ha
      omega) (fun x hx => by
      rw [List.mem_append, List.mem_singleton] at hx
      rcases hx with hx | hx
      · have := h3 x hx; omega
      · omega) g3
    rw [List.length_append, List.length_singleton] at ih
    exact ⟨by omega, ih.2⟩
theorem M_least_ok {d n : Nat} {μ : Mem} {α : Al} {Q : AV → Mem → Prop} (hn : n < 5) (hw : wf α) (ht : μ 61 2 = ((α.1 0 1 : Nat) : Int)) (hA : vAn μ α) (h1 : ∀ l, srch (4 * α.1 0 1) (fun l => ptB α (bs l)) n 0 [] = some l → Q (xI ((bs l : Nat) : Int)) μ) (h2 : srch (4 * α.1 0 1) (fun l => ptB α (bs l)) n 0 [] = none → Q (xI (-1)) μ) : GM (d + 1) 188 [xR 61, xI (n : Int)] μ Q := by
  rcases (show n = 0 ∨ n = 1 ∨ n = 2 ∨ n = 3 ∨ n = 4 by omega) with e | e | e | e | e <;> subst e
  · exact M_least_0 hw ht hA h1 h2
  · exact M_least_1 hw ht hA h1 h2
  · exact M_least_2 hw ht hA h1 h2
  · exact M_least_3 hw ht hA h1 h2
  · exact M_least_4 hw ht hA h1 h2
theorem AP1_ok {α : Al} {n : Nat} {l : List Nat} (h : AP1 α n = some l) : l.length = n ∧ List.Pairwise (· < ·) l ∧ (∀ x, x ∈ l → x < 4 * α.1 0 1) := by
  unfold AP1 at h
  split at h
  · cases h
  · have := srch_ok n 0 [] l (Nat.zero_le _) List.Pairwise.nil (fun x hx => by cases hx) h
    exact ⟨by rw [this.1, List.length_nil]; omega, this.2.1, this.2.2.1⟩
theorem GM_av {d k : Nat} {av : List AV} {μ : Mem} {Q : AV → Mem → Prop} (h : (∀ v ∈ av, ax_okv v) → GM d k av μ Q) : GM d k av μ Q := fun hav => h hav hav
set_option maxRecDepth 20000 in
theorem M_apart_i {d i : Nat} {l : List Nat} {v1 v2 v4 : AV} {μ : Mem} {α : Al} {Q : AV → Mem → Prop} (hi : i < 2147483648) (hw : wf α) (ht : μ 61 2 = ((α.1 0 1 : Nat) : Int)) (hp : List.Pairwise (· < ·) l) (hm : ∀ x, x ∈ l → x < 4 * α.1 0 1) (h : Q (xI (ap_i l i)) μ) : ∀ k q left, q + k = 4 * α.1 0 1 → rk l q + left = i → DW (d + 6) 186 53 [xR 61, v1, v2, xI ((bs l : Nat) : Int), v4, xI (left : Int), xI (q : Int)] μ Q := by
  have hT := wf_T hw
  have em : iw (4 * ((α.1 0 1 : Nat) : Int)) = ((4 * α.1 0 1 : Nat) : Int) := by rw [iw_id (by omega) (by omega)]; omega
  have hbs := bs_lt l (fun x hx => by have := hm x hx; omega)
  intro k
  induction k with
  | zero =>
    intro q left hq hr
    refine sg_M_apart_53 ?_
    rw [ht, em, if_neg (by omega)]
    rw [rk_end l q (fun y hy => by have := hm y hy; omega)] at hr
    have e : ap_i l i = -1 := by unfold ap_i; rw [List.getElem?_eq_none (by omega)]
    rw [e] at h
    exact h
  | succ k ih =>
    intro q left hq hr
    refine sg_M_apart_53 ?_
    rw [ht, em, if_pos (by omega), iw_k1 (by omega)]
    refine wi (fun c => ?_) (fun c => ?_)
    · rw [sp_bit1 (by omega) (by omega), bs_tb] at c
      obtain ⟨i1, i2⟩ := rk_in l q hp c
      refine wi (fun c2 => ?_) (fun c2 => ?_)
      · have e : ap_i l i = (q : Int) := by unfold ap_i; rw [show i = rk l q by omega, i2]
        rw [e] at h
        exact h
      · rw [show iw ((left : Int) + (-1)) = ((left - 1 : Nat) : Int) by rw [iw_id (by omega) (by omega)]; omega]
        exact ih (q + 1) (left - 1) (by omega) (by omega)
    · rw [sp_bit1 (by omega) (by omega), bs_tb] at c
      exact ih (q + 1) left (by omega) (by rw [rk_out l q c]; exact hr)
set_option maxRecDepth 20000 in
theorem M_apart_ok {d : Nat} {i : Int} {μ : Mem} {α : Al} {Q : AV → Mem → Prop} (hv : vM μ α) (hw : wf α) (h : ∀ μ', vM μ' α → Q (xI (r_apart α i)) μ') : GM (d + 7) 186 [xR 61, xI i] μ Q := by
  have hT := wf_T hw
  have hL := FT_le hw
  refine GM_av (fun hav => ?_)
  have hi : ax_r32 i := hav (xI i) (List.mem_cons_of_mem _ List.mem_cons_self)
  have hi2 := hi.2
  refine ge_M_apart ?_
  unfold r_apart at h
  refine wi (fun c0 => ?_) (fun c0 => ?_)
  · rw [if_pos c0] at h; exact h μ hv
  rw [if_neg c0] at h
  refine M_layAnswers_ok hv hw (fun ν hf hvν hA => ?_)
  refine gV_mk ?_
  have fin : ∀ n l x4 v5 v6, n ≤ 4 → l.length = n → List.Pairwise (· < ·) l → (∀ x, x ∈ l → x < 4 * α.1 0 1) → AP α = some l → DW (d + 7) 186 13 [xR 61, xI i, xI ((n + 1 : Nat) : Int), xI ((bs l : Nat) : Int), xI x4, v5, v6] ν Q := by
    intro n l x4 v5 v6 hn hl hp hm hAP
    rw [hAP] at h
    have h' : ∀ μ', vM μ' α → Q (xI (if i = -1 then (l.length : Int) else ap_i l i.toNat)) μ' := h
    have to36 : DW (d + 7) 186 36 [xR 61, xI i, xI ((n + 1 : Nat) : Int), xI ((bs l : Nat) : Int), xI x4, v5, v6] ν Q := by
      refine sg_M_apart_36 ?_
      rw [if_neg (by omega)]
      refine wi (fun c => ?_) (fun c => ?_)
      · rw [if_pos c] at h'
        rw [show iw (((n + 1 : Nat) : Int) - 1) = (l.length : Int) by rw [iw_id (by omega) (by omega)]; omega]
        exact h' ν hvν
      · rw [if_neg c] at h'
        obtain ⟨i, rfl⟩ := Int.eq_ofNat_of_zero_le (show 0 ≤ i by omega)
        rw [Int.toNat_natCast] at h'
        exact M_apart_i (by omega) hw (vM_T hvν) hp hm (h' ν hvν) (4 * α.1 0 1) 0 i (by omega) (by rw [rk_low l 0 (fun y _ => Nat.zero_le y)]; omega)
    refine sg_M_apart_13 ?_
    rw [if_neg (show ¬ ((bs l : Nat) : Int) = -1 by omega), ite_self]
    exact to36
  have key := lp_fq (m := 5) (f := AP1 α) (Wh := fun n => ∀ v5 v6, DW (d + 7) 186 13 [xR 61, xI i, xI (n : Int), xI (-1), xI ((2 ^ n : Nat) : Int), v5, v6] ν Q) (Wx := Q (xI (-1)) ν) (R := fun l => ∀ x4 v5 v6, DW (d + 7) 186 13 [xR 61, xI i, xI ((l.length + 1 : Nat) : Int), xI ((bs l : Nat) : Int), xI x4, v5, v6] ν Q) (fun q hq hs hn v5 v6 => ?_) (fun hx v5 v6 => ?_) 5 0 rfl (fun l e x4 v5 v6 => ?_) (fun e => ?_)
  · exact key (xL 0) (xL 0)
  · have h16 : 2 ^ q ≤ 16 := Nat.pow_le_pow_right (n := 2) (j := 4) (by decide) (by omega)
    have e2 : iw (((2 ^ q : Nat) : Int) * 2) = ((2 ^ (q + 1) : Nat) : Int) := by
      rw [Nat.pow_succ]
      generalize 2 ^ q = x at h16 ⊢
      rw [iw_id (by omega) (by omega)]; omega
    refine sg_M_apart_13 ?_
    rw [if_pos (by omega), if_pos rfl, hA.1, iw_k1 (by omega), e2]
    refine wi (fun c => ?_) (fun c => ?_)
    · exact hn (by unfold AP1; rw [if_pos (Int.ofNat_lt.1 c)]) _ _
    · have c' : ¬ 2 ^ q < (FT α).length := fun w => c (Int.ofNat_lt.2 w)
      refine M_least_ok hq hw (vM_T hvν) hA (fun l e => ?_) (fun e => ?_)
      · refine gI_mk ?_
        have eA : AP1 α q = some l := by unfold AP1; rw [if_neg c']; exact e
        have hh := hs l eA
        rw [(AP1_ok eA).1] at hh
        exact hh _ _ _
      · refine gI_mk ?_
        exact hn (by unfold AP1; rw [if_neg c']; exact e) _ _
  · refine sg_M_apart_13 ?_
    rw [if_neg (by decide)]
    refine sg_M_apart_36 ?_
    rw [if_pos rfl]
    exact hx
  · obtain ⟨q, g1, g2, g3⟩ := fq_ok 5 (Nat.le_refl 5) e
    obtain ⟨a1, a2, a3⟩ := AP1_ok g3
    exact fin l.length l x4 v5 v6 (by omega) rfl a2 a3 e
  · have hAP : AP α = none := e
    rw [hAP] at h
    exact h ν hvν
