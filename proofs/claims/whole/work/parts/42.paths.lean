/-! the class tells apart by paths of answers -/
def gx (α : Al) (q k : Nat) : Bool := gW α q ((FT α).getD k 0)
def idx (α : Al) (k : Nat) : List Nat → Nat → Nat
  | [], i => i
  | q :: l, i => idx α k l (2 * i + (if gx α q k then 1 else 0))
theorem idx_app (α : Al) (k : Nat) : ∀ l1 l2 i, idx α k (l1 ++ l2) i = idx α k l2 (idx α k l1 i)
  | [], _, _ => rfl
  | q :: l1, l2, i => idx_app α k l1 l2 _
theorem idx_bd (α : Al) (k : Nat) : ∀ (l : List Nat) (i : Nat), i * 2 ^ l.length ≤ idx α k l i ∧ idx α k l i < (i + 1) * 2 ^ l.length
  | [], i => by
    show i * 2 ^ 0 ≤ i ∧ i < (i + 1) * 2 ^ 0
    rw [Nat.pow_zero]
    omega
  | q :: l, i => by
    obtain ⟨h1, h2⟩ := idx_bd α k l (2 * i + (if gx α q k then 1 else 0))
    rw [idx, List.length_cons, Nat.pow_succ]
    generalize 2 ^ l.length = x at h1 h2 ⊢
    have e1 : i * (x * 2) = 2 * (i * x) := by rw [← Nat.mul_assoc, Nat.mul_comm]
    have e2 : (i + 1) * (x * 2) = 2 * (i * x) + 2 * x := by rw [Nat.add_mul, e1, Nat.one_mul, Nat.mul_comm x 2]
    have e3 : ∀ b, (2 * i + b) * x = 2 * (i * x) + b * x := fun b => by rw [Nat.add_mul, Nat.mul_assoc]
    have e4 : ∀ b, (2 * i + b + 1) * x = 2 * (i * x) + b * x + x := fun b => by rw [Nat.add_mul, e3, Nat.one_mul]
    rw [e3] at h1
    rw [e4] at h2
    rw [e1, e2]
    cases hb : gx α q k with
    | true => rw [hb] at h1 h2; simp only [if_true] at h1 h2 ⊢; omega
    | false => rw [hb] at h1 h2; simp only [Bool.false_eq_true, if_false] at h1 h2 ⊢; omega
theorem idx_eq {α : Al} {k j : Nat} : ∀ (l : List Nat) (i i' : Nat), idx α k l i = idx α j l i' ↔ (i = i' ∧ ∀ q, q ∈ l → gx α q k = gx α q j)
  | [], i, i' => by
    show i = i' ↔ _
    exact ⟨fun h => ⟨h, fun q hq => by cases hq⟩, fun h => h.1⟩
  | q :: l, i, i' => by
    rw [idx, idx, idx_eq l]
    constructor
    · rintro ⟨h1, h2⟩
      cases c1 : gx α q k <;> cases c2 : gx α q j <;> rw [c1, c2] at h1 <;> simp only [if_true, Bool.false_eq_true, if_false] at h1
      · refine ⟨by omega, fun q' hq' => ?_⟩
        rcases List.mem_cons.1 hq' with e | e
        · rw [e, c1, c2]
        · exact h2 q' e
      · omega
      · omega
      · refine ⟨by omega, fun q' hq' => ?_⟩
        rcases List.mem_cons.1 hq' with e | e
        · rw [e, c1, c2]
        · exact h2 q' e
    · rintro ⟨h1, h2⟩
      rw [h1, h2 q List.mem_cons_self]
      exact ⟨rfl, fun q' hq' => h2 q' (List.mem_cons_of_mem q hq')⟩
theorem ans_eq {α : Al} {l : List Nat} {k j : Nat} (hm : ∀ q, q ∈ l → q < 4 * α.1 0 1) : (ansB α k ^^^ ansB α j) &&& bs l = 0 ↔ ∀ q, q ∈ l → gx α q k = gx α q j := by
  constructor
  · intro h q hq
    have e : ((ansB α k ^^^ ansB α j) &&& bs l).testBit q = false := by rw [h, Nat.zero_testBit]
    rw [Nat.testBit_and, (bs_tb l q).2 hq, Bool.and_true, Nat.testBit_xor] at e
    unfold ansB at e
    rw [sp_bits_tb, sp_bits_tb, decide_eq_true (hm q hq), Bool.true_and, Bool.true_and] at e
    unfold gx
    revert e
    cases gW α q ((FT α).getD k 0) <;> cases gW α q ((FT α).getD j 0) <;> simp
  · intro h
    apply Nat.eq_of_testBit_eq
    intro i
    rw [Nat.zero_testBit, Nat.testBit_and, Nat.testBit_xor]
    unfold ansB
    rw [sp_bits_tb, sp_bits_tb]
    by_cases c : i ∈ l
    · have := h i c
      unfold gx at this
      rw [this, Bool.xor_self, Bool.false_and]
    · have : (bs l).testBit i = false := by
        cases e : (bs l).testBit i with
        | false => rfl
        | true => exact absurd ((bs_tb l i).1 e) c
      rw [this, Bool.and_false]
theorem ptB_iff {α : Al} {l : List Nat} (hm : ∀ q, q ∈ l → q < 4 * α.1 0 1) : ptB α (bs l) = true ↔ ∀ k j, k < (FT α).length → j < k → idx α k l 1 ≠ idx α j l 1 := by
  unfold ptB
  rw [sp_all_iff]
  constructor
  · intro h k j hk hj e
    have := sp_all_iff.1 (h k hk) j hj
    rw [Bool.not_eq_true', beq_eq_false_iff_ne] at this
    exact this ((ans_eq hm).2 ((idx_eq l 1 1).1 e).2)
  · intro h k hk
    refine sp_all_iff.2 (fun j hj => ?_)
    rw [Bool.not_eq_true', beq_eq_false_iff_ne]
    intro e
    exact h k j hk hj ((idx_eq l 1 1).2 ⟨rfl, (ans_eq hm).1 e⟩)
theorem sp_cnt_z {f : Nat → Bool} : ∀ L, (∀ k, k < L → f k = false) → sp_cnt f L = 0
  | 0, _ => rfl
  | L + 1, h => by rw [sp_cnt, sp_cnt_z L (fun k hk => h k (by omega)), h L (by omega)]; rfl
theorem cnt_holes : ∀ (M : Nat) (f : Nat → Bool) (g : Nat → Nat) (L : Nat), (∀ k, k < L → f k = true → g k < M) → (∀ k j, k < L → j < L → f k = true → f j = true → g k = g j → k = j) → sp_cnt f L ≤ M
  | 0, f, g, L, h1, _ => by
    rw [sp_cnt_z L (fun k hk => by
      cases e : f k with
      | false => rfl
      | true => have := h1 k hk e; omega)]
    exact Nat.le_refl 0
  | M + 1, f, g, L, h1, h2 => by
    by_cases c : ∃ k, k < L ∧ f k = true ∧ g k = M
    · obtain ⟨k0, a1, a2, a3⟩ := c
      have e := sp_cnt_upd (f := f) (g := fun i => f i && !(i == k0)) (q := k0) a2 (by simp) (fun i hi => by simp [hi]) L a1
      have := cnt_holes M (fun i => f i && !(i == k0)) g L (fun k hk hf => by
        rw [Bool.and_eq_true, Bool.not_eq_true', beq_eq_false_iff_ne] at hf
        have q1 := h1 k hk hf.1
        have q2 : g k ≠ M := fun e => hf.2 (h2 k k0 hk a1 hf.1 a2 (by omega))
        omega) (fun k j hk hj hf hg e => by
        rw [Bool.and_eq_true] at hf hg
        exact h2 k j hk hj hf.1 hg.1 e)
      omega
    · exact Nat.le_succ_of_le (cnt_holes M f g L (fun k hk hf => by
        have q1 := h1 k hk hf
        have q2 : g k ≠ M := fun e => c ⟨k, hk, hf, e⟩
        omega) h2)
theorem sp_cnt_two {f : Nat → Bool} {j k L : Nat} (hj : j < k) (hk : k < L) (fj : f j = true) (fk : f k = true) : 2 ≤ sp_cnt f L := by
  have e := sp_cnt_upd (f := f) (g := fun i => f i && !(i == k)) (q := k) fk (by simp) (fun i hi => by simp [hi]) L hk
  have p := sp_cnt_pos (f := fun i => f i && !(i == k)) (q := j) (by
    show (f j && !(j == k)) = true
    rw [fj, beq_eq_false_iff_ne.2 (by omega)]; rfl) L (by omega)
  omega
def cB (α : Al) (pre : List Nat) (e : Nat) : Prop := ∃ i, 2 ^ pre.length ≤ i ∧ i < 2 ^ (pre.length + 1) ∧ 2 ^ e < sp_cnt (fun k => idx α k pre 1 == i) (FT α).length
theorem srch_pre {m : Nat} {P : List Nat → Bool} : ∀ e first pre l, srch m P e first pre = some l → ∃ x, l = pre ++ x ∧ x.length = e ∧ (∀ q, q ∈ x → q < m) ∧ P l = true
  | 0, first, pre, l, h => by
    have h' : (if P pre then some pre else none) = some l := h
    by_cases c : P pre = true
    · rw [if_pos c] at h'
      cases h'
      exact ⟨[], (List.append_nil _).symm, rfl, fun q hq => (by cases hq), c⟩
    · rw [if_neg c] at h'; cases h'
  | e + 1, first, pre, l, h => by
    obtain ⟨q, g1, g2, g3⟩ := fq_ok (f := fun q => srch m P e (q + 1) (pre ++ [q])) _ (Nat.sub_le _ _) h
    obtain ⟨x, i1, i2, i3, i4⟩ := srch_pre e (q + 1) (pre ++ [q]) l g3
    refine ⟨q :: x, by rw [i1, List.append_assoc]; rfl, by rw [List.length_cons, i2], fun y hy => ?_, i4⟩
    rcases List.mem_cons.1 hy with e | e
    · omega
    · exact i3 y e
theorem coarse {α : Al} {e first : Nat} {pre : List Nat} (hm : ∀ q, q ∈ pre → q < 4 * α.1 0 1) (h : cB α pre e) : srch (4 * α.1 0 1) (fun l => ptB α (bs l)) e first pre = none := by
  cases hs : srch (4 * α.1 0 1) (fun l => ptB α (bs l)) e first pre with
  | none => rfl
  | some l =>
    obtain ⟨x, e1, e2, e3, e4⟩ := srch_pre e first pre l hs
    obtain ⟨i, c1, c2, c3⟩ := h
    have hm2 : ∀ q, q ∈ l → q < 4 * α.1 0 1 := fun q hq => by
      rw [e1, List.mem_append] at hq
      rcases hq with hq | hq
      · exact hm q hq
      · exact e3 q hq
    have hp := (ptB_iff hm2).1 e4
    have hl : ∀ k, idx α k pre 1 = i → idx α k l 1 = idx α k x i := fun k hk => by rw [e1, idx_app, hk]
    have hb : ∀ k, idx α k pre 1 = i → i * 2 ^ e ≤ idx α k l 1 ∧ idx α k l 1 < i * 2 ^ e + 2 ^ e := fun k hk => by
      have := idx_bd α k x i
      rw [e2, Nat.add_mul, Nat.one_mul] at this
      rw [hl k hk]
      exact this
    have := cnt_holes (2 ^ e) (fun k => idx α k pre 1 == i) (fun k => idx α k l 1 - i * 2 ^ e) (FT α).length (fun k _ hf => by
      have := hb k (beq_iff_eq.1 hf)
      omega) (fun k j hk hj hf hg e => by
      have b1 := hb k (beq_iff_eq.1 hf)
      have b2 := hb j (beq_iff_eq.1 hg)
      have ee : idx α k l 1 = idx α j l 1 := by omega
      rcases Nat.lt_trichotomy k j with c | c | c
      · exact absurd ee.symm (hp j k hj c)
      · exact c
      · exact absurd ee (hp k j hk c))
    omega
theorem fine {α : Al} {pre : List Nat} (hm : ∀ q, q ∈ pre → q < 4 * α.1 0 1) (h : ¬ cB α pre 0) : ptB α (bs pre) = true := by
  refine (ptB_iff hm).2 (fun k j hk hj e => h ?_)
  have := idx_bd α k pre 1
  rw [Nat.one_mul, show 1 + 1 = 2 from rfl, Nat.mul_comm, ← Nat.pow_succ] at this
  refine ⟨idx α k pre 1, this.1, this.2, ?_⟩
  have := sp_cnt_two (f := fun k' => idx α k' pre 1 == idx α k pre 1) hj hk (beq_iff_eq.2 e.symm) (beq_iff_eq.2 rfl)
  rw [Nat.pow_zero]
  omega
theorem idx_nil_cnt (α : Al) (n : Nat) : sp_cnt (fun k => idx α k [] 1 == 1) n = n := by
  induction n with
  | zero => rfl
  | succ n ih => rw [sp_cnt, ih]; rfl
theorem AP1_srch {α : Al} (n : Nat) : AP1 α n = srch (4 * α.1 0 1) (fun l => ptB α (bs l)) n 0 [] := by
  unfold AP1
  by_cases c : 2 ^ n < (FT α).length
  · rw [if_pos c, coarse (fun q hq => by cases hq) ⟨1, by decide, by decide, by rw [idx_nil_cnt]; exact c⟩]
  · rw [if_neg c]
theorem bits_and {f g : Nat → Bool} {n : Nat} : sp_bits f n &&& sp_bits g n = sp_bits (fun k => f k && g k) n := by
  apply Nat.eq_of_testBit_eq
  intro i
  rw [Nat.testBit_and, sp_bits_tb, sp_bits_tb, sp_bits_tb]
  cases decide (i < n) <;> simp
theorem bits_andn {f g : Nat → Bool} {n : Nat} (hn : n ≤ 16) : sp_bits f n &&& (65535 ^^^ sp_bits g n) = sp_bits (fun k => f k && !g k) n := by
  apply Nat.eq_of_testBit_eq
  intro i
  rw [Nat.testBit_and, Nat.testBit_xor, sp_bits_tb, sp_bits_tb, sp_bits_tb]
  by_cases c : i < n
  · rw [decide_eq_true c, tb_65535 i (by omega)]
    cases f i <;> cases g i <;> rfl
  · rw [decide_eq_false c, Bool.false_and, Bool.false_and, Bool.false_and]
/-! what fits, in its order -/
def gL (α : Al) (q : Nat) (l : List Nat) : Bool := decide (sp_works α (l.getD (q / 4) 0) (q / 4) ((q % 4 : Nat) : Int) = 1)
theorem FT_rows {α : Al} (hw : wf α) : (rws (α.1 0 1)).filter (fitL (al α) 0) = (FT α).map (rowL (α.1 0 1)) := by
  have hT := wf_T hw
  rw [rws_map hT, List.filter_map, FT, ft_filter]
  congr 1
  apply List.filter_congr
  intro r hr
  rw [Function.comp, fitL_row hT (List.mem_range.1 hr), fitB_al hw]
theorem gL_gx {α : Al} (q k : Nat) (hk : k < (FT α).length) : gL α q (((FT α).map (rowL (α.1 0 1))).getD k []) = gx α q k := by
  have e : ((FT α).map (rowL (α.1 0 1))).getD k [] = rowL (α.1 0 1) ((FT α).getD k 0) := by
    rw [List.getD_eq_getElem?_getD, List.getElem?_map, List.getD_eq_getElem?_getD, List.getElem?_eq_getElem hk]
    rfl
  rw [e]
  rfl
def wB (α : Al) (G : List (List Nat)) (q : Nat) : Nat := sp_bits (fun k => gL α q (G.getD k [])) G.length
theorem getD_l {β : Type} {G : List β} {x y : β} {k : Nat} (h : k < G.length) : (G ++ [x]).getD k y = G.getD k y := by
  rw [List.getD_eq_getElem?_getD, List.getD_eq_getElem?_getD, List.getElem?_append_left h]
theorem getD_e {β : Type} {G : List β} {x y : β} : (G ++ [x]).getD G.length y = x := by
  rw [List.getD_eq_getElem?_getD, List.getElem?_append_right (Nat.le_refl _), Nat.sub_self]
  rfl
theorem wB_add {α : Al} {G : List (List Nat)} {l : List Nat} {q : Nat} : wB α (G ++ [l]) q = if gL α q l then wB α G q ||| 2 ^ G.length else wB α G q := by
  unfold wB
  rw [List.length_append, List.length_singleton, sp_bits, getD_e, sp_bits_ext (f := fun k => gL α q ((G ++ [l]).getD k [])) (g := fun k => gL α q (G.getD k [])) (fun i hi => by rw [getD_l hi])]
  split
  · rw [sp_or_pow (sp_bits_lt _ _)]
  · rfl
theorem sm_mono {f : Nat → Nat} {a b : Nat} (h : a ≤ b) : sm f a ≤ sm f b := by
  induction b with
  | zero => rw [show a = 0 by omega]; exact Nat.le_refl _
  | succ b ih =>
    by_cases c : a = b + 1
    · rw [c]; exact Nat.le_refl _
    · exact Nat.le_trans (ih (by omega)) (Nat.le_add_right _ _)
