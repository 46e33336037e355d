/-! counting what fits by sets -/
def fitL (al : Nat → Nat → Bool) : Nat → List Nat → Bool
  | _, [] => true
  | p, t :: l => al p t && fitL al (p + 1) l
def tl (T : Nat) (al : Nat → Nat → Bool) : Nat → Nat → Nat
  | 0, _ => 1
  | n + 1, s => sm (fun t => if s.testBit t then 0 else if al (T - (n + 1)) t then tl T al n (s ||| 2 ^ t) else 0) T
def hd (T : Nat) (al : Nat → Nat → Bool) : Nat → Nat → Nat
  | 0, _ => 1
  | k + 1, s => sm (fun t => if s.testBit t then (if al k t then hd T al k (s ^^^ 2 ^ t) else 0) else 0) T
theorem cnt_false {β : Type} (l : List β) : l.countP (fun _ => false) = 0 := by
  induction l with
  | nil => rfl
  | cons x l ih => rw [List.countP_cons, ih]; rfl
theorem cnt_congr {β : Type} {f g : β → Bool} : ∀ (l : List β), (∀ x, x ∈ l → f x = g x) → l.countP f = l.countP g
  | [], _ => rfl
  | x :: l, h => by rw [List.countP_cons, List.countP_cons, cnt_congr l (fun y hy => h y (List.mem_cons_of_mem x hy)), h x List.mem_cons_self]
theorem tl_cnt {T : Nat} (al : Nat → Nat → Bool) : ∀ n s, n ≤ T → (ex T n s).countP (fitL al (T - n)) = tl T al n s
  | 0, _, _ => rfl
  | n + 1, s, h => by
    rw [ex_cnt, tl]
    apply sm_congr
    intro t _
    split
    · rfl
    · rw [← tl_cnt al n (s ||| 2 ^ t) (by omega)]
      by_cases c : al (T - (n + 1)) t = true
      · rw [if_pos c]
        apply cnt_congr
        intro l _
        rw [fitL, c, Bool.true_and, show T - (n + 1) + 1 = T - n by omega]
      · rw [if_neg c]
        have e : al (T - (n + 1)) t = false := by simpa using c
        rw [← cnt_false (ex T n (s ||| 2 ^ t))]
        apply cnt_congr
        intro l _
        rw [fitL, e, Bool.false_and]
theorem fitL_iff {al : Nat → Nat → Bool} : ∀ {l : List Nat} {p : Nat}, fitL al p l = true ↔ ∀ i, i < l.length → al (p + i) (l.getD i 0) = true
  | [], p => ⟨fun _ i hi => absurd hi (Nat.not_lt_zero i), fun _ => rfl⟩
  | t :: l, p => by
    rw [fitL, Bool.and_eq_true, fitL_iff]
    constructor
    · intro h i hi
      cases i with
      | zero => exact h.1
      | succ i =>
        have := h.2 i (by rw [List.length_cons] at hi; omega)
        rw [show p + 1 + i = p + (i + 1) by omega] at this
        exact this
    · intro h
      refine ⟨h 0 (by simp), fun i hi => ?_⟩
      have := h (i + 1) (by rw [List.length_cons]; omega)
      rw [show p + (i + 1) = p + 1 + i by omega] at this
      exact this
theorem fitL_row {T r : Nat} {al : Nat → Nat → Bool} (hT : T ≤ 6) (hr : r < fac T) : fitL al 0 (rowL T r) = sp_all (fun p => al p (rv T r p)) T := by
  rw [Bool.eq_iff_iff, fitL_iff, sp_all_iff, rowL_len hT hr]
  constructor
  · intro h i hi
    have := h i hi
    rw [Nat.zero_add] at this
    exact this
  · intro h i hi
    rw [Nat.zero_add]
    exact h i hi
theorem rws_map {T : Nat} (hT : T ≤ 6) : rws T = (List.range (fac T)).map (rowL T) := by
  apply List.ext_getElem?
  intro i
  rw [List.getElem?_map]
  by_cases c : i < fac T
  · rw [rowL_get hT c, List.getElem?_range c]; rfl
  · rw [List.getElem?_eq_none (by rw [rws_len hT]; omega), List.getElem?_eq_none (by simp; omega)]; rfl
theorem range_cnt (f : Nat → Bool) : ∀ n, (List.range n).countP f = sp_cnt f n
  | 0 => rfl
  | n + 1 => by rw [List.range_succ, List.countP_append, range_cnt f n, sp_cnt, List.countP_singleton]
theorem rows_cnt {T : Nat} (hT : T ≤ 6) (P : List Nat → Bool) : sp_cnt (fun r => P (rowL T r)) (fac T) = (rws T).countP P := by
  rw [rws_map hT, List.countP_map, ← range_cnt]
  rfl
theorem sp_cnt_congr {f g : Nat → Bool} : ∀ n, (∀ i, i < n → f i = g i) → sp_cnt f n = sp_cnt g n
  | 0, _ => rfl
  | n + 1, h => by rw [sp_cnt, sp_cnt, sp_cnt_congr n (fun i hi => h i (by omega)), h n (by omega)]
theorem ft_filter (α : Al) : ∀ n, ft α n = (List.range n).filter (fun r => fitB α (rv (α.1 0 1) r))
  | 0 => rfl
  | n + 1 => by
    rw [ft, List.range_succ, List.filter_append, ft_filter α n]
    by_cases c : fitB α (rv (α.1 0 1) n) = true
    · rw [if_pos c]; simp [c]
    · rw [if_neg c]; simp [c]
/-! what may lie where, by what was seen in that place alone -/
def al (α : Al) (p t : Nat) : Bool := α.1 3 t == α.1 3 p && sp_all (fun k => !(α.1 11 k == p) || decide (sp_works α t p ((α.1 12 k : Nat) : Int) = ((α.1 13 k : Nat) : Int))) (α.1 0 6)
theorem fitB_al {α : Al} (hw : wf α) (a : Nat → Nat) : fitB α a = sp_all (fun p => al α p (a p)) (α.1 0 1) := by
  unfold fitB lawB seenB
  rw [Bool.eq_iff_iff, Bool.and_eq_true, sp_all_iff, sp_all_iff, sp_all_iff]
  constructor
  · rintro ⟨h1, h2⟩ p hp
    unfold al
    rw [Bool.and_eq_true, sp_all_iff]
    refine ⟨?_, fun k hk => ?_⟩
    · have := h1 p hp
      rw [beq_iff_eq] at this ⊢
      exact this.symm
    · by_cases c : α.1 11 k = p
      · have := h2 k hk
        rw [c] at this
        rw [this, Bool.or_true]
      · simp [c]
  · intro h
    refine ⟨fun p hp => ?_, fun k hk => ?_⟩
    · have := h p hp
      unfold al at this
      rw [Bool.and_eq_true, beq_iff_eq] at this
      rw [beq_iff_eq]
      exact this.1.symm
    · have := h _ (wf_sp hw k hk)
      unfold al at this
      rw [Bool.and_eq_true, sp_all_iff] at this
      have := this.2 k hk
      simpa using this
theorem CF_rows {α : Al} (hw : wf α) (G : List Nat → Bool) {g : Nat → Bool} (hg : ∀ r, r < fac (α.1 0 1) → g r = G (rowL (α.1 0 1) r)) : CF α g = (rws (α.1 0 1)).countP (fun l => G l && fitL (al α) 0 l) := by
  have hT := wf_T hw
  rw [CF_cnt, FT, ft_filter, List.countP_filter, range_cnt, ← rows_cnt hT]
  apply sp_cnt_congr
  intro r hr
  rw [hg r hr, fitB_al hw, fitL_row hT hr]
theorem FT_tl {α : Al} (hw : wf α) : (FT α).length = tl (α.1 0 1) (al α) (α.1 0 1) 0 := by
  have h1 : CF α (fun _ => true) = (FT α).length := by rw [CF_cnt, List.countP_true]
  rw [← h1, CF_rows hw (fun _ => true) (fun _ _ => rfl), ← tl_cnt (al α) (α.1 0 1) 0 (Nat.le_refl _), Nat.sub_self]
  apply cnt_congr
  intro l _
  rw [Bool.true_and]
/-! how many lay a thing in a place -/
def pop (s : Nat) : Nat := sp_cnt (fun i => s.testBit i) 6
theorem pop_chk : ∀ s, s < 64 → ∀ u, u < 6 → (s.testBit u = true → pop s = pop (s ^^^ 2 ^ u) + 1 ∧ (s ^^^ 2 ^ u) ||| 2 ^ u = s ∧ s ^^^ 2 ^ u < s ∧ (s ^^^ 2 ^ u).testBit u = false) ∧ (s.testBit u = false → pop (s ||| 2 ^ u) = pop s + 1 ∧ s < s ||| 2 ^ u) := by decide +kernel
theorem exch_chk : ∀ T, T < 7 → ∀ u, u < T → ((List.range (2 ^ T)).filter (fun s => s.testBit u)).map (fun s => s ^^^ 2 ^ u) = (List.range (2 ^ T)).filter (fun s => !s.testBit u) := by decide +kernel
def sl (f : Nat → Nat) : List Nat → Nat
  | [] => 0
  | x :: l => f x + sl f l
theorem sl_app (f : Nat → Nat) (y : Nat) : ∀ l, sl f (l ++ [y]) = sl f l + f y
  | [] => by show f y + 0 = 0 + f y; omega
  | x :: l => by
    show f x + sl f (l ++ [y]) = f x + sl f l + f y
    rw [sl_app f y l]; omega
theorem sl_map (f : Nat → Nat) (e : Nat → Nat) : ∀ l, sl f (l.map e) = sl (fun x => f (e x)) l
  | [] => rfl
  | x :: l => by
    show f (e x) + sl f (l.map e) = f (e x) + sl (fun x => f (e x)) l
    rw [sl_map f e l]
theorem sm_sl (f : Nat → Nat) (q : Nat → Bool) : ∀ n, sm (fun s => if q s then f s else 0) n = sl f ((List.range n).filter q)
  | 0 => rfl
  | n + 1 => by
    rw [sm, sm_sl f q n, List.range_succ, List.filter_append]
    by_cases c : q n = true
    · rw [if_pos c, List.filter_cons_of_pos c, ← sl_app]; rfl
    · rw [if_neg c, List.filter_cons_of_neg c]; simp
theorem sm_exch {T u : Nat} (hT : T ≤ 6) (hu : u < T) (g : Nat → Nat) : sm (fun s => if s.testBit u then 0 else g s) (2 ^ T) = sm (fun s => if s.testBit u then g (s ^^^ 2 ^ u) else 0) (2 ^ T) := by
  have h1 : sm (fun s => if s.testBit u then 0 else g s) (2 ^ T) = sm (fun s => if (!s.testBit u) = true then g s else 0) (2 ^ T) := by
    apply sm_congr
    intro s _
    cases s.testBit u <;> rfl
  rw [h1, sm_sl g (fun s => !s.testBit u), ← exch_chk T (by omega) u hu, sl_map, ← sm_sl (fun x => g (x ^^^ 2 ^ u)) (fun s => s.testBit u)]
def GC (T : Nat) (al : Nat → Nat → Bool) (p t k s : Nat) : Nat := (ex T (T - k) s).countP (fun l => l.getD (p - k) 0 == t && fitL al k l)
theorem GC_step {T p t k s : Nat} {al : Nat → Nat → Bool} (hk : k < p) (hp : p < T) : GC T al p t k s = sm (fun u => if s.testBit u then 0 else if al k u then GC T al p t (k + 1) (s ||| 2 ^ u) else 0) T := by
  unfold GC
  rw [show T - k = (T - (k + 1)) + 1 by omega, ex_cnt]
  apply sm_congr
  intro u _
  split
  · rfl
  · by_cases c : al k u = true
    · rw [if_pos c]
      apply cnt_congr
      intro l _
      rw [fitL, c, Bool.true_and, show p - k = (p - (k + 1)) + 1 by omega]
      rfl
    · rw [if_neg c]
      have e : al k u = false := by simpa using c
      rw [← cnt_false (ex T (T - (k + 1)) (s ||| 2 ^ u))]
      apply cnt_congr
      intro l _
      rw [fitL, e, Bool.false_and, Bool.and_false]
theorem GC_end {T p t s : Nat} {al : Nat → Nat → Bool} (hp : p < T) (ht : t < T) : GC T al p t p s = if s.testBit t then 0 else if al p t then tl T al (T - (p + 1)) (s ||| 2 ^ t) else 0 := by
  unfold GC
  rw [show T - p = (T - (p + 1)) + 1 by omega, ex_cnt]
  rw [sm_one (k := t) T ht (fun u _ hne => ?_)]
  · split
    · rfl
    · rw [← tl_cnt al (T - (p + 1)) (s ||| 2 ^ t) (by omega), show T - (T - (p + 1)) = p + 1 by omega]
      by_cases c : al p t = true
      · rw [if_pos c]
        apply cnt_congr
        intro l _
        rw [fitL, c, Nat.sub_self]
        simp
      · rw [if_neg c]
        have e : al p t = false := by simpa using c
        rw [← cnt_false (ex T (T - (p + 1)) (s ||| 2 ^ t))]
        apply cnt_congr
        intro l _
        rw [fitL, e, Bool.false_and, Bool.and_false]
  · split
    · rfl
    · rw [← cnt_false (ex T (T - (p + 1)) (s ||| 2 ^ u))]
      apply cnt_congr
      intro l _
      rw [Nat.sub_self]
      simp [hne]
theorem p2 {T : Nat} (hT : T ≤ 6) : 2 ^ T ≤ 64 := Nat.pow_le_pow_right (n := 2) (by decide) hT
theorem flow {T p t : Nat} {al : Nat → Nat → Bool} (hT : T ≤ 6) (hp : p < T) : ∀ k, k ≤ p → sm (fun s => if pop s = k then hd T al k s * GC T al p t k s else 0) (2 ^ T) = GC T al p t 0 0
  | 0, _ => by
    have h64 := p2 hT
    have hpos : 0 < 2 ^ T := Nat.pow_pos (by decide)
    have h0 : ∀ s, s < 64 → s ≠ 0 → ¬ pop s = 0 := by decide +kernel
    rw [sm_one (k := 0) _ hpos (fun s hs hne => if_neg (h0 s (by omega) hne))]
    rw [if_pos (by decide), hd, Nat.one_mul]
  | k + 1, hk => by
    have h64 := p2 hT
    rw [← flow hT hp k (by omega)]
    have e1 : sm (fun s => if pop s = k then hd T al k s * GC T al p t k s else 0) (2 ^ T) = sm (fun s => sm (fun u => if s.testBit u then 0 else if pop s = k then (if al k u then hd T al k s * GC T al p t (k + 1) (s ||| 2 ^ u) else 0) else 0) T) (2 ^ T) := by
      apply sm_congr
      intro s _
      rw [GC_step (by omega) hp]
      split
      · rw [← sm_mul]
        apply sm_congr
        intro u _
        split
        · exact Nat.mul_zero _
        · split
          · rfl
          · exact Nat.mul_zero _
      · symm
        apply sm_z
        intro u _
        split <;> rfl
    rw [e1, sm_comm]
    have e2 : sm (fun u => sm (fun s => if s.testBit u then 0 else if pop s = k then (if al k u then hd T al k s * GC T al p t (k + 1) (s ||| 2 ^ u) else 0) else 0) (2 ^ T)) T = sm (fun u => sm (fun s => if s.testBit u then (if pop s = k + 1 then (if al k u then hd T al k (s ^^^ 2 ^ u) * GC T al p t (k + 1) s else 0) else 0) else 0) (2 ^ T)) T := by
      apply sm_congr
      intro u hu
      rw [sm_exch hT hu (fun s => if pop s = k then (if al k u then hd T al k s * GC T al p t (k + 1) (s ||| 2 ^ u) else 0) else 0)]
      apply sm_congr
      intro s hs
      by_cases c : s.testBit u = true
      · have ck := (pop_chk s (by omega) u (by omega)).1 c
        rw [if_pos c, if_pos c, ck.2.1]
        by_cases c2 : pop s = k + 1
        · rw [if_pos c2, if_pos (by omega)]
        · rw [if_neg c2, if_neg (by omega)]
      · rw [if_neg c, if_neg c]
    rw [e2, ← sm_comm]
    apply sm_congr
    intro s _
    by_cases c : pop s = k + 1
    · rw [if_pos c, hd, Nat.mul_comm, ← sm_mul]
      apply sm_congr
      intro u _
      by_cases c1 : s.testBit u = true
      · rw [if_pos c1, if_pos c1, if_pos c]
        split
        · exact Nat.mul_comm _ _
        · exact Nat.mul_zero _
      · rw [if_neg c1, if_neg c1]; exact Nat.mul_zero _
    · rw [if_neg c]
      symm
      apply sm_z
      intro u _
      rw [if_neg c]
      split <;> rfl
def LY (α : Al) (p t : Nat) : Nat := CF α (fun r => rv (α.1 0 1) r p == t)
theorem LY_flow {α : Al} (hw : wf α) {p t : Nat} (hp : p < α.1 0 1) (ht : t < α.1 0 1) : LY α p t = sm (fun s => if pop s = p then (if s.testBit t then 0 else if al α p t then hd (α.1 0 1) (al α) p s * tl (α.1 0 1) (al α) (α.1 0 1 - (p + 1)) (s ||| 2 ^ t) else 0) else 0) (2 ^ α.1 0 1) := by
  have hT := wf_T hw
  have h1 : LY α p t = GC (α.1 0 1) (al α) p t 0 0 := CF_rows hw (fun l => l.getD p 0 == t) (fun r _ => rfl)
  rw [h1, ← flow hT hp p (Nat.le_refl p)]
  apply sm_congr
  intro s _
  split
  · rw [GC_end hp ht]
    split
    · exact Nat.mul_zero _
    · split
      · rfl
      · exact Nat.mul_zero _
  · rfl
theorem tl_le {T : Nat} (al : Nat → Nat → Bool) : ∀ n s, tl T al n s ≤ T ^ n
  | 0, _ => Nat.le_refl 1
  | n + 1, s => by
    rw [tl, Nat.pow_succ, Nat.mul_comm]
    apply sm_le
    intro t _
    have := tl_le (T := T) al n (s ||| 2 ^ t)
    have h2 : 0 ≤ T ^ n := Nat.zero_le _
    split
    · exact h2
    · split
      · exact this
      · exact h2
theorem hd_le {T : Nat} (al : Nat → Nat → Bool) : ∀ n s, hd T al n s ≤ T ^ n
  | 0, _ => Nat.le_refl 1
  | n + 1, s => by
    rw [hd, Nat.pow_succ, Nat.mul_comm]
    apply sm_le
    intro t _
    have := hd_le (T := T) al n (s ^^^ 2 ^ t)
    have h2 : 0 ≤ T ^ n := Nat.zero_le _
    split
    · split
      · exact this
      · exact h2
    · exact h2
/-! sums over things of those that lie -/
theorem LY_sum {α : Al} (hw : wf α) {p : Nat} (hp : p < α.1 0 1) (q : Nat → Bool) : sm (fun t => if q t then LY α p t else 0) (α.1 0 1) = CF α (fun r => q (rv (α.1 0 1) r p)) := by
  have hT := wf_T hw
  have key : ∀ l : List Nat, (∀ r, r ∈ l → r < fac (α.1 0 1)) → sm (fun t => if q t then l.countP (fun r => rv (α.1 0 1) r p == t) else 0) (α.1 0 1) = l.countP (fun r => q (rv (α.1 0 1) r p)) := by
    intro l
    induction l with
    | nil => intro _; exact sm_z (fun t _ => by split <;> rfl)
    | cons r l ih =>
      intro h
      rw [List.countP_cons, ← ih (fun x hx => h x (List.mem_cons_of_mem r hx))]
      have hr := rv_lt hT (h r List.mem_cons_self) hp
      have e : (if q (rv (α.1 0 1) r p) = true then 1 else 0) = sm (fun t => if q t then (if (rv (α.1 0 1) r p == t) = true then 1 else 0) else 0) (α.1 0 1) := by
        rw [sm_one (k := rv (α.1 0 1) r p) _ hr (fun t _ hne => by
          have e3 : ¬ (rv (α.1 0 1) r p == t) = true := by rw [beq_iff_eq]; exact fun e => hne e.symm
          rw [if_neg e3]
          split <;> rfl)]
        simp
      rw [e, ← sm_add]
      apply sm_congr
      intro t _
      rw [List.countP_cons]
      split <;> rfl
  rw [CF_cnt, ← key (FT α) (fun r hr => (ft_mem.1 hr).1)]
  apply sm_congr
  intro t _
  unfold LY
  rw [CF_cnt]
theorem LY_pos {α : Al} {p t : Nat} : 0 < LY α p t ↔ lB α p (FT α).length t = true := by
  unfold LY lB
  rw [CF_cnt, List.take_length, List.countP_pos_iff, List.any_eq_true]
theorem LY_le {α : Al} (hw : wf α) (p t : Nat) : LY α p t ≤ 720 := Nat.le_trans (CF_le α _) (FT_le hw)
/-! in how many ways things lie in places of their look -/
def arp (look : Nat → Nat) : Nat → Nat
  | 0 => 1
  | p + 1 => arp look p * sp_cnt (fun q => look q == look p) (p + 1)
def dg (v p : Nat) : Nat := v / 3 ^ p % 3
theorem arr_chk : ∀ T, T < 7 → ∀ v, v < 3 ^ T → tl T (fun p t => dg v p == dg v t) T 0 = arp (dg v) T := by decide +kernel
def enc (f : Nat → Nat) : Nat → Nat
  | 0 => 0
  | n + 1 => enc f n + f n * 3 ^ n
theorem enc_lt {f : Nat → Nat} : ∀ {n : Nat}, (∀ i, i < n → f i < 3) → enc f n < 3 ^ n
  | 0, _ => Nat.zero_lt_one
  | n + 1, h => by
    have h1 := enc_lt (f := f) (n := n) (fun i hi => h i (by omega))
    have h2 : f n * 3 ^ n ≤ 2 * 3 ^ n := Nat.mul_le_mul_right _ (by have := h n (by omega); omega)
    rw [enc, Nat.pow_succ]
    omega
theorem enc_dg {f : Nat → Nat} : ∀ {n : Nat}, (∀ i, i < n → f i < 3) → ∀ i, i < n → dg (enc f n) i = f i
  | 0, _, i, hi => absurd hi (Nat.not_lt_zero i)
  | n + 1, h, i, hi => by
    have h1 := enc_lt (f := f) (n := n) (fun i hi => h i (by omega))
    have hpos : 0 < 3 ^ n := Nat.pow_pos (by decide)
    rw [enc]
    by_cases c : i = n
    · subst c
      unfold dg
      rw [Nat.add_mul_div_right _ _ hpos, Nat.div_eq_of_lt h1, Nat.zero_add, Nat.mod_eq_of_lt (h i (by omega))]
    · rw [← enc_dg (f := f) (n := n) (fun i hi => h i (by omega)) i (by omega)]
      unfold dg
      have e : f n * 3 ^ n = (f n * 3 ^ (n - i - 1) * 3) * 3 ^ i := by
        rw [Nat.mul_assoc, Nat.mul_assoc, ← Nat.pow_succ', ← Nat.pow_add]
        congr 2
        omega
      rw [e, Nat.add_mul_div_right _ _ (Nat.pow_pos (by decide)), Nat.add_mul_mod_self_right]
theorem tl_congr {T : Nat} {f g : Nat → Nat → Bool} (h : ∀ p t, p < T → t < T → f p t = g p t) : ∀ n s, n ≤ T → tl T f n s = tl T g n s
  | 0, _, _ => rfl
  | n + 1, s, hn => by
    rw [tl, tl]
    apply sm_congr
    intro t ht
    rw [h _ _ (by omega) ht, tl_congr h n (s ||| 2 ^ t) (by omega)]
theorem arp_congr {f g : Nat → Nat} : ∀ {T : Nat}, (∀ i, i < T → f i = g i) → arp f T = arp g T
  | 0, _ => rfl
  | T + 1, h => by
    rw [arp, arp, arp_congr (fun i hi => h i (by omega)), sp_cnt_congr (T + 1) (fun i hi => by rw [h i hi, h T (by omega)])]
theorem AR_arp {α : Al} (hw : wf α) : AR α = arp (α.1 3) (α.1 0 1) := by
  have hT := wf_T hw
  have hl := wf_look hw
  have e1 : AR α = tl (α.1 0 1) (fun p t => α.1 3 p == α.1 3 t) (α.1 0 1) 0 := by
    rw [← tl_cnt _ _ 0 (Nat.le_refl _), Nat.sub_self]
    show _ = (rws (α.1 0 1)).countP _
    rw [← rows_cnt hT]
    apply sp_cnt_congr
    intro r hr
    rw [fitL_row hT hr]
    rfl
  have hd := enc_dg hl
  rw [e1, tl_congr (g := fun p t => dg (enc (α.1 3) (α.1 0 1)) p == dg (enc (α.1 3) (α.1 0 1)) t) (fun p t hp ht => by rw [hd p hp, hd t ht]) _ _ (Nat.le_refl _), arr_chk _ (by omega) _ (enc_lt hl)]
  exact arp_congr hd
