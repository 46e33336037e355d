/-! sums, arrangements one by one -/
def sm (f : Nat → Nat) : Nat → Nat
  | 0 => 0
  | n + 1 => sm f n + f n
theorem sm_congr {f g : Nat → Nat} : ∀ n, (∀ i, i < n → f i = g i) → sm f n = sm g n
  | 0, _ => rfl
  | n + 1, h => by rw [sm, sm, sm_congr n (fun i hi => h i (by omega)), h n (by omega)]
theorem sm_add (f g : Nat → Nat) : ∀ n, sm (fun i => f i + g i) n = sm f n + sm g n
  | 0 => rfl
  | n + 1 => by rw [sm, sm, sm, sm_add f g n]; omega
theorem sm_mul (c : Nat) (f : Nat → Nat) : ∀ n, sm (fun i => c * f i) n = c * sm f n
  | 0 => rfl
  | n + 1 => by rw [sm, sm, sm_mul c f n, Nat.mul_add]
theorem sm_zero : ∀ n, sm (fun _ => 0) n = 0
  | 0 => rfl
  | n + 1 => by rw [sm, sm_zero n]
theorem sm_z {f : Nat → Nat} {n : Nat} (h : ∀ i, i < n → f i = 0) : sm f n = 0 := (sm_congr n h).trans (sm_zero n)
theorem sm_comm (f : Nat → Nat → Nat) (n : Nat) : ∀ m, sm (fun i => sm (fun j => f i j) n) m = sm (fun j => sm (fun i => f i j) m) n
  | 0 => by rw [sm]; exact (sm_zero n).symm
  | m + 1 => by
    rw [sm, sm_comm f n m, ← sm_add]
    rfl
theorem sm_le {f : Nat → Nat} {c : Nat} : ∀ n, (∀ i, i < n → f i ≤ c) → sm f n ≤ n * c
  | 0, _ => Nat.zero_le _
  | n + 1, h => by
    have h1 := sm_le n (fun i hi => h i (Nat.lt_succ_of_lt hi))
    have h2 := h n (Nat.lt_succ_self n)
    rw [sm, Nat.succ_mul]
    omega
theorem sm_pos {f : Nat → Nat} {i : Nat} : ∀ n, i < n → 0 < f i → 0 < sm f n
  | 0, h, _ => absurd h (Nat.not_lt_zero i)
  | n + 1, h, hp => by
    rw [sm]
    by_cases c : i = n
    · rw [← c]; omega
    · have := sm_pos n (by omega) hp; omega
theorem sm_one {f : Nat → Nat} {k : Nat} : ∀ n, k < n → (∀ i, i < n → i ≠ k → f i = 0) → sm f n = f k
  | 0, h, _ => absurd h (Nat.not_lt_zero k)
  | n + 1, h, hz => by
    rw [sm]
    by_cases c : k = n
    · rw [sm_z (fun i hi => hz i (by omega) (by omega)), c, Nat.zero_add]
    · rw [sm_one n (by omega) (fun i hi hne => hz i (by omega) hne), hz n (by omega) (by omega), Nat.add_zero]
def sp_all (f : Nat → Bool) : Nat → Bool
  | 0 => true
  | n + 1 => sp_all f n && f n
theorem sp_all_iff {f : Nat → Bool} : ∀ {n : Nat}, sp_all f n = true ↔ ∀ i, i < n → f i = true
  | 0 => ⟨fun _ i hi => absurd hi (Nat.not_lt_zero i), fun _ => rfl⟩
  | n + 1 => by
    rw [sp_all, Bool.and_eq_true, sp_all_iff]
    constructor
    · intro h i hi
      by_cases c : i = n
      · rw [c]; exact h.2
      · exact h.1 i (by omega)
    · intro h
      exact ⟨fun i hi => h i (by omega), h n (by omega)⟩
def fac : Nat → Nat
  | 0 => 1
  | n + 1 => (n + 1) * fac n
def ex_go (s : Nat) (rec : Nat → List (List Nat)) : Nat → List (List Nat)
  | 0 => []
  | t + 1 => ex_go s rec t ++ (if s.testBit t then [] else (rec (s ||| 2 ^ t)).map (List.cons t))
def ex (T : Nat) : Nat → Nat → List (List Nat)
  | 0, _ => [[]]
  | n + 1, s => ex_go s (ex T n) T
theorem ex_go_cnt (P : List Nat → Bool) (s : Nat) (rec : Nat → List (List Nat)) : ∀ t, (ex_go s rec t).countP P = sm (fun t => if s.testBit t then 0 else (rec (s ||| 2 ^ t)).countP (fun l => P (t :: l))) t
  | 0 => rfl
  | t + 1 => by
    rw [ex_go, List.countP_append, ex_go_cnt P s rec t, sm]
    congr 1
    split
    · rfl
    · rw [List.countP_map]; rfl
theorem ex_cnt (P : List Nat → Bool) (T n s : Nat) : (ex T (n + 1) s).countP P = sm (fun t => if s.testBit t then 0 else (ex T n (s ||| 2 ^ t)).countP (fun l => P (t :: l))) T := ex_go_cnt P s (ex T n) T
theorem ex_go_mem {s : Nat} {rec : Nat → List (List Nat)} {l : List Nat} : ∀ {n : Nat}, l ∈ ex_go s rec n ↔ ∃ t m, t < n ∧ s.testBit t = false ∧ l = t :: m ∧ m ∈ rec (s ||| 2 ^ t)
  | 0 => ⟨fun h => (by cases h), fun ⟨t, _, h, _⟩ => absurd h (Nat.not_lt_zero t)⟩
  | n + 1 => by
    rw [ex_go, List.mem_append, ex_go_mem]
    constructor
    · rintro (⟨t, m, h1, h2⟩ | h)
      · exact ⟨t, m, by omega, h2⟩
      · by_cases c : s.testBit n = true
        · rw [if_pos c] at h; cases h
        · rw [if_neg c, List.mem_map] at h
          obtain ⟨m, hm, e⟩ := h
          exact ⟨n, m, by omega, by simpa using c, e.symm, hm⟩
    · rintro ⟨t, m, h1, h2, h3, h4⟩
      by_cases c : t = n
      · subst c
        refine Or.inr ?_
        rw [if_neg (by rw [h2]; decide), List.mem_map]
        exact ⟨m, h4, h3.symm⟩
      · exact Or.inl ⟨t, m, by omega, h2, h3, h4⟩
theorem tb_or {s t u : Nat} : (s ||| 2 ^ t).testBit u = (s.testBit u || decide (t = u)) := by rw [Nat.testBit_or, Nat.testBit_two_pow]
theorem ex_mem {T : Nat} : ∀ {n s : Nat} {l : List Nat}, l ∈ ex T n s ↔ l.length = n ∧ (∀ x, x ∈ l → x < T ∧ s.testBit x = false) ∧ l.Nodup
  | 0, s, l => by
    show l ∈ [[]] ↔ _
    rw [List.mem_singleton]
    constructor
    · intro e; subst e; exact ⟨rfl, fun x hx => (by cases hx), List.nodup_nil⟩
    · intro h; exact List.length_eq_zero_iff.1 h.1
  | n + 1, s, l => by
    show l ∈ ex_go s (ex T n) T ↔ _
    rw [ex_go_mem]
    constructor
    · rintro ⟨t, m, h1, h2, h3, h4⟩
      obtain ⟨g1, g2, g3⟩ := ex_mem.1 h4
      subst h3
      refine ⟨by rw [List.length_cons, g1], ?_, ?_⟩
      · intro x hx
        rcases List.mem_cons.1 hx with e | e
        · rw [e]; exact ⟨h1, h2⟩
        · have := g2 x e
          rw [tb_or, Bool.or_eq_false_iff] at this
          exact ⟨this.1, this.2.1⟩
      · rw [List.nodup_cons]
        refine ⟨fun hm => ?_, g3⟩
        have := (g2 t hm).2
        rw [tb_or, Bool.or_eq_false_iff] at this
        simp at this
    · rintro ⟨h1, h2, h3⟩
      cases l with
      | nil => cases h1
      | cons t m =>
        rw [List.nodup_cons] at h3
        have ht := h2 t List.mem_cons_self
        refine ⟨t, m, ht.1, ht.2, rfl, ex_mem.2 ⟨by simpa using h1, ?_, h3.2⟩⟩
        intro x hx
        have := h2 x (List.mem_cons_of_mem t hx)
        refine ⟨this.1, ?_⟩
        rw [tb_or, this.2, Bool.false_or]
        have : t ≠ x := fun e => h3.1 (e ▸ hx)
        simp [this]
/-! the rows' numbers -/
def ly_t : Nat → Nat → Nat → Nat → Option Nat
  | 0, _, _, _ => none
  | n + 1, met, skip, t => if met.testBit t then ly_t n met skip (t + 1) else if 0 < skip then ly_t n met (skip - 1) (t + 1) else some t
def ly : Nat → Nat → Nat → Nat → Option (List Nat)
  | 0, _, _, _ => some []
  | n + 1, left, met, ways => if ways / (n + 1) = 0 then none else match ly_t 6 met (left / (ways / (n + 1))) 0 with
    | none => none
    | some t => match ly n (left % (ways / (n + 1))) (met ||| 2 ^ t) (ways / (n + 1)) with
      | none => none
      | some l => some (t :: l)
def ro : List Nat → Nat → Nat → Nat
  | [], row, _ => row
  | t :: l, row, met => ro l (row * (l.length + 1) + sp_cnt (fun u => !met.testBit u) t) (met ||| 2 ^ t)
def rws (T : Nat) : List (List Nat) := ex T T 0
theorem ly_chk : ∀ T, T < 7 → (List.range (fac T)).map (fun r => ly T r 0 (fac T)) = (rws T).map some := by decide +kernel
theorem ro_chk : ∀ T, T < 7 → (rws T).map (fun l => ro l 0 0) = List.range (fac T) := by decide +kernel
def rowL (T r : Nat) : List Nat := (rws T).getD r []
def rv (T r p : Nat) : Nat := (rowL T r).getD p 0
theorem rws_len {T : Nat} (hT : T ≤ 6) : (rws T).length = fac T := by
  have := congrArg List.length (ro_chk T (by omega))
  simpa using this
theorem rowL_get {T r : Nat} (hT : T ≤ 6) (hr : r < fac T) : (rws T)[r]? = some (rowL T r) := by
  have hl := rws_len hT
  unfold rowL
  rw [List.getD_eq_getElem?_getD]
  rw [List.getElem?_eq_getElem (by omega)]
  rfl
theorem rowL_mem {T r : Nat} (hT : T ≤ 6) (hr : r < fac T) : rowL T r ∈ rws T := List.mem_of_getElem? (rowL_get hT hr)
theorem rowL_ly {T r : Nat} (hT : T ≤ 6) (hr : r < fac T) : ly T r 0 (fac T) = some (rowL T r) := by
  have := congrArg (fun L => L[r]?) (ly_chk T (by omega))
  simp only [List.getElem?_map, rowL_get hT hr, List.getElem?_range hr, Option.map_some] at this
  exact Option.some.inj this
theorem rowL_ro {T r : Nat} (hT : T ≤ 6) (hr : r < fac T) : ro (rowL T r) 0 0 = r := by
  have := congrArg (fun L => L[r]?) (ro_chk T (by omega))
  simp only [List.getElem?_map, rowL_get hT hr, List.getElem?_range hr, Option.map_some] at this
  exact Option.some.inj this
theorem rowL_len {T r : Nat} (hT : T ≤ 6) (hr : r < fac T) : (rowL T r).length = T := (ex_mem.1 (rowL_mem hT hr)).1
theorem rv_mem {T r p : Nat} (hT : T ≤ 6) (hr : r < fac T) (hp : p < T) : rv T r p ∈ rowL T r := by
  unfold rv
  have hl := rowL_len hT hr
  rw [List.getD_eq_getElem?_getD, List.getElem?_eq_getElem (by omega)]
  exact List.getElem_mem _
theorem rv_lt {T r p : Nat} (hT : T ≤ 6) (hr : r < fac T) (hp : p < T) : rv T r p < T := ((ex_mem.1 (rowL_mem hT hr)).2.1 _ (rv_mem hT hr hp)).1
theorem rv_PI {T r : Nat} (hT : T ≤ 6) (hr : r < fac T) : PI T (rv T r) := by
  refine ⟨fun i hi => rv_lt hT hr hi, fun i j hi hj e => ?_⟩
  have hl := rowL_len hT hr
  have hn := (ex_mem.1 (rowL_mem hT hr)).2.2
  unfold rv at e
  rw [List.getD_eq_getElem?_getD, List.getD_eq_getElem?_getD, List.getElem?_eq_getElem (by omega), List.getElem?_eq_getElem (by omega)] at e
  exact (List.getElem_inj hn).1 e
theorem row_of {T : Nat} (hT : T ≤ 6) {a : Nat → Nat} (h : PI T a) : ∃ r, r < fac T ∧ rowL T r = (List.range T).map a := by
  have hm : (List.range T).map a ∈ rws T := by
    refine ex_mem.2 ⟨by simp, ?_, ?_⟩
    · intro x hx
      rw [List.mem_map] at hx
      obtain ⟨i, hi, e⟩ := hx
      rw [List.mem_range] at hi
      exact ⟨e ▸ h.1 i hi, Nat.zero_testBit x⟩
    · have : ∀ n, n ≤ T → ((List.range n).map a).Nodup := by
        intro n
        induction n with
        | zero => intro _; exact List.nodup_nil
        | succ n ih =>
          intro hn
          rw [List.range_succ, List.map_append, List.nodup_append]
          refine ⟨ih (by omega), by simp, ?_⟩
          intro x hx y hy
          rw [List.mem_map] at hx
          obtain ⟨i, hi, e⟩ := hx
          rw [List.mem_range] at hi
          simp only [List.map_cons, List.map_nil, List.mem_singleton] at hy
          rw [← e, hy]
          intro e2
          have := h.2 i n (by omega) (by omega) e2
          omega
      exact this T (Nat.le_refl T)
  obtain ⟨r, hr⟩ := List.mem_iff_getElem?.1 hm
  have hl := rws_len hT
  have hr2 : r < (rws T).length := (List.getElem?_eq_some_iff.1 hr).1
  refine ⟨r, by omega, ?_⟩
  have := rowL_get hT (show r < fac T by omega)
  rw [hr] at this
  exact (Option.some.inj this).symm
theorem rv_of {T : Nat} {a : Nat → Nat} {r p : Nat} (e : rowL T r = (List.range T).map a) (hp : p < T) : rv T r p = a p := by
  unfold rv
  rw [e, List.getD_eq_getElem?_getD, List.getElem?_map, List.getElem?_range hp]
  rfl
theorem rowL_rv {T r : Nat} (hT : T ≤ 6) (hr : r < fac T) : rowL T r = (List.range T).map (rv T r) := by
  have hl := rowL_len hT hr
  apply List.ext_getElem?
  intro i
  rw [List.getElem?_map]
  by_cases c : i < T
  · rw [List.getElem?_range c, List.getElem?_eq_getElem (by omega)]
    unfold rv
    rw [Option.map_some, List.getD_eq_getElem?_getD, List.getElem?_eq_getElem (by omega)]
    rfl
  · rw [List.getElem?_eq_none (by omega), List.getElem?_eq_none (by simp; omega)]
    rfl
theorem rv_inj {T r r' : Nat} (hT : T ≤ 6) (hr : r < fac T) (hr' : r' < fac T) (h : ∀ p, p < T → rv T r p = rv T r' p) : r = r' := by
  have e : rowL T r = rowL T r' := by
    rw [rowL_rv hT hr, rowL_rv hT hr']
    apply List.map_congr_left
    intro p hp
    exact h p (List.mem_range.1 hp)
  rw [← rowL_ro hT hr, ← rowL_ro hT hr', e]
theorem fac_le : ∀ T, T ≤ 6 → 0 < fac T ∧ fac T ≤ 720 := by decide
theorem xdiv_nat {a b : Nat} (h : a < 2147483648) : xdiv (a : Int) (b : Int) = ((a / b : Nat) : Int) := by
  unfold xdiv
  rw [← Int.ofNat_tdiv, iw_nn (Nat.lt_of_le_of_lt (Nat.div_le_self a b) h)]
theorem xrem_nat {a b : Nat} : xrem (a : Int) (b : Int) = ((a % b : Nat) : Int) := by
  unfold xrem
  rw [← Int.ofNat_tmod]
