/-! rings -/
def rg_go (lie : Nat → Nat) : Nat → Nat → Nat → Nat
  | 0, met, _ => met
  | n + 1, met, q => if met.testBit q then met else rg_go lie n (met ||| 2 ^ q) (lie q)
def rg_all (lie : Nat → Nat) (T : Nat) : Nat → Nat × Nat
  | 0 => (0, 0)
  | p + 1 => ((rg_all lie T p).1 + (if (rg_all lie T p).2.testBit p then 0 else 1), rg_go lie T (rg_all lie T p).2 p)
def r_rings (α : Al) : Int := ((rg_all (α.1 9) (α.1 0 1) (α.1 0 1)).1 : Nat)
theorem rg_go_lt {lie : Nat → Nat} {T : Nat} (hT : T ≤ 6) (hl : ∀ i, i < T → lie i < T) : ∀ n met q, met < 64 → q < T → rg_go lie n met q < 64
  | 0, met, q, h, _ => h
  | n + 1, met, q, h, hq => by
    rw [rg_go]
    split
    · exact h
    · have h2 : (2 : Nat) ^ q < 2 ^ 6 := Nat.pow_lt_pow_right (by decide) (by omega)
      exact rg_go_lt hT hl n _ _ (Nat.or_lt_two_pow (n := 6) h h2) (hl q hq)
theorem rg_all_lt {lie : Nat → Nat} {T : Nat} (hT : T ≤ 6) (hl : ∀ i, i < T → lie i < T) : ∀ p, p ≤ T → (rg_all lie T p).2 < 64 ∧ (rg_all lie T p).1 ≤ p
  | 0, _ => ⟨(show (0 : Nat) < 64 by decide), Nat.le_refl 0⟩
  | p + 1, h => by
    obtain ⟨h1, h2⟩ := rg_all_lt hT hl p (by omega)
    refine ⟨rg_go_lt hT hl T _ _ h1 (by omega), ?_⟩
    rw [rg_all]
    dsimp only
    split <;> omega
/-- how many of the first T bits are not set -/
def rg_un (met : Nat) (T : Nat) : Nat := sp_cnt (fun i => !met.testBit i) T
theorem sp_cnt_upd {f g : Nat → Bool} {q : Nat} (hf : f q = true) (hg : g q = false) (ho : ∀ i, i ≠ q → f i = g i) : ∀ T, q < T → sp_cnt g T + 1 = sp_cnt f T := by
  intro T
  induction T with
  | zero => intro h; omega
  | succ T ih =>
    intro h
    rw [sp_cnt, sp_cnt]
    rcases Nat.lt_or_ge q T with c | c
    · have := ih c
      rw [ho T (by omega)]
      split <;> omega
    · have e : q = T := by omega
      subst e
      have hs : ∀ n, n ≤ q → sp_cnt g n = sp_cnt f n := by
        intro n
        induction n with
        | zero => intro _; rfl
        | succ n ihn => intro hn; rw [sp_cnt, sp_cnt, ihn (by omega), ho n (by omega)]
      rw [hs q (Nat.le_refl q), hf, hg]
      rfl
theorem sp_cnt_pos {f : Nat → Bool} {q : Nat} (hf : f q = true) : ∀ T, q < T → 0 < sp_cnt f T := by
  intro T
  induction T with
  | zero => intro h; omega
  | succ T ih =>
    intro h
    rw [sp_cnt]
    rcases Nat.lt_or_ge q T with c | c
    · have := ih c; omega
    · have e : q = T := by omega
      subst e
      rw [hf]
      simp
theorem rg_un_step {met T q : Nat} (hq : q < T) (h : met.testBit q = false) : rg_un (met ||| 2 ^ q) T + 1 = rg_un met T := by
  unfold rg_un
  refine sp_cnt_upd (q := q) (by simp [h]) ?_ ?_ T hq
  · rw [Nat.testBit_or, Nat.testBit_two_pow_self]; simp
  · intro i hi
    rw [Nat.testBit_or, Nat.testBit_two_pow_of_ne (fun e => hi e.symm)]
    simp
set_option maxRecDepth 20000 in
theorem M_rings_ok {d : Nat} {μ : Mem} {α : Al} {Q : AV → Mem → Prop} (hv : vM μ α) (hw : wf α) (h : Q (xI (r_rings α)) μ) : GM (d + 1) 163 [xR 61] μ Q := by
  have hT := wf_T hw
  have hl : ∀ i, i < α.1 0 1 → α.1 9 i < α.1 0 1 := fun i hi => (wf_lie hw i hi).1
  refine ge_M_rings ?_
  have inner : ∀ (p c : Nat) (K : ∀ (m : Nat) (v4 : AV), m = m → True) (u met q : Nat), rg_un met (α.1 0 1) ≤ u → met < 64 → q < α.1 0 1 → (∀ v4 : AV, DW (d + 1) 163 40 [xR 61, xI ((rg_go (α.1 9) u met q : Nat) : Int), xI (c : Int), xI (p : Int), v4] μ Q) → DW (d + 1) 163 23 [xR 61, xI (met : Int), xI (c : Int), xI (p : Int), xI (q : Int)] μ Q := by
    intro p c _ u
    induction u with
    | zero =>
      intro met q hu hm hq hx
      refine sg_M_rings_23 ?_
      have hb : met.testBit q = true := by
        cases e : met.testBit q with
        | true => rfl
        | false =>
          have := sp_cnt_pos (f := fun i => !met.testBit i) (q := q) (by simp [e]) (α.1 0 1) hq
          unfold rg_un at hu
          omega
      rw [if_pos (by rw [sp_bit1 (by omega) (by omega)]; exact hb)]
      exact hx _
    | succ u ih =>
      intro met q hu hm hq hx
      refine sg_M_rings_23 ?_
      rw [rg_go] at hx
      cases e : met.testBit q with
      | true =>
        rw [if_pos (by rw [sp_bit1 (by omega) (by omega)]; exact e)]
        rw [e, if_pos rfl] at hx
        exact hx _
      | false =>
        have h2 : (2 : Nat) ^ q < 2 ^ 6 := Nat.pow_lt_pow_right (by decide) (by omega)
        rw [if_neg (by rw [sp_bit1 (by omega) (by omega), e]; decide)]
        rw [e, if_neg (by decide)] at hx
        simp (disch := omega) only [wb_eq, Int.toNat_natCast, vM_lie hv, sp_one, xior_nat]
        have := rg_un_step hq e
        exact ih _ _ (by omega) (Nat.or_lt_two_pow (n := 6) hm h2) (hl q hq) hx
  have outer : ∀ n p, p + n = α.1 0 1 → ∀ v4 : AV, DW (d + 1) 163 6 [xR 61, xI (((rg_all (α.1 9) (α.1 0 1) p).2 : Nat) : Int), xI (((rg_all (α.1 9) (α.1 0 1) p).1 : Nat) : Int), xI (p : Int), v4] μ Q := by
    intro n
    induction n with
    | zero =>
      intro p hp v4
      refine sg_M_rings_6 ?_
      rw [vM_T hv, if_neg (by omega), show p = α.1 0 1 by omega]
      exact h
    | succ n ih =>
      intro p hp v4
      obtain ⟨g1, g2⟩ := rg_all_lt hT hl p (by omega)
      have hun : rg_un (rg_all (α.1 9) (α.1 0 1) p).2 (α.1 0 1) ≤ α.1 0 1 := sp_cnt_le _ _
      refine sg_M_rings_6 ?_
      rw [vM_T hv, if_pos (by omega)]
      have hi := ih (p + 1) (by omega)
      rw [rg_all] at hi
      dsimp only at hi
      refine wi (fun e => ?_) (fun e => ?_)
      · rw [sp_bit1 (by omega) (by omega)] at e
        rw [e, if_pos rfl] at hi
        rw [iw_n0 (by omega)]
        refine inner p _ (fun _ _ _ => trivial) (α.1 0 1) _ p hun g1 (by omega) (fun v4 => ?_)
        refine sg_M_rings_40 ?_
        rw [iw_k1 (by omega)]
        exact hi _
      · rw [sp_bit1 (by omega) (by omega)] at e
        rw [if_neg e] at hi
        rw [iw_k1 (by omega)]
        refine inner p _ (fun _ _ _ => trivial) (α.1 0 1) _ p hun g1 (by omega) (fun v4 => ?_)
        refine sg_M_rings_40 ?_
        rw [iw_k1 (by omega)]
        exact hi _
  exact outer (α.1 0 1) 0 (by omega) _
