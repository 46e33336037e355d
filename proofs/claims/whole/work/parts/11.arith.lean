/-! numbers for the specifications -/
theorem iw_id {x : Int} (h1 : -2147483648 ≤ x) (h2 : x < 2147483648) : iw x = x := by rw [iw_def]; omega
theorem sp_and (a b : Nat) : nI a &&& nI b = nI (a &&& b) := by
  apply Int32.toBitVec_inj.1
  show BitVec.ofNat 32 a &&& BitVec.ofNat 32 b = BitVec.ofNat 32 (a &&& b)
  apply BitVec.eq_of_getLsbD_eq
  intro i hi
  simp [hi]
theorem sp_or (a b : Nat) : nI a ||| nI b = nI (a ||| b) := by
  apply Int32.toBitVec_inj.1
  show BitVec.ofNat 32 a ||| BitVec.ofNat 32 b = BitVec.ofNat 32 (a ||| b)
  apply BitVec.eq_of_getLsbD_eq
  intro i hi
  simp [hi]
theorem sp_xor (a b : Nat) : nI a ^^^ nI b = nI (a ^^^ b) := by
  apply Int32.toBitVec_inj.1
  show BitVec.ofNat 32 a ^^^ BitVec.ofNat 32 b = BitVec.ofNat 32 (a ^^^ b)
  apply BitVec.eq_of_getLsbD_eq
  intro i hi
  simp [hi]
theorem sp_nI (a : Nat) : Int32.ofInt (a : Int) = nI a := Int32.ofInt_eq_ofNat
theorem xand_nat {a b : Nat} (ha : a < 2147483648) : xand (a : Int) (b : Int) = ((a &&& b : Nat) : Int) := by
  unfold xand
  rw [sp_nI, sp_nI, sp_and]
  exact nI_toInt (Nat.lt_of_le_of_lt Nat.and_le_left ha)
theorem xior_nat {a b : Nat} (ha : a < 2147483648) (hb : b < 2147483648) : xior (a : Int) (b : Int) = ((a ||| b : Nat) : Int) := by
  unfold xior
  rw [sp_nI, sp_nI, sp_or]
  exact nI_toInt (Nat.or_lt_two_pow ha hb)
theorem xxor_nat {a b : Nat} (ha : a < 2147483648) (hb : b < 2147483648) : xxor (a : Int) (b : Int) = ((a ^^^ b : Nat) : Int) := by
  unfold xxor
  rw [sp_nI, sp_nI, sp_xor]
  exact nI_toInt (Nat.xor_lt_two_pow ha hb)
theorem sp_sl : ∀ n, n < 32 → ((nI n &&& 31).toBitVec.smod 32).toNat = n := by decide +kernel
theorem xshl_nat {a j : Nat} (hj : j < 32) (h : a * 2 ^ j < 2147483648) : xshl (a : Int) (j : Int) = ((a * 2 ^ j : Nat) : Int) := by
  unfold xshl
  rw [sp_nI, sp_nI, pk_shlN _ j (sp_sl j hj) (by omega)]
  exact nI_toInt h
theorem xshr_nat {a j : Nat} (ha : a < 2147483648) (hj : j < 32) : xshr (a : Int) (j : Int) = ((a / 2 ^ j : Nat) : Int) := by
  unfold xshr
  rw [sp_nI, sp_nI, pk_shrN ha _ j (sp_sl j hj)]
  exact nI_toInt (Nat.lt_of_le_of_lt (Nat.div_le_self _ _) ha)
theorem sp_bit {a j : Nat} (ha : a < 2147483648) (hj : j < 32) : xand (xshr (a : Int) (j : Int)) 1 = if a.testBit j then 1 else 0 := by
  rw [xshr_nat ha hj]
  have h := xand_nat (a := a / 2 ^ j) (b := 1) (Nat.lt_of_le_of_lt (Nat.div_le_self _ _) ha)
  rw [show ((1 : Nat) : Int) = 1 from rfl] at h
  rw [h, Nat.and_one_is_mod, Nat.testBit_eq_decide_div_mod_eq]
  by_cases c : a / 2 ^ j % 2 = 1
  · simp [c]
  · have : a / 2 ^ j % 2 = 0 := by omega
    simp [this]
theorem sp_one {j : Nat} (hj : j < 31) : xshl 1 (j : Int) = ((2 ^ j : Nat) : Int) := by
  have hp : (2 : Nat) ^ j < 2147483648 := Nat.pow_lt_pow_right (by decide) hj
  have h := xshl_nat (a := 1) (j := j) (by omega) (by omega)
  rw [Nat.one_mul] at h
  exact h
/-! memory -/
theorem xs_s {μ : Mem} {c j : Nat} {v : Int} : xset μ c j v c j = v := ax_xset_s
theorem xs_c {μ : Mem} {c j c' j' : Nat} {v : Int} (h : c' ≠ c) : xset μ c j v c' j' = μ c' j' := ax_xset_o c' h j'
theorem xs_j {μ : Mem} {c j c' j' : Nat} {v : Int} (h : j' ≠ j) : xset μ c j v c' j' = μ c' j' := by unfold xset; rw [if_neg (fun w => h w.2)]
theorem xs_if {μ : Mem} {c j c' j' : Nat} {v : Int} : xset μ c j v c' j' = if c' = c ∧ j' = j then v else μ c' j' := rfl
/-! loops -/
theorem lp_up {σ : Type} (Wf : Nat → σ → Prop) (I : Nat → σ → Prop) (T : Nat) (hs : ∀ i s, i < T → I i s → (∀ s', I (i + 1) s' → Wf (i + 1) s') → Wf i s) (hx : ∀ s, I T s → Wf T s) : ∀ n i s, i + n = T → I i s → Wf i s := by
  intro n
  induction n with
  | zero => intro i s h hi; rw [show i = T by omega] at hi ⊢; exact hx s hi
  | succ n ih => intro i s h hi; exact hs i s (by omega) hi (fun s' hs' => ih (i + 1) s' (by omega) hs')
theorem iw_nat {n : Nat} (h : n < 2147483647) : iw ((n : Int) + 1) = ((n + 1 : Nat) : Int) := by rw [iw_def]; omega
