/-! bits of sixteen -/
theorem su_l : ∀ n, n < 32 → (((nI n).toUInt32 &&& Int32.toUInt32 31).toBitVec % 32).toNat = n := by decide +kernel
theorem xushr_nat {a j : Nat} (ha : a < 2147483648) (hj : j < 32) : xushr (a : Int) (j : Int) = ((a / 2 ^ j : Nat) : Int) := by
  unfold xushr
  rw [sp_nI, sp_nI, pk_ushrN (by omega) _ j (su_l j hj)]
  exact nI_toInt (Nat.lt_of_le_of_lt (Nat.div_le_self _ _) ha)
def b1 (p0 : Int) : Int := iw (p0 - (xand (xushr p0 1) 1431655765))
def b2 (p0 : Int) : Int := iw ((xand p0 858993459) + (xand (xushr p0 2) 858993459))
def b3 (p0 : Int) : Int := xand (iw (p0 + (xushr p0 4))) 252645135
def b4 (p0 : Int) : Int := iw (p0 + (xushr p0 8))
def b5 (p0 : Int) : Int := xand (iw (p0 + (xushr p0 16))) 63
theorem bc_b (p0 : Int) : bc p0 = b5 (b4 (b3 (b2 (b1 p0)))) := rfl
def s1 (x : Nat) : Nat := Nat.sub x (Nat.land (Nat.div x 2) 1431655765)
def s2 (x : Nat) : Nat := Nat.add (Nat.land x 858993459) (Nat.land (Nat.div x 4) 858993459)
def s3 (x : Nat) : Nat := Nat.land (Nat.add x (Nat.div x 16)) 252645135
def s4 (x : Nat) : Nat := Nat.add x (Nat.div x 256)
def s5 (x : Nat) : Nat := Nat.land (Nat.add x (Nat.div x 65536)) 63
def bcN (x : Nat) : Nat := s5 (s4 (s3 (s2 (s1 x))))
theorem xu1 {a : Nat} (ha : a < 2147483648) : xushr (a : Int) 1 = ((a / 2 : Nat) : Int) := xushr_nat (j := 1) ha (by decide)
theorem xu2 {a : Nat} (ha : a < 2147483648) : xushr (a : Int) 2 = ((a / 4 : Nat) : Int) := xushr_nat (j := 2) ha (by decide)
theorem xu4 {a : Nat} (ha : a < 2147483648) : xushr (a : Int) 4 = ((a / 16 : Nat) : Int) := xushr_nat (j := 4) ha (by decide)
theorem xu8 {a : Nat} (ha : a < 2147483648) : xushr (a : Int) 8 = ((a / 256 : Nat) : Int) := xushr_nat (j := 8) ha (by decide)
theorem xu16 {a : Nat} (ha : a < 2147483648) : xushr (a : Int) 16 = ((a / 65536 : Nat) : Int) := xushr_nat (j := 16) ha (by decide)
theorem xm5 {a : Nat} (ha : a < 2147483648) : xand (a : Int) 1431655765 = ((a &&& 1431655765 : Nat) : Int) := xand_nat (b := 1431655765) ha
theorem xm3 {a : Nat} (ha : a < 2147483648) : xand (a : Int) 858993459 = ((a &&& 858993459 : Nat) : Int) := xand_nat (b := 858993459) ha
theorem xmf {a : Nat} (ha : a < 2147483648) : xand (a : Int) 252645135 = ((a &&& 252645135 : Nat) : Int) := xand_nat (b := 252645135) ha
theorem xm6 {a : Nat} (ha : a < 2147483648) : xand (a : Int) 63 = ((a &&& 63 : Nat) : Int) := xand_nat (b := 63) ha
theorem b1_n {x : Nat} (h : x < 65536) : b1 (x : Int) = ((s1 x : Nat) : Int) ∧ s1 x < 65536 := by
  have h1 : x / 2 &&& 1431655765 ≤ x / 2 := Nat.and_le_left
  have e : s1 x = x - (x / 2 &&& 1431655765) := rfl
  unfold b1
  rw [xu1 (by omega), xm5 (by omega), iw_id (by omega) (by omega), e]
  omega
theorem b2_n {x : Nat} (h : x < 65536) : b2 (x : Int) = ((s2 x : Nat) : Int) ∧ s2 x < 1000000 := by
  have h1 : x &&& 858993459 ≤ x := Nat.and_le_left
  have h2 : x / 4 &&& 858993459 ≤ x / 4 := Nat.and_le_left
  have e : s2 x = (x &&& 858993459) + (x / 4 &&& 858993459) := rfl
  unfold b2
  rw [xu2 (by omega), xm3 (by omega), xm3 (by omega), iw_id (by omega) (by omega), e]
  omega
theorem b3_n {x : Nat} (h : x < 1000000) : b3 (x : Int) = ((s3 x : Nat) : Int) ∧ s3 x < 2000000 := by
  have h1 : (x + x / 16) &&& 252645135 ≤ x + x / 16 := Nat.and_le_left
  have e : s3 x = (x + x / 16) &&& 252645135 := rfl
  unfold b3
  rw [xu4 (by omega), iw_ad (by omega), xmf (by omega), e]
  exact ⟨rfl, by omega⟩
theorem b4_n {x : Nat} (h : x < 2000000) : b4 (x : Int) = ((s4 x : Nat) : Int) ∧ s4 x < 4000000 := by
  have e : s4 x = x + x / 256 := rfl
  unfold b4
  rw [xu8 (by omega), iw_ad (by omega), e]
  exact ⟨rfl, by omega⟩
theorem b5_n {x : Nat} (h : x < 4000000) : b5 (x : Int) = ((s5 x : Nat) : Int) := by
  have e : s5 x = (x + x / 65536) &&& 63 := rfl
  unfold b5
  rw [xu16 (by omega), iw_ad (by omega), xm6 (by omega), e]
theorem bc_N {x : Nat} (h : x < 65536) : bc (x : Int) = ((bcN x : Nat) : Int) := by
  have h1 := b1_n h
  have h2 := b2_n h1.2
  have h3 := b3_n h2.2
  have h4 := b4_n h3.2
  rw [bc_b, h1.1, h2.1, h3.1, h4.1, b5_n h4.2]
  rfl
theorem bcN_add0 : sp_all (fun b => sp_all (fun a => Nat.beq (bcN (Nat.add a (Nat.mul 256 b))) (Nat.add (bcN a) (bcN b))) 256) 256 = true := by decide +kernel
theorem bcN_8 : ∀ a, a < 256 → bcN a = sp_cnt (fun i => a.testBit i) 8 := by decide +kernel
theorem sp_cnt_split (f : Nat → Bool) (n : Nat) : ∀ m, sp_cnt f (n + m) = sp_cnt f n + sp_cnt (fun i => f (n + i)) m
  | 0 => rfl
  | m + 1 => by rw [← Nat.add_assoc, sp_cnt, sp_cnt, sp_cnt_split f n m, Nat.add_assoc]
theorem bcN_16 {x : Nat} (h : x < 65536) : bcN x = sp_cnt (fun i => x.testBit i) 16 := by
  have h1 : x % 256 < 256 := Nat.mod_lt _ (by decide)
  have h2 : x / 256 < 256 := by omega
  have e := sp_all_iff.1 (sp_all_iff.1 bcN_add0 (x / 256) h2) (x % 256) h1
  have e2 : bcN (x % 256 + 256 * (x / 256)) = bcN (x % 256) + bcN (x / 256) := Nat.eq_of_beq_eq_true e
  rw [Nat.mod_add_div] at e2
  rw [e2, bcN_8 _ h1, bcN_8 _ h2, sp_cnt_split (fun i => x.testBit i) 8 8]
  congr 1
  · refine sp_cnt_congr 8 (fun i hi => ?_)
    have := Nat.testBit_mod_two_pow x 8 i
    rw [show (2 : Nat) ^ 8 = 256 from rfl] at this
    rw [this, decide_eq_true hi, Bool.true_and]
  · refine sp_cnt_congr 8 (fun i hi => ?_)
    have := Nat.testBit_div_two_pow (n := 8) x i
    rw [show (2 : Nat) ^ 8 = 256 from rfl] at this
    rw [this, Nat.add_comm]
theorem bits_16 {f : Nat → Bool} {n : Nat} (hn : n ≤ 16) : sp_bits f n < 65536 := Nat.lt_of_lt_of_le (sp_bits_lt f n) (Nat.pow_le_pow_right (n := 2) (j := 16) (by decide) hn)
theorem X_bitCount16_ok {d n : Nat} {f : Nat → Bool} {μ : Mem} {Q : AV → Mem → Prop} (hn : n ≤ 16) (h : Q (xI ((sp_cnt f n : Nat) : Int)) μ) : GM d 77 [xI ((sp_bits f n : Nat) : Int)] μ Q := by
  have hb := bits_16 (f := f) hn
  have e0 := sp_cnt_ext0 (f := fun i => (sp_bits f n).testBit i) (n := n) (fun i hi => by rw [sp_bits_tb, decide_eq_false (by omega), Bool.false_and]) (16 - n)
  rw [show n + (16 - n) = 16 by omega] at e0
  have e1 : sp_cnt (fun i => (sp_bits f n).testBit i) n = sp_cnt f n := sp_cnt_congr n (fun i hi => by rw [sp_bits_tb, decide_eq_true hi, Bool.true_and])
  refine ge_JInteger_bitCount ?_
  have e := bc_N hb
  rw [bcN_16 hb, e0, e1] at e
  unfold bc at e
  rw [e]
  exact h
theorem tb_65535 : ∀ i, i < 16 → Nat.testBit 65535 i = true := by decide
theorem x_andn16 {a s : Nat} (ha : a < 65536) : xand (a : Int) (xxor (s : Int) (-1)) = ((a &&& (65535 ^^^ s) : Nat) : Int) := by
  unfold xand xxor
  rw [Int32.ofInt_toInt, sp_nI, sp_nI]
  have e : nI a &&& (nI s ^^^ Int32.ofInt (-1)) = nI (a &&& (65535 ^^^ s)) := by
    apply Int32.toBitVec_inj.1
    show BitVec.ofNat 32 a &&& (BitVec.ofNat 32 s ^^^ BitVec.ofInt 32 (-1)) = BitVec.ofNat 32 (a &&& (65535 ^^^ s))
    apply BitVec.eq_of_getLsbD_eq
    intro i hi
    have e1 : (BitVec.ofInt 32 (-1)).getLsbD i = true := by
      rw [show BitVec.ofInt 32 (-1) = BitVec.allOnes 32 from by decide, BitVec.getLsbD_allOnes, decide_eq_true hi]
    rw [BitVec.getLsbD_and, BitVec.getLsbD_xor, BitVec.getLsbD_ofNat, BitVec.getLsbD_ofNat, BitVec.getLsbD_ofNat, e1, decide_eq_true hi, Bool.true_and, Bool.true_and, Bool.true_and, Nat.testBit_and, Nat.testBit_xor]
    by_cases c : i < 16
    · rw [tb_65535 i c, Bool.xor_comm]
    · have e2 : a.testBit i = false := Nat.testBit_lt_two_pow (Nat.lt_of_lt_of_le ha (Nat.pow_le_pow_right (n := 2) (i := 16) (by decide) (by omega)))
      rw [e2, Bool.false_and, Bool.false_and]
  rw [e]
  exact nI_toInt (Nat.lt_of_le_of_lt Nat.and_le_left (by omega))
