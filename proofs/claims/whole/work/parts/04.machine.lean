/-! THE ABSTRACT MACHINE: ints are Int in range, references are numbers of cells of a fixed graph, memory is a function -/
abbrev AV : Type := Int ⊕ (Nat ⊕ ((Nat × Int) ⊕ Int))
abbrev xI (x : Int) : AV := Sum.inl x
abbrev xR (r : Nat) : AV := Sum.inr (Sum.inl r)
abbrev xW (c : Nat) (i : Int) : AV := Sum.inr (Sum.inr (Sum.inl (c, i)))
abbrev xL (z : Int) : AV := Sum.inr (Sum.inr (Sum.inr z))
abbrev Mem : Type := Nat → Nat → Int
/-- wrap; written so that on a number that isn't known it stops at once -/
def iwG (B : Nat) (x : Int) : Int := match x with
  | .ofNat n => match Nat.blt n B with
    | true => .ofNat n
    | false => (Int.ofNat n + (B : Int)) % (2 * (B : Int)) - (B : Int)
  | .negSucc n => match Nat.blt n B with
    | true => .negSucc n
    | false => (Int.negSucc n + (B : Int)) % (2 * (B : Int)) - (B : Int)
theorem iwG_def (B : Nat) (x : Int) : iwG B x = (x + (B : Int)) % (2 * (B : Int)) - (B : Int) := by
  cases x with
  | ofNat n =>
    have e0 : Int.ofNat n = (n : Int) := rfl
    cases h : Nat.blt n B with
    | true =>
      have h1 : n < B := by simpa only [Nat.blt_eq] using h
      simp only [iwG, h]
      rw [Int.emod_eq_of_lt (by omega) (by omega)]
      omega
    | false => simp only [iwG, h]
  | negSucc n =>
    cases h : Nat.blt n B with
    | true =>
      have h1 : n < B := by simpa only [Nat.blt_eq] using h
      simp only [iwG, h]
      rw [Int.emod_eq_of_lt (by omega) (by omega)]
      omega
    | false => simp only [iwG, h]
def iw (x : Int) : Int := iwG 2147483648 x
theorem iw_def (x : Int) : iw x = (x + 2147483648) % 4294967296 - 2147483648 := by
  have h := iwG_def 2147483648 x
  have e : iw x = iwG 2147483648 x := by unfold iw; exact rfl
  omega
def lw (x : Int) : Int := iwG 9223372036854775808 x
theorem lw_def (x : Int) : lw x = (x + 9223372036854775808) % 18446744073709551616 - 9223372036854775808 := by
  have h := iwG_def 9223372036854775808 x
  have e : lw x = iwG 9223372036854775808 x := by unfold lw; exact rfl
  omega
def xset (μ : Mem) (c j : Nat) (v : Int) : Mem := fun a b => if a = c ∧ b = j then v else μ a b
def xcpy (μ : Mem) (rs rd sp dp n : Nat) : Mem := fun a b => if a = rd ∧ dp ≤ b ∧ b < dp + n then μ rs (sp + (b - dp)) else μ a b
def xand (x y : Int) : Int := (Int32.ofInt x &&& Int32.ofInt y).toInt
def xior (x y : Int) : Int := (Int32.ofInt x ||| Int32.ofInt y).toInt
def xxor (x y : Int) : Int := (Int32.ofInt x ^^^ Int32.ofInt y).toInt
def xshl (x y : Int) : Int := (Int32.ofInt x <<< (Int32.ofInt y &&& 31)).toInt
def xshr (x y : Int) : Int := (Int32.ofInt x >>> (Int32.ofInt y &&& 31)).toInt
def xushr (x y : Int) : Int := ((Int32.ofInt x).toUInt32 >>> ((Int32.ofInt y).toUInt32 &&& Int32.toUInt32 31)).toInt32.toInt
def xcmp (x y : Int) : Int := if x < y then -1 else if x = y then 0 else 1
def xi2b (x : Int) : Int := (Int32.ofInt x).toInt8.toInt32.toInt
def xi2c (x : Int) : Int := ((Int32.ofInt x).toUInt32 % 65536).toInt32.toInt
def xdiv (x y : Int) : Int := iw (Int.tdiv x y)
def xrem (x y : Int) : Int := Int.tmod x y
def wb (i : Int) (n : Nat) (P : Prop) : Prop := match i with
  | .ofNat m => match Nat.blt m n with
    | true => P
    | false => False
  | .negSucc _ => False
def wz (y : Int) (P : Prop) : Prop := match y with
  | .ofNat 0 => False
  | .ofNat (_ + 1) => P
  | .negSucc _ => P
theorem wb_eq {i : Int} {n : Nat} {P : Prop} (h0 : 0 ≤ i) (h1 : i < (n : Int)) : wb i n P = P := by
  obtain ⟨m, rfl⟩ := Int.eq_ofNat_of_zero_le h0
  have h2 : Nat.blt m n = true := by rw [Nat.blt_eq]; omega
  show (match Nat.blt m n with
    | true => P
    | false => False) = P
  rw [h2]
theorem wb_i {i : Int} {n : Nat} {P : Prop} (h0 : 0 ≤ i) (h1 : i < (n : Int)) (h : P) : wb i n P := by rw [wb_eq h0 h1]; exact h
theorem wb_e {i : Int} {n : Nat} {P : Prop} (h : wb i n P) : (0 ≤ i ∧ i < (n : Int)) ∧ P := by
  cases i with
  | negSucc m => exact h.elim
  | ofNat m =>
    cases h2 : Nat.blt m n with
    | true =>
      have h3 : m < n := by simpa only [Nat.blt_eq] using h2
      have c1 : (0 : Int) ≤ Int.ofNat m := Int.natCast_nonneg m
      have c2 : Int.ofNat m < (n : Int) := Int.ofNat_lt.mpr h3
      rw [wb_eq c1 c2] at h
      exact ⟨⟨c1, c2⟩, h⟩
    | false =>
      have h' : (match Nat.blt m n with
        | true => P
        | false => False) := h
      rw [h2] at h'
      exact h'.elim
theorem wz_eq {y : Int} {P : Prop} (h0 : y ≠ 0) : wz y P = P := by
  match y, h0 with
  | .ofNat 0, h0 => exact absurd rfl h0
  | .ofNat (_ + 1), _ => rfl
  | .negSucc _, _ => rfl
theorem wz_i {y : Int} {P : Prop} (h0 : y ≠ 0) (h : P) : wz y P := by rw [wz_eq h0]; exact h
theorem wz_e {y : Int} {P : Prop} (h : wz y P) : y ≠ 0 ∧ P := by
  match y, h with
  | .ofNat (n + 1), h => exact ⟨fun e => (by cases e), h⟩
  | .negSucc n, h => exact ⟨fun e => (by cases e), h⟩
theorem wi {c : Prop} [Decidable c] {A B : Prop} (h1 : c → A) (h2 : ¬ c → B) : if c then A else B := by
  by_cases h : c
  · rw [if_pos h]; exact h1 h
  · rw [if_neg h]; exact h2 h
/-! tables -/
def ax_inS (k r : Nat) : Bool := Nat.ble (ax_sd k).1 r && Nat.blt r ((ax_sd k).1 + (ax_sd k).2)
def ax_fld (k r ci j : Nat) : Option Nat := match ax_inS k r with
  | true => match ax_cd r with
    | (0, ci', ks) => match Nat.beq ci' ci with
      | true => ks[j]?
      | false => none
    | _ => none
  | false => none
def ax_arr (tg k r : Nat) : Option Nat := match ax_inS k r with
  | true => match ax_cd r with
    | (t, n, _) => match Nat.beq t tg with
      | true => some n
      | false => none
  | false => none
def ax_row (k c : Nat) : Option (Nat × Nat) := match ax_inS k c with
  | true => match ax_cd c with
    | (4, n, [m]) => some (n, m)
    | _ => none
  | false => none
def ax_ref (k c : Nat) : Option (List Nat) := match ax_inS k c with
  | true => match ax_cd c with
    | (3, _, ks) => some ks
    | _ => none
  | false => none
def ax_con (r : Nat) : Option (List Int) := match Nat.ble 140 r && Nat.blt r 143 with
  | true => ax_staV[r - 140]?
  | false => none
def ax_byt (r : Nat) : Option (List Int) := match Nat.ble 120 r && Nat.blt r 137 with
  | true => ax_strB[r - 120]?
  | false => none
def ax_str (r : Nat) : Bool := Nat.ble 100 r && Nat.blt r 117
def ax_sel (m : Int) (ks : List Nat) (i : Int) (f : Nat → Prop) : Prop := match ks with
  | [] => False
  | r :: ks' => if i = m then f r else ax_sel (m + 1) ks' i f
def ax_sw (t : List (Int × Nat)) (x : Int) (f : Nat → Prop) (d : Nat) : Prop := match t with
  | [] => f d
  | (key, g) :: t' => if x = key then f g else ax_sw t' x f d
/-- the class of a method, by its number (50: String) -/
def ax_mciL : List Nat := [9, 7, 9, 9, 7, 7, 7, 7, 7, 7, 7, 50, 50, 50, 50, 99, 50, 99, 7, 7, 7, 7, 7, 7, 7, 7, 9, 8, 8, 8, 7, 50, 50, 99, 99, 99, 8, 8, 8, 4, 1, 9, 8, 8, 8, 8, 9, 9, 4, 9, 4, 9, 4, 8, 9, 9, 8, 8, 8, 9, 4, 9, 4, 8, 9, 4, 9, 9, 4, 9, 3, 3, 9, 4, 9, 5, 5, 99, 5, 5, 5, 5, 5, 5, 9, 9, 6, 9, 9, 2, 2, 6, 2, 2, 2, 99, 9, 2, 9, 2, 9, 2, 9, 9, 2, 2, 9, 0, 0, 0, 0, 0, 0, 9, 1, 1, 1, 1, 1, 1, 1, 1, 1, 9, 4, 8, 10, 10, 10, 10, 10, 10, 10, 10, 10, 10, 10, 10, 10, 10, 10, 10, 10, 10, 10, 10, 10, 10, 10, 10, 10, 10, 10, 10, 10, 10, 10, 10, 10, 10, 10, 10, 10, 10, 10, 10, 10, 10, 10, 10, 10, 10, 10, 10, 10, 10, 10, 10, 10, 10, 10, 10, 10, 10, 10, 10, 10, 10, 10, 10, 10, 10, 10]
/-! what an abstract state is on the machine -/
def ax_rv (q : (Nat → Nat) × Value) : AV → Value
  | .inl x => .int (Int32.ofInt x)
  | .inr (.inl r) => if r = 150 then q.2 else .ref (q.1 r)
  | .inr (.inr (.inl w)) => .ref (q.1 (w.1 + 1 + w.2.toNat))
  | .inr (.inr (.inr z)) => .long (Int64.ofInt z)
def ax_r32 (x : Int) : Prop := -2147483648 ≤ x ∧ x < 2147483648
def ax_r64 (x : Int) : Prop := -9223372036854775808 ≤ x ∧ x < 9223372036854775808
def ax_okv : AV → Prop
  | .inl x => ax_r32 x
  | .inr (.inl _) => True
  | .inr (.inr (.inl w)) => ∃ n m : Nat, ax_cd w.1 = (4, n, [m]) ∧ 0 ≤ w.2 ∧ w.2 < (n : Int)
  | .inr (.inr (.inr z)) => ax_r64 z
def ax_lk (i j : Nat) : Bool := match ax_cd i with
  | (0, _, ks) => ks.getD j 0 == 1
  | _ => false
def ax_okm (μ : Mem) : Prop := ∀ i j : Nat, if ax_lk i j then ax_r64 (μ i j) else ax_r32 (μ i j)
def ax_fv (q : (Nat → Nat) × Value) (μ : Mem) (i j kd : Nat) : Value := match kd with
  | 0 => .int (Int32.ofInt (μ i j))
  | 1 => .long (Int64.ofInt (μ i j))
  | r + 2 => .ref (q.1 r)
def ax_cE (q : (Nat → Nat) × Value) (tc : Nat → ClassId) (μ : Mem) (i : Nat) : va_E := match ax_cd i with
  | (0, ci, ks) => .inr (ci, (List.range ks.length).map (fun j => ax_fv q μ i j (ks.getD j 0)))
  | (1, n, _) => .inl (tc 0, n, .inl (fun j => Int32.ofInt (μ i j)))
  | (2, n, _) => .inl (tc 1, n, .inl (fun j => Int32.ofInt (μ i j)))
  | (3, n, ks) => .inl (tc 2, n, .inr (.inr (.inr (.inr (fun j => (ks[j]?).map q.1)))))
  | (4, n, _) => .inl (tc 3, n, .inr (.inr (.inr (.inr (fun j => if j < n then some (q.1 (i + 1 + j)) else none)))))
  | _ => .inl (tc 0, 0, .inl (fun _ => 0))
def ax_wd (sd : Nat × Nat) (q : (Nat → Nat) × Value) (tc : Nat → ClassId) (μ : Mem) : va_W := (List.range sd.2).map (fun j => (q.1 (sd.1 + j), ax_cE q tc μ (sd.1 + j)))
abbrev ax_tys (tc : Nat → ClassId) : List (ClassId × FieldType) := [(tc 0, .int), (tc 1, .boolean), (tc 2, .object "InnChanged$Now"), (tc 3, .array .int)]
def ax_strB32 : List (List Int32) := ax_strB.map (fun l => l.map Int32.ofInt)
/-- the constants: Strings, static tables -/
def ax_KC (q : (Nat → Nat) × Value) (A : Nat → Prop) (U : State) (H : Heap) : Prop :=
  vk_S 17 ax_strN ax_strB32 (fun i => q.1 (100 + i)) (fun i => q.1 (120 + i)) A U H ∧
  (∀ i : Nat, i < 17 → vk_R "InnChanged$Text" (ax_strI.getD i 0) (ax_strT.getD i "") (q.1 (100 + i)) U) ∧
  va_Z "java/lang/String" "COMPACT_STRINGS" "Z" (.int 1) A U H ∧
  va_Z "jdk/internal/util/Preconditions" "SIOOBE_FORMATTER" "Ljava/util/function/BiFunction;" q.2 A U H ∧ (q.2 = .null ∨ ∃ t : Nat, q.2 = .ref t) ∧
  (∀ j : Nat, j < 3 → va_Z "InnChanged" (ax_staN.getD j "") "[I" (.ref (q.1 (140 + j))) A U H ∧ va_T .int (q.1 (140 + j)) (ax_staV.getD j []).length (fun n => .int (Int32.ofInt ((ax_staV.getD j []).getD n 0))) A U H)
abbrev ax_rm (d : Nat) : Room := { frames := d, cells := 0, slots := 0, locals := 40 * d }
def ax_rvo (rk : Nat) (q : (Nat → Nat) × Value) (r : AV) : Option Value := match rk with
  | 0 => none
  | _ => some (ax_rv q r)
def ax_QC (sd : Nat × Nat) (rk : Nat) (q : (Nat → Nat) × Value) (tc : Nat → ClassId) (D : va_G) (A : Nat → Prop) (Q : AV → Mem → Prop) : Array Value → State → Outcome → State → Prop := fun _ st oc t =>
  (∃ (r : AV) (μ' : Mem), oc = .returned (ax_rvo rk q r) ∧ ax_okv r ∧ ax_okm μ' ∧ Q r μ' ∧ va_P D ax_cl (ax_wd sd q tc μ') t.heap ∧ va_K D ax_cl (ax_tys tc) t ∧ va_D A (ax_wd sd q tc μ')) ∧ va_F A st t
/-- a method's contract: from these arguments and this memory it returns, with Q -/
def GM (d k : Nat) (av : List AV) (μ : Mem) (Q : AV → Mem → Prop) : Prop :=
  (∀ v ∈ av, ax_okv v) → ax_okm μ → ∀ (l : Launch) (D : va_G) (tc : Nat → ClassId) (q : (Nat → Nat) × Value) (sz : Nat),
    Met l (ax_y k) (ax_ws k) (ax_rm d) (va_Pc (av.map (ax_rv q)) (fun U => U.heap.size = sz ∧ va_P D ax_cl (ax_wd (ax_sd k) q tc μ) U.heap ∧ va_K D ax_cl (ax_tys tc) U ∧ va_D (fun _ => True) (ax_wd (ax_sd k) q tc μ) ∧ ax_KC q (va_A (ax_wd (ax_sd k) q tc μ) sz) U U.heap))
      (ax_QC (ax_sd k) (ax_rk k) q tc D (va_A (ax_wd (ax_sd k) q tc μ) sz) Q) 0 0 (va_A (ax_wd (ax_sd k) q tc μ) sz)
def ax_CT (k : Nat) (D : va_G) (tc : Nat → ClassId) (q : (Nat → Nat) × Value) (p : Program) (s : State) (m : MethodId) (args : Array Value) (meth : Method) (c : Code) (A : Nat → Prop) : Prop :=
  k < ax_K ∧ p.tables.exec = Jvm.exec ∧ c.code = ax_bs k ∧ meth.sig.returnType = ax_rt k ∧ c.maxLocals = ax_ml k ∧ s.vm.findClass (ax_y k).cls = some m.cls ∧ (∀ w ∈ ax_ws k, w.before args s = true) ∧ meth.locks = false ∧ va_K D ax_cl (ax_tys tc) s ∧ ax_KC q A s s.heap ∧ (∀ x : Nat, s.heap.size ≤ x → A x)
def ax_LH (q : (Nat → Nat) × Value) (ls : Array Slot) (nL : Nat) (L : List AV) : Prop := ls.size = nL ∧ L.length = nL ∧ lv_wf ls ∧ ∀ (i : Nat) (v : AV), L[i]? = some v → (∃ z : Int, v = xL z) ∨ ls[i]? = some (.val (ax_rv q v))
/-- the machine, at instruction i of method k, comes to its end with Q -/
def ax_SW (d k i : Nat) (L st : List AV) (μ : Mem) (Q : AV → Mem → Prop) : Prop :=
  ∀ (l : Launch) (D : va_G) (tc : Nat → ClassId) (q : (Nat → Nat) × Value) (p : Program) (e : Env) (s : State) (m : MethodId) (args : Array Value) (below : List Frame) (meth : Method) (c : Code) (A : Nat → Prop) (H : Heap) (locs : List Loc) (ls : Array Slot),
    ax_CT k D tc q p s m args meth c A → va_P D ax_cl (ax_wd (ax_sd k) q tc μ) H → va_D A (ax_wd (ax_sd k) q tc μ) → va_S A s.heap H locs → ax_LH q ls (ax_ml k) L → (∀ v ∈ L, ax_okv v) → (∀ v ∈ st, ax_okv v) → ax_okm μ →
    W p l e (ax_rm d) s m args below meth c H locs 0 0 (MQ below (ax_QC (ax_sd k) (ax_rk k) q tc D A Q) args s 0 0 A) (F0 m (ax_pc k i) ls (st.map (ax_rv q)))
/-- at a cut -/
def DW (d k a : Nat) (L : List AV) (μ : Mem) (Q : AV → Mem → Prop) : Prop := ax_SW d k (a + 1) L [] μ Q
/-- instructions that touch locals and the stack alone -/
def ax_pu (op : AOp) (L st : List AV) : Option (List AV × List AV) := match op with
  | (o, a, b, _, z, _) => match o with
    | 0 => some (L, xI z :: st)
    | 1 => some (L, xR b :: st)
    | 2 => some (L, xL z :: st)
    | 3 => match L[a]? with
      | some (.inl x) => some (L, xI x :: st)
      | _ => none
    | 4 => match L[a]? with
      | some (.inr (.inl r)) => match Nat.beq r 150 with
        | true => none
        | false => some (L, xR r :: st)
      | _ => none
    | 5 => match st with
      | .inl x :: st' => match Nat.blt a L.length with
        | true => some (L.set a (xI x), st')
        | false => none
      | _ => none
    | 6 => match st with
      | .inr (.inl r) :: st' => match Nat.blt a L.length && !(Nat.beq r 150) with
        | true => some (L.set a (xR r), st')
        | false => none
      | _ => none
    | 7 => match L[a]? with
      | some (.inl x) => some (L.set a (xI (iw (x + z))), st)
      | _ => none
    | 8 => match st with
      | .inl y :: .inl x :: st' => some (L, xI (iw (x + y)) :: st')
      | _ => none
    | 9 => match st with
      | .inl y :: .inl x :: st' => some (L, xI (iw (x - y)) :: st')
      | _ => none
    | 10 => match st with
      | .inl y :: .inl x :: st' => some (L, xI (iw (x * y)) :: st')
      | _ => none
    | 13 => match st with
      | .inl y :: .inl x :: st' => some (L, xI (xand x y) :: st')
      | _ => none
    | 14 => match st with
      | .inl y :: .inl x :: st' => some (L, xI (xior x y) :: st')
      | _ => none
    | 15 => match st with
      | .inl y :: .inl x :: st' => some (L, xI (xxor x y) :: st')
      | _ => none
    | 16 => match st with
      | .inl y :: .inl x :: st' => some (L, xI (xshl x y) :: st')
      | _ => none
    | 17 => match st with
      | .inl y :: .inl x :: st' => some (L, xI (xshr x y) :: st')
      | _ => none
    | 18 => match st with
      | .inl y :: .inl x :: st' => some (L, xI (xushr x y) :: st')
      | _ => none
    | 19 => match st with
      | .inl x :: st' => some (L, xL x :: st')
      | _ => none
    | 20 => match st with
      | .inl x :: st' => some (L, xI (xi2b x) :: st')
      | _ => none
    | 21 => match st with
      | .inl x :: st' => some (L, xI (xi2c x) :: st')
      | _ => none
    | 22 => match st with
      | .inr (.inr (.inr y)) :: .inr (.inr (.inr x)) :: st' => some (L, xL (lw (x + y)) :: st')
      | _ => none
    | 23 => match st with
      | .inr (.inr (.inr y)) :: .inr (.inr (.inr x)) :: st' => some (L, xL (lw (x - y)) :: st')
      | _ => none
    | 24 => match st with
      | .inr (.inr (.inr y)) :: .inr (.inr (.inr x)) :: st' => some (L, xL (lw (x * y)) :: st')
      | _ => none
    | 25 => match st with
      | .inr (.inr (.inr y)) :: .inr (.inr (.inr x)) :: st' => some (L, xI (xcmp x y) :: st')
      | _ => none
    | 26 => match st with
      | .inl x :: st' => some (L, xI x :: xI x :: st')
      | .inr (.inl r) :: st' => some (L, xR r :: xR r :: st')
      | _ => none
    | 27 => match st with
      | .inl x :: .inr (.inl r) :: st' => some (L, xI x :: xR r :: xI x :: xR r :: st')
      | _ => none
    | 28 => match st with
      | .inl _ :: st' => some (L, st')
      | _ => none
    | _ => none
/-- what a caller goes on with: an int, nothing, a reference -/
def gI (F : Int → Mem → Prop) : AV → Mem → Prop := fun v μ' => match v with
  | .inl x => F x μ'
  | _ => False
def gV (F : Mem → Prop) : AV → Mem → Prop := fun _ μ' => F μ'
def gR (F : Nat → Mem → Prop) : AV → Mem → Prop := fun v μ' => match v with
  | .inr (.inl r) => F r μ'
  | _ => False
def ax_nl (v : AV) : Bool := match v with
  | .inr (.inr (.inr _)) => false
  | _ => true
/-- the weakest precondition, as far as the next cut -/
def ax_wp : Nat → Nat → Nat → List AOp → List AOp → List AV → List AV → Mem → (AV → Mem → Prop) → Prop
  | 0, _, _, _, _, _, _, _, _ => False
  | n + 1, d, k, C, R, L, st, μ, Q => match R with
    | [] => False
    | (o, a, b, c, z, t) :: R' => match o with
      | 11 => match st with
        | .inl y :: .inl x :: st' => wz y (ax_wp n d k C R' L (xI (xdiv x y) :: st') μ Q)
        | _ => False
      | 12 => match st with
        | .inl y :: .inl x :: st' => wz y (ax_wp n d k C R' L (xI (xrem x y) :: st') μ Q)
        | _ => False
      | 29 => match st with
        | .inl x :: st' => if x = 0 then ax_wp n d k C (C.drop a) L st' μ Q else ax_wp n d k C R' L st' μ Q
        | _ => False
      | 30 => match st with
        | .inl x :: st' => if x = 0 then ax_wp n d k C R' L st' μ Q else ax_wp n d k C (C.drop a) L st' μ Q
        | _ => False
      | 31 => match st with
        | .inl x :: st' => if x < 0 then ax_wp n d k C (C.drop a) L st' μ Q else ax_wp n d k C R' L st' μ Q
        | _ => False
      | 32 => match st with
        | .inl x :: st' => if x < 0 then ax_wp n d k C R' L st' μ Q else ax_wp n d k C (C.drop a) L st' μ Q
        | _ => False
      | 33 => match st with
        | .inl x :: st' => if 0 < x then ax_wp n d k C (C.drop a) L st' μ Q else ax_wp n d k C R' L st' μ Q
        | _ => False
      | 34 => match st with
        | .inl x :: st' => if 0 < x then ax_wp n d k C R' L st' μ Q else ax_wp n d k C (C.drop a) L st' μ Q
        | _ => False
      | 35 => match st with
        | .inl y :: .inl x :: st' => if x = y then ax_wp n d k C (C.drop a) L st' μ Q else ax_wp n d k C R' L st' μ Q
        | _ => False
      | 36 => match st with
        | .inl y :: .inl x :: st' => if x = y then ax_wp n d k C R' L st' μ Q else ax_wp n d k C (C.drop a) L st' μ Q
        | _ => False
      | 37 => match st with
        | .inl y :: .inl x :: st' => if x < y then ax_wp n d k C (C.drop a) L st' μ Q else ax_wp n d k C R' L st' μ Q
        | _ => False
      | 38 => match st with
        | .inl y :: .inl x :: st' => if x < y then ax_wp n d k C R' L st' μ Q else ax_wp n d k C (C.drop a) L st' μ Q
        | _ => False
      | 39 => match st with
        | .inl y :: .inl x :: st' => if y < x then ax_wp n d k C (C.drop a) L st' μ Q else ax_wp n d k C R' L st' μ Q
        | _ => False
      | 40 => match st with
        | .inl y :: .inl x :: st' => if y < x then ax_wp n d k C R' L st' μ Q else ax_wp n d k C (C.drop a) L st' μ Q
        | _ => False
      | 41 => ax_wp n d k C (C.drop a) L st μ Q
      | 42 => match st with
        | .inl x :: st' => ax_sw t x (fun g => ax_wp n d k C (C.drop g) L st' μ Q) a
        | _ => False
      | 43 => match st with
        | .inl x :: st' => ax_sw t x (fun g => ax_wp n d k C (C.drop g) L st' μ Q) a
        | _ => False
      | 44 => match st with
        | .inr (.inl r) :: st' => match ax_fld k r b c with
          | some 0 => ax_wp n d k C R' L (xI (μ r c) :: st') μ Q
          | some 1 => ax_wp n d k C R' L (xL (μ r c) :: st') μ Q
          | some (g + 2) => ax_wp n d k C R' L (xR g :: st') μ Q
          | none => match ax_str r && Nat.beq b 50 with
            | true => match c with
              | 0 => ax_wp n d k C R' L (xR (r + 20) :: st') μ Q
              | 1 => ax_wp n d k C R' L (xI 0 :: st') μ Q
              | _ => False
            | false => False
        | _ => False
      | 45 => match st with
        | .inl x :: .inr (.inl r) :: st' => match ax_fld k r b c with
          | some 0 => ax_wp n d k C R' L st' (xset μ r c x) Q
          | _ => False
        | .inr (.inr (.inr x)) :: .inr (.inl r) :: st' => match ax_fld k r b c with
          | some 1 => ax_wp n d k C R' L st' (xset μ r c x) Q
          | _ => False
        | _ => False
      | 46 => match b with
        | 0 => ax_wp n d k C R' L (xI 1 :: st) μ Q
        | 1 => ax_wp n d k C R' L (xR 150 :: st) μ Q
        | g + 2 => ax_wp n d k C R' L (xR (140 + g) :: st) μ Q
      | 47 => match st with
        | .inl i :: .inr (.inl r) :: st' => match ax_arr 1 k r with
          | some len => wb i len (ax_wp n d k C R' L (xI (μ r i.toNat) :: st') μ Q)
          | none => match ax_con r with
            | some l => wb i l.length (ax_wp n d k C R' L (xI (l.getD i.toNat 0) :: st') μ Q)
            | none => False
        | .inl i :: .inr (.inr (.inl w)) :: st' => match ax_row k w.1 with
          | some nm => wb i nm.2 (ax_wp n d k C R' L (xI (μ (w.1 + 1 + w.2.toNat) i.toNat) :: st') μ Q)
          | none => False
        | _ => False
      | 48 => match st with
        | .inl x :: .inl i :: .inr (.inl r) :: st' => match ax_arr 1 k r with
          | some len => wb i len (ax_wp n d k C R' L st' (xset μ r i.toNat x) Q)
          | none => False
        | .inl x :: .inl i :: .inr (.inr (.inl w)) :: st' => match ax_row k w.1 with
          | some nm => wb i nm.2 (ax_wp n d k C R' L st' (xset μ (w.1 + 1 + w.2.toNat) i.toNat x) Q)
          | none => False
        | _ => False
      | 49 => match st with
        | .inl i :: .inr (.inl r) :: st' => match ax_arr 2 k r with
          | some len => wb i len (ax_wp n d k C R' L (xI (μ r i.toNat) :: st') μ Q)
          | none => match ax_byt r with
            | some l => wb i l.length (ax_wp n d k C R' L (xI (l.getD i.toNat 0) :: st') μ Q)
            | none => False
        | _ => False
      | 50 => match st with
        | .inl x :: .inl i :: .inr (.inl r) :: st' => match ax_arr 2 k r with
          | some len => wb i len (wb x 2 (ax_wp n d k C R' L st' (xset μ r i.toNat x) Q))
          | none => False
        | _ => False
      | 51 => match st with
        | .inl i :: .inr (.inl r) :: st' => match ax_ref k r with
          | some ks => ax_sel 0 ks i (fun g => ax_wp n d k C R' L (xR g :: st') μ Q)
          | none => match ax_row k r with
            | some nm => wb i nm.1 (ax_wp n d k C R' L (xW r i :: st') μ Q)
            | none => False
        | _ => False
      | 52 => match st with
        | .inr (.inl r) :: st' => match ax_arr 1 k r with
          | some len => ax_wp n d k C R' L (xI (len : Int) :: st') μ Q
          | none => match ax_con r with
            | some l => ax_wp n d k C R' L (xI (l.length : Int) :: st') μ Q
            | none => match ax_byt r with
              | some l => ax_wp n d k C R' L (xI (l.length : Int) :: st') μ Q
              | none => False
        | _ => False
      | 53 => match st with
        | [.inl x] => match ax_rk k with
          | 1 => Q (xI x) μ
          | 2 => wb x 2 (Q (xI x) μ)
          | 4 => wb x 65536 (Q (xI x) μ)
          | 5 => wb x 128 (Q (xI x) μ)
          | _ => False
        | _ => False
      | 54 => match st with
        | [] => match ax_rk k with
          | 0 => Q (xI 0) μ
          | _ => False
        | _ => False
      | 55 => match st with
        | [.inr (.inl r)] => match ax_rk k with
          | 3 => match Nat.beq r 150 with
            | true => False
            | false => Q (xR r) μ
          | _ => False
        | _ => False
      | 56 => match d with
        | 0 => False
        | d' + 1 => match st.drop c with
          | .inr (.inl r) :: st' => match (ax_inS k r && Nat.beq (ax_cd r).1 0 && Nat.beq (ax_cd r).2.1 (ax_mciL.getD b 99)) || (ax_str r && Nat.beq (ax_mciL.getD b 99) 50) with
            | true => match Nat.beq (st.take c).length c && Nat.ble st'.length 4 with
              | true => match z with
                | 0 => match ax_rk b with
                  | 0 => GM d' b (xR r :: (st.take c).reverse) μ (gV (fun μ' => ax_wp n (d' + 1) k C R' L st' μ' Q))
                  | 3 => GM d' b (xR r :: (st.take c).reverse) μ (gR (fun g μ' => ax_wp n (d' + 1) k C R' L (xR g :: st') μ' Q))
                  | _ => GM d' b (xR r :: (st.take c).reverse) μ (gI (fun y μ' => ax_wp n (d' + 1) k C R' L (xI y :: st') μ' Q))
                | _ => match (st.take c).all ax_nl with
                  | true => match ax_rk b with
                    | 0 => ax_wp n d' b (ax_codes b) (ax_codes b) ((xR r :: (st.take c).reverse) ++ List.replicate (ax_ml b - (c + 1)) (xL 0)) [] μ (gV (fun μ' => ax_wp n (d' + 1) k C R' L st' μ' Q))
                    | 3 => ax_wp n d' b (ax_codes b) (ax_codes b) ((xR r :: (st.take c).reverse) ++ List.replicate (ax_ml b - (c + 1)) (xL 0)) [] μ (gR (fun g μ' => ax_wp n (d' + 1) k C R' L (xR g :: st') μ' Q))
                    | _ => ax_wp n d' b (ax_codes b) (ax_codes b) ((xR r :: (st.take c).reverse) ++ List.replicate (ax_ml b - (c + 1)) (xL 0)) [] μ (gI (fun y μ' => ax_wp n (d' + 1) k C R' L (xI y :: st') μ' Q))
                  | false => False
              | false => False
            | false => False
          | _ => False
      | 57 => match d with
        | 0 => False
        | d' + 1 => match Nat.beq (st.take c).length c && Nat.ble (st.drop c).length 4 with
          | true => match z with
            | 0 => match ax_rk b with
              | 0 => GM d' b (st.take c).reverse μ (gV (fun μ' => ax_wp n (d' + 1) k C R' L (st.drop c) μ' Q))
              | 3 => GM d' b (st.take c).reverse μ (gR (fun g μ' => ax_wp n (d' + 1) k C R' L (xR g :: (st.drop c)) μ' Q))
              | _ => GM d' b (st.take c).reverse μ (gI (fun y μ' => ax_wp n (d' + 1) k C R' L (xI y :: (st.drop c)) μ' Q))
            | _ => match (st.take c).all ax_nl with
              | true => match ax_rk b with
                | 0 => ax_wp n d' b (ax_codes b) (ax_codes b) ((st.take c).reverse ++ List.replicate (ax_ml b - c) (xL 0)) [] μ (gV (fun μ' => ax_wp n (d' + 1) k C R' L (st.drop c) μ' Q))
                | 3 => ax_wp n d' b (ax_codes b) (ax_codes b) ((st.take c).reverse ++ List.replicate (ax_ml b - c) (xL 0)) [] μ (gR (fun g μ' => ax_wp n (d' + 1) k C R' L (xR g :: (st.drop c)) μ' Q))
                | _ => ax_wp n d' b (ax_codes b) (ax_codes b) ((st.take c).reverse ++ List.replicate (ax_ml b - c) (xL 0)) [] μ (gI (fun y μ' => ax_wp n (d' + 1) k C R' L (xI y :: (st.drop c)) μ' Q))
              | false => False
          | false => False
      | 58 => match d with
        | 0 => False
        | d' + 1 => match st with
          | [.inl nn, .inl dp, .inr (.inl rd), .inl sp, .inr (.inl rs)] => match ax_arr 1 k rs with
            | some l0 => match ax_arr 1 k rd with
              | some l1 => wb sp (l0 + 1) (wb dp (l1 + 1) (wb nn (l0 + 1) (wb (sp + nn) (l0 + 1) (wb (dp + nn) (l1 + 1) (ax_wp n (d' + 1) k C R' L [] (xcpy μ rs rd sp.toNat dp.toNat nn.toNat) Q)))))
              | none => False
            | none => False
          | _ => False
      | 59 => match st with
        | [] => DW d k a L μ Q
        | _ => False
      | 61 => match d with
        | 0 => False
        | d' + 1 => match st with
          | .inl y :: .inl x :: st' => match Nat.ble st'.length 4 with
            | true => ax_wp n (d' + 1) k C R' L (xI (max x y) :: st') μ Q
            | false => False
          | _ => False
      | 62 => match d with
        | 0 => False
        | d' + 1 => match st with
          | .inl y :: .inl x :: st' => match Nat.ble st'.length 4 with
            | true => ax_wp n (d' + 1) k C R' L (xI (min x y) :: st') μ Q
            | false => False
          | _ => False
      | _ => match ax_pu (o, a, b, c, z, t) L st with
        | some p => ax_wp n d k C R' p.1 p.2 μ Q
        | none => False
