/-! SOUNDNESS: what the weakest precondition says, the machine does -/
theorem ax_pu_ok {d k i : Nat} {L st L' st' : List AV} {μ : Mem} {Q : AV → Mem → Prop} {op : AOp} (ok : ax_ok k i op = true) (hp : ax_pu op L st = some (L', st')) (h : ax_SW d k (i + 1) L' st' μ Q) : ax_SW d k i L st μ Q := by
  obtain ⟨o, a, b, c, z, t⟩ := op
  match o, ok, hp with
  | 0, ok, hp => cases hp; exact ax_s0 ok h
  | 1, ok, hp => cases hp; exact ax_s1 ok h
  | 2, ok, hp => cases hp; exact ax_s2 ok h
  | 3, ok, hp =>
    simp only [ax_pu] at hp
    split at hp
    · next x hx => cases hp; exact ax_s3 ok hx h
    · cases hp
  | 4, ok, hp =>
    simp only [ax_pu] at hp
    split at hp
    · next r hx =>
      split at hp
      · cases hp
      · next hb => cases hp; exact ax_s4 ok hx (fun e => by rw [e] at hb; cases hb) h
    · cases hp
  | 5, ok, hp =>
    simp only [ax_pu] at hp
    split at hp
    · split at hp
      · next hb => cases hp; exact ax_s5 ok (ax_blt hb) h
      · cases hp
    · cases hp
  | 6, ok, hp =>
    simp only [ax_pu] at hp
    split at hp
    · split at hp
      · next hb =>
        cases hp
        simp only [Bool.and_eq_true, Bool.not_eq_true'] at hb
        exact ax_s6 ok (ax_blt hb.1) (fun e => by have := hb.2; rw [e] at this; cases this) h
      · cases hp
    · cases hp
  | 7, ok, hp =>
    simp only [ax_pu] at hp
    split at hp
    · next x hx => cases hp; exact ax_s7 ok hx h
    · cases hp
  | 8, ok, hp => simp only [ax_pu] at hp; split at hp <;> cases hp; exact ax_s8 ok h
  | 9, ok, hp => simp only [ax_pu] at hp; split at hp <;> cases hp; exact ax_s9 ok h
  | 10, ok, hp => simp only [ax_pu] at hp; split at hp <;> cases hp; exact ax_s10 ok h
  | 11, ok, hp => cases hp
  | 12, ok, hp => cases hp
  | 13, ok, hp => simp only [ax_pu] at hp; split at hp <;> cases hp; exact ax_s13 ok h
  | 14, ok, hp => simp only [ax_pu] at hp; split at hp <;> cases hp; exact ax_s14 ok h
  | 15, ok, hp => simp only [ax_pu] at hp; split at hp <;> cases hp; exact ax_s15 ok h
  | 16, ok, hp => simp only [ax_pu] at hp; split at hp <;> cases hp; exact ax_s16 ok h
  | 17, ok, hp => simp only [ax_pu] at hp; split at hp <;> cases hp; exact ax_s17 ok h
  | 18, ok, hp => simp only [ax_pu] at hp; split at hp <;> cases hp; exact ax_s18 ok h
  | 19, ok, hp => simp only [ax_pu] at hp; split at hp <;> cases hp; exact ax_s19 ok h
  | 20, ok, hp => simp only [ax_pu] at hp; split at hp <;> cases hp; exact ax_s20 ok h
  | 21, ok, hp => simp only [ax_pu] at hp; split at hp <;> cases hp; exact ax_s21 ok h
  | 22, ok, hp => simp only [ax_pu] at hp; split at hp <;> cases hp; exact ax_s22 ok h
  | 23, ok, hp => simp only [ax_pu] at hp; split at hp <;> cases hp; exact ax_s23 ok h
  | 24, ok, hp => simp only [ax_pu] at hp; split at hp <;> cases hp; exact ax_s24 ok h
  | 25, ok, hp => simp only [ax_pu] at hp; split at hp <;> cases hp; exact ax_s25 ok h
  | 26, ok, hp =>
    simp only [ax_pu] at hp
    split at hp
    · cases hp; exact ax_s26 (v := xI _) (fun z e => by cases e) ok h
    · cases hp; exact ax_s26 (v := xR _) (fun z e => by cases e) ok h
    · cases hp
  | 27, ok, hp =>
    simp only [ax_pu] at hp
    split at hp
    · cases hp; exact ax_s27 (v := xI _) (w := xR _) (fun z e => by cases e) (fun z e => by cases e) ok h
    · cases hp
  | 28, ok, hp =>
    simp only [ax_pu] at hp
    split at hp
    · cases hp; exact ax_s28 (v := xI _) (fun z e => by cases e) ok h
    · cases hp
  | o + 29, ok, hp => cases hp
theorem ax_drop {k i : Nat} {op : AOp} {R' : List AOp} (h : (ax_codes k).drop i = op :: R') : (ax_codes k)[i]? = some op ∧ (ax_codes k).drop (i + 1) = R' := by
  constructor
  · rw [← List.head?_drop, h]; rfl
  · rw [← List.tail_drop, h]; rfl
theorem ax_mlc {b : Nat} (hb : b < ax_K) {c : Nat} (h : (parseMethodDescriptor (ax_y b).desc).map (fun d => d.parameters.length) = some c) : c ≤ ax_ml b := by
  have key : ∀ b, b < ax_K → ∀ c ∈ (parseMethodDescriptor (ax_y b).desc).map (fun d => d.parameters.length), c ≤ ax_ml b := by decide +kernel
  exact key b hb c (by rw [h]; rfl)
/-- an instance method has room for itself and its parameters -/
theorem ax_mlv : ∀ b, b < ax_K → ∀ c ∈ (parseMethodDescriptor (ax_y b).desc).map (fun d => d.parameters.length), Cond.instanceMethod (ax_y b) ∈ ax_wsA → c + 1 ≤ ax_ml b := by
  have key : (List.range ax_K).all (fun b => match (parseMethodDescriptor (ax_y b).desc).map (fun d => d.parameters.length) with
    | some c => Nat.ble (c + 1) (ax_ml b) || !(decide (Cond.instanceMethod (ax_y b) ∈ ax_wsA))
    | none => true) = true := by decide +kernel
  intro b hb c hc hi
  have h := List.all_eq_true.mp key b (List.mem_range.mpr hb)
  rw [show (parseMethodDescriptor (ax_y b).desc).map (fun d => d.parameters.length) = some c from hc] at h
  simp only [Bool.or_eq_true, Bool.not_eq_true', decide_eq_false_iff_not] at h
  rcases h with h | h
  · exact Nat.le_of_ble_eq_true h
  · exact absurd hi h
theorem ax_sw_mono {t : List (Int × Nat)} {x : Int} {F G : Nat → Prop} {dd : Nat} (hm : ∀ g, F g → G g) (h : ax_sw t x F dd) : ax_sw t x G dd := by
  induction t with
  | nil => exact hm _ h
  | cons kg t ih =>
    obtain ⟨key, g⟩ := kg
    unfold ax_sw at h ⊢
    by_cases e : x = key
    · rw [if_pos e] at h ⊢; exact hm _ h
    · rw [if_neg e] at h ⊢; exact ih h
theorem ax_ne150 {tg r n : Nat} {ks : List Nat} (h : ax_cd r = (tg, n, ks)) (ht : tg ≠ 9) : r ≠ 150 := by
  intro e
  rw [e, ax_cd_out (by decide)] at h
  cases h
  exact ht rfl
theorem ax_inS_row {k i : Nat} (h : ax_inS k 41 = true) (hi : i < 7) : ax_inS k (41 + 1 + i) = true := by
  obtain ⟨h1, h2⟩ := ax_inS_e h
  unfold ax_inS
  rw [Bool.and_eq_true]
  constructor
  · exact Nat.ble_eq_true_of_le (by omega)
  · rw [Nat.blt_eq]
    have : (ax_sd k).1 + (ax_sd k).2 = 61 ∨ (ax_sd k).1 = 61 := by
      unfold ax_sd
      split
      · exact Or.inl rfl
      · exact Or.inr rfl
    omega
theorem ax_rowld {d k i a b c : Nat} {L st : List AV} {μ : Mem} {Q : AV → Mem → Prop} {z x : Int} {t : List (Int × Nat)} {w : Nat × Int} {nm : Nat × Nat} (hop : ax_ok k i (47, a, b, c, z, t) = true) (hr : ax_row k w.1 = some nm) (h0 : 0 ≤ x) (h1 : x < (nm.2 : Int)) (h : ax_SW d k (i + 1) L (xI (μ (w.1 + 1 + w.2.toNat) x.toNat) :: st) μ Q) : ax_SW d k i L (xI x :: .inr (.inr (.inl w)) :: st) μ Q := by
  intro l D tc q p e s m args below meth cd A H locs ls C hP hD hS hl hL hst hμ
  obtain ⟨hin, hcd⟩ := ax_row_e hr
  obtain ⟨n, m2, hcd2, hw0, hw1⟩ := (ax_c2 (ax_c2 hst).2).1
  obtain ⟨e1, e2, e3⟩ := ax_rows4 _ _ _ hcd2
  rw [hcd2] at hcd
  cases hcd
  have hi : w.2.toNat < 7 := by omega
  have hcd' : ax_cd (w.1 + 1 + w.2.toNat) = (1, nm.2, []) := by rw [e1, ax_cd4 _ hi]; simp [e3]
  refine ax_s47 (v := .inr (.inr (.inl w))) hop (r := w.1 + 1 + w.2.toNat) ?_ hcd' (fun q => rfl) h0 h1 h l D tc q p e s m args below meth cd A H locs ls C hP hD hS hl hL hst hμ
  rw [e1] at hin ⊢
  exact ax_inS_row hin hi
theorem ax_rowst {d k i a b c : Nat} {L st : List AV} {μ : Mem} {Q : AV → Mem → Prop} {z x y : Int} {t : List (Int × Nat)} {w : Nat × Int} {nm : Nat × Nat} (hop : ax_ok k i (48, a, b, c, z, t) = true) (hr : ax_row k w.1 = some nm) (h0 : 0 ≤ x) (h1 : x < (nm.2 : Int)) (h : ax_SW d k (i + 1) L st (xset μ (w.1 + 1 + w.2.toNat) x.toNat y) Q) : ax_SW d k i L (xI y :: xI x :: .inr (.inr (.inl w)) :: st) μ Q := by
  intro l D tc q p e s m args below meth cd A H locs ls C hP hD hS hl hL hst hμ
  obtain ⟨hin, hcd⟩ := ax_row_e hr
  obtain ⟨n, m2, hcd2, hw0, hw1⟩ := (ax_c2 (ax_c2 (ax_c2 hst).2).2).1
  obtain ⟨e1, e2, e3⟩ := ax_rows4 _ _ _ hcd2
  rw [hcd2] at hcd
  cases hcd
  have hi : w.2.toNat < 7 := by omega
  have hcd' : ax_cd (w.1 + 1 + w.2.toNat) = (1, nm.2, []) := by rw [e1, ax_cd4 _ hi]; simp [e3]
  refine ax_s48 (v := .inr (.inr (.inl w))) hop (r := w.1 + 1 + w.2.toNat) ?_ hcd' (fun q => rfl) h0 h1 h l D tc q p e s m args below meth cd A H locs ls C hP hD hS hl hL hst hμ
  rw [e1] at hin ⊢
  exact ax_inS_row hin hi
theorem ax_nc {y : Int} (h0 : 0 ≤ y) (h1 : y < 65536) : narrow .char (.int (Int32.ofInt y)) = .int (Int32.ofInt y) := by
  obtain ⟨n, rfl⟩ : ∃ n : Nat, y = (n : Int) := ⟨y.toNat, by omega⟩
  have := (pk_charN (q := n) (by omega)).1
  rw [Int32.ofInt_eq_ofNat]
  exact this
theorem ax_nby {y : Int} (h0 : 0 ≤ y) (h1 : y < 128) : narrow .byte (.int (Int32.ofInt y)) = .int (Int32.ofInt y) := by
  show Value.int (Int32.ofInt y).toInt8.toInt32 = _
  congr 1
  apply Int32.toInt_inj.mp
  rw [Int8.toInt_toInt32, Int32.toInt8_ofInt, ax_ti ⟨by omega, by omega⟩]
  exact Int8.toInt_ofInt_of_le (by omega) (by omega)
