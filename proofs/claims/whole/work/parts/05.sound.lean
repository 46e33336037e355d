/-! numbers -/
theorem ax_iw (z : Int) : iw z = z.bmod 4294967296 := by
  rw [Int.bmod_def, iw_def]; split <;> omega
theorem ax_lw (z : Int) : lw z = z.bmod 18446744073709551616 := by
  rw [Int.bmod_def, lw_def]; split <;> omega
theorem ax_iwr (z : Int) : ax_r32 (iw z) := by unfold ax_r32; rw [iw_def]; omega
theorem ax_lwr (z : Int) : ax_r64 (lw z) := by unfold ax_r64; rw [lw_def]; omega
theorem ax_ti {x : Int} (h : ax_r32 x) : (Int32.ofInt x).toInt = x := Int32.toInt_ofInt_of_le (by have := h.1; omega) (by have := h.2; omega)
theorem ax_tl {x : Int} (h : ax_r64 x) : (Int64.ofInt x).toInt = x := Int64.toInt_ofInt_of_le (by have := h.1; omega) (by have := h.2; omega)
theorem ax_t32 (x : Int32) : ax_r32 x.toInt := ⟨by have := Int32.le_toInt x; omega, by have := Int32.toInt_lt x; omega⟩
theorem ax_add {x y : Int} (hx : ax_r32 x) (hy : ax_r32 y) : Int32.ofInt x + Int32.ofInt y = Int32.ofInt (iw (x + y)) := by
  apply Int32.toInt_inj.mp
  rw [Int32.toInt_add, ax_ti hx, ax_ti hy, ax_ti (ax_iwr _), ax_iw]
theorem ax_sub {x y : Int} (hx : ax_r32 x) (hy : ax_r32 y) : Int32.ofInt x - Int32.ofInt y = Int32.ofInt (iw (x - y)) := by
  apply Int32.toInt_inj.mp
  rw [Int32.toInt_sub, ax_ti hx, ax_ti hy, ax_ti (ax_iwr _), ax_iw]
theorem ax_mul {x y : Int} (hx : ax_r32 x) (hy : ax_r32 y) : Int32.ofInt x * Int32.ofInt y = Int32.ofInt (iw (x * y)) := by
  apply Int32.toInt_inj.mp
  rw [Int32.toInt_mul, ax_ti hx, ax_ti hy, ax_ti (ax_iwr _), ax_iw]
theorem ax_ladd {x y : Int} (hx : ax_r64 x) (hy : ax_r64 y) : Int64.ofInt x + Int64.ofInt y = Int64.ofInt (lw (x + y)) := by
  apply Int64.toInt_inj.mp
  rw [Int64.toInt_add, ax_tl hx, ax_tl hy, ax_tl (ax_lwr _), ax_lw]
theorem ax_lsub {x y : Int} (hx : ax_r64 x) (hy : ax_r64 y) : Int64.ofInt x - Int64.ofInt y = Int64.ofInt (lw (x - y)) := by
  apply Int64.toInt_inj.mp
  rw [Int64.toInt_sub, ax_tl hx, ax_tl hy, ax_tl (ax_lwr _), ax_lw]
theorem ax_lmul {x y : Int} (hx : ax_r64 x) (hy : ax_r64 y) : Int64.ofInt x * Int64.ofInt y = Int64.ofInt (lw (x * y)) := by
  apply Int64.toInt_inj.mp
  rw [Int64.toInt_mul, ax_tl hx, ax_tl hy, ax_tl (ax_lwr _), ax_lw]
theorem ax_divE {x y : Int} (hx : ax_r32 x) (hy : ax_r32 y) : Int32.ofInt x / Int32.ofInt y = Int32.ofInt (xdiv x y) := by
  apply Int32.toInt_inj.mp
  rw [Int32.toInt_div, ax_ti hx, ax_ti hy, xdiv, ax_ti (ax_iwr _), ax_iw]
theorem ax_ofw (z : Int) : Int32.ofInt (iw z) = Int32.ofInt z := by
  apply Int32.toInt_inj.mp
  rw [ax_ti (ax_iwr _), Int32.toInt_ofInt, ax_iw]
theorem ax_remr {x y : Int} (hx : ax_r32 x) (hy : ax_r32 y) (h : y ≠ 0) : ax_r32 (xrem x y) := by
  unfold xrem ax_r32 at *
  have h1 := Int.natAbs_tmod x y
  have h2 := Nat.mod_lt x.natAbs (show 0 < y.natAbs by omega)
  have h3 := Nat.mod_le x.natAbs y.natAbs
  omega
theorem ax_remE {x y : Int} (hx : ax_r32 x) (hy : ax_r32 y) (h : y ≠ 0) : Int32.ofInt x - Int32.ofInt x / Int32.ofInt y * Int32.ofInt y = Int32.ofInt (xrem x y) := by
  rw [ax_divE hx hy]
  have hd : ax_r32 (xdiv x y) := ax_iwr _
  rw [ax_mul hd hy, ax_sub hx (ax_iwr _), ax_ofw]
  apply Int32.toInt_inj.mp
  rw [Int32.toInt_ofInt, ax_ti (ax_remr hx hy h)]
  have e1 : iw (xdiv x y * y) = (x.tdiv y * y).bmod 4294967296 := by
    rw [ax_iw, xdiv, ax_iw, Int.bmod_mul_bmod]
  rw [e1]
  show (x - (x.tdiv y * y).bmod 4294967296).bmod 4294967296 = xrem x y
  rw [Int.sub_bmod_bmod, show x - x.tdiv y * y = xrem x y from by unfold xrem; rw [Int.tmod_def, Int.mul_comm]]
  rw [← ax_iw]
  have := ax_remr hx hy h
  unfold ax_r32 at *
  rw [iw_def]
  omega
theorem ax_eqI {x y : Int} (hx : ax_r32 x) (hy : ax_r32 y) : Int32.ofInt x = Int32.ofInt y ↔ x = y := by
  rw [← Int32.toInt_inj, ax_ti hx, ax_ti hy]
theorem ax_ltI {x y : Int} (hx : ax_r32 x) (hy : ax_r32 y) : Int32.ofInt x < Int32.ofInt y ↔ x < y := by
  rw [Int32.lt_iff_toInt_lt, ax_ti hx, ax_ti hy]
theorem ax_leI {x y : Int} (hx : ax_r32 x) (hy : ax_r32 y) : Int32.ofInt x ≤ Int32.ofInt y ↔ x ≤ y := by
  rw [Int32.le_iff_toInt_le, ax_ti hx, ax_ti hy]
theorem ax_r0 : ax_r32 0 := ⟨by decide, by decide⟩
theorem ax_i0 : (0 : Int32) = Int32.ofInt 0 := rfl
theorem ax_vin {i : Int} {n : Nat} (hi : ax_r32 i) (h0 : 0 ≤ i) (h1 : i < (n : Int)) : vp_in (Int32.ofInt i) n := by
  rw [vp_in_iff, ax_ti hi]
  exact ⟨h0, h1⟩
theorem ax_cl0 {i : Int} (hi : ax_r32 i) : (Int32.ofInt i).toNatClampNeg = i.toNat := by
  show (Int32.ofInt i).toInt.toNat = i.toNat
  rw [ax_ti hi]
/-! tables -/
theorem ax_bs_dq {k i n : Nat} {I : Instr} (h : ax_dq k i I n = true) : decode (ax_bs k) (ax_pc k i) = .ok (I, n) ∧ ax_pc k (i + 1) = ax_pc k i + n := by
  simp only [ax_dq, Bool.and_eq_true, decide_eq_true_eq] at h
  exact ⟨h.1, Nat.eq_of_beq_eq_true h.2⟩
theorem ax_bs_d1 {k i n : Nat} {I : Instr} (h : ax_d1 k i I n = true) : decode (ax_bs k) (ax_pc k i) = .ok (I, n) := by
  simpa only [ax_d1, decide_eq_true_eq] using h
theorem ax_bs_tg {k i a : Nat} {z : Int} (h : ax_tg k i a z = true) : (ax_pc k i : Int) + z = (ax_pc k a : Int) := by
  simpa only [ax_tg, decide_eq_true_eq] using h
theorem ax_okAt {k i : Nat} {op : AOp} (hk : k < ax_K) (h : (ax_codes k)[i]? = some op) : ax_ok k i op = true := by
  have h1 := ax_okAll k hk
  unfold ax_okM at h1
  simp only [Bool.and_eq_true] at h1
  have h2 := List.all_eq_true.mp h1.1.1.1.1.1 i (List.mem_range.mpr (List.getElem?_eq_some_iff.mp h).1)
  rw [h] at h2
  exact h2
theorem ax_okN {k : Nat} (hk : k < ax_K) : ax_pc k 0 = 0 ∧ ax_ml k ≤ 20 ∧ plainName (ax_y k).cls = true ∧ (ax_y k).cls ≠ "java/lang/invoke/MethodHandle" ∧ (ax_y k).cls ≠ "java/lang/invoke/VarHandle" := by
  have h1 := ax_okAll k hk
  unfold ax_okM at h1
  simp only [Bool.and_eq_true, decide_eq_true_eq] at h1
  exact ⟨Nat.eq_of_beq_eq_true h1.1.1.1.1.2, Nat.le_of_ble_eq_true h1.1.1.1.2, h1.1.1.2, h1.1.2, h1.2⟩
/-! locals -/
theorem ax_cat1 {q : (Nat → Nat) × Value} (hq : q.2 = .null ∨ ∃ t : Nat, q.2 = .ref t) : ∀ v : AV, (∀ z, v ≠ xL z) → (ax_rv q v).category = 1
  | .inl x, _ => rfl
  | .inr (.inl r), _ => by
    show (if r = 150 then q.2 else Value.ref (q.1 r)).category = 1
    by_cases h : r = 150
    · rw [if_pos h]
      rcases hq with e | ⟨t, e⟩ <;> rw [e] <;> rfl
    · rw [if_neg h]; rfl
  | .inr (.inr (.inl w)), _ => rfl
  | .inr (.inr (.inr z)), h => absurd rfl (h z)
def ax_lp (q : (Nat → Nat) × Value) (L : List AV) : List (Nat × Value) := (List.range L.length).filterMap (fun i => match (L[i]? : Option AV) with
  | some (Sum.inr (Sum.inr (Sum.inr _))) => none
  | some v => some (i, ax_rv q v)
  | none => none)
theorem ax_lp_has {q : (Nat → Nat) × Value} {ls : Array Slot} {nL : Nat} {L : List AV} (h : ax_LH q ls nL L) : lv_has ls nL (ax_lp q L) := by
  obtain ⟨h1, h2, h3, h4⟩ := h
  refine ⟨h1, h3, fun x hx => ?_⟩
  obtain ⟨i, -, hi⟩ := List.mem_filterMap.mp hx
  cases hv : L[i]? with
  | none => rw [hv] at hi; simp at hi
  | some v =>
    rw [hv] at hi
    have key : ∀ w : AV, L[i]? = some w → (∀ z, w ≠ xL z) → (i, ax_rv q w) = x → ls[x.1]? = some (.val x.2) := by
      intro w hw hz he
      rcases h4 i w hw with ⟨z, e⟩ | e
      · exact absurd e (hz z)
      · rw [← he]; exact e
    match v, hv, hi with
    | .inl y, hv, hi => exact key _ hv (fun z e => by cases e) (Option.some.inj hi)
    | .inr (.inl r), hv, hi => exact key _ hv (fun z e => by cases e) (Option.some.inj hi)
    | .inr (.inr (.inl w)), hv, hi => exact key _ hv (fun z e => by cases e) (Option.some.inj hi)
theorem ax_lp_set {q : (Nat → Nat) × Value} (hq : q.2 = .null ∨ ∃ t : Nat, q.2 = .ref t) {ls ls' : Array Slot} {nL a : Nat} {L : List AV} {v : AV} (h : ax_LH q ls nL L) (ha : a < L.length)
    (h' : lv_has ls' nL ((a, ax_rv q v) :: (ax_lp q L).filter (fun x => !(x.1 == a) && !(x.1 + 1 == a && x.2.category == 2)))) : ax_LH q ls' nL (L.set a v) := by
  obtain ⟨h1, h2, h3, h4⟩ := h
  refine ⟨h'.1, by rw [List.length_set]; exact h2, h'.2.1, fun i w hw => ?_⟩
  by_cases e : i = a
  · subst e
    rw [List.getElem?_set_self ha] at hw
    cases hw
    exact Or.inr (h'.2.2 (i, ax_rv q v) List.mem_cons_self)
  · rw [List.getElem?_set_ne (fun z => e z.symm)] at hw
    by_cases hz : ∃ z, w = xL z
    · exact Or.inl hz
    · refine Or.inr (h'.2.2 (i, ax_rv q w) (List.mem_cons_of_mem _ (List.mem_filter.mpr ⟨?_, ?_⟩)))
      · refine List.mem_filterMap.mpr ⟨i, List.mem_range.mpr (List.getElem?_eq_some_iff.mp hw).1, ?_⟩
        rw [hw]
        match w, hz with
        | .inl y, _ => rfl
        | .inr (.inl r), _ => rfl
        | .inr (.inr (.inl w)), _ => rfl
        | .inr (.inr (.inr z)), hz => exact absurd ⟨z, rfl⟩ hz
      · have hc := ax_cat1 hq w (fun z e => hz ⟨z, e⟩)
        show (!(i == a) && !(i + 1 == a && (ax_rv q w).category == 2)) = true
        rw [hc]
        simp [e]
theorem ax_set_ok {L : List AV} {a : Nat} {v : AV} (h : ∀ w ∈ L, ax_okv w) (hv : ax_okv v) : ∀ w ∈ L.set a v, ax_okv w := by
  intro w hw
  rcases List.mem_or_eq_of_mem_set hw with h1 | h1
  · exact h w h1
  · rw [h1]; exact hv
/-! the world -/
theorem ax_wd_get {sd : Nat × Nat} {q : (Nat → Nat) × Value} {tc : Nat → ClassId} {μ : Mem} {i : Nat} (h1 : sd.1 ≤ i) (h2 : i < sd.1 + sd.2) : (ax_wd sd q tc μ)[i - sd.1]? = some (q.1 i, ax_cE q tc μ i) := by
  unfold ax_wd
  rw [List.getElem?_map, List.getElem?_range (by omega)]
  show some (q.1 (sd.1 + (i - sd.1)), ax_cE q tc μ (sd.1 + (i - sd.1))) = _
  rw [show sd.1 + (i - sd.1) = i by omega]
theorem ax_cE_congr {q : (Nat → Nat) × Value} {tc : Nat → ClassId} {μ μ' : Mem} {i : Nat} (h : ∀ j, μ' i j = μ i j) : ax_cE q tc μ' i = ax_cE q tc μ i := by
  have h' : μ' i = μ i := funext h
  unfold ax_cE
  split <;> simp only [ax_fv, h']
theorem ax_wd_set {sd : Nat × Nat} {q : (Nat → Nat) × Value} {tc : Nat → ClassId} {μ μ' : Mem} {i : Nat} {e : va_E} (h1 : sd.1 ≤ i) (h2 : i < sd.1 + sd.2) (he : e = ax_cE q tc μ' i) (ho : ∀ i', i' ≠ i → ∀ j, μ' i' j = μ i' j) : (ax_wd sd q tc μ).set (i - sd.1) (q.1 i, e) = ax_wd sd q tc μ' := by
  apply List.ext_getElem?
  intro j
  by_cases hj : j = i - sd.1
  · subst hj
    rw [List.getElem?_set_self (by unfold ax_wd; rw [List.length_map, List.length_range]; omega), ax_wd_get h1 h2, he]
  · rw [List.getElem?_set_ne (fun z => hj z.symm)]
    unfold ax_wd
    rw [List.getElem?_map, List.getElem?_map]
    by_cases hl : j < sd.2
    · rw [List.getElem?_range hl]
      show some (q.1 (sd.1 + j), ax_cE q tc μ (sd.1 + j)) = some (q.1 (sd.1 + j), ax_cE q tc μ' (sd.1 + j))
      rw [ax_cE_congr (ho (sd.1 + j) (by omega))]
    · rw [List.getElem?_eq_none (by rw [List.length_range]; omega)]
      rfl
theorem ax_inS_e {k r : Nat} (h : ax_inS k r = true) : (ax_sd k).1 ≤ r ∧ r < (ax_sd k).1 + (ax_sd k).2 := by
  simp only [ax_inS, Bool.and_eq_true] at h
  exact ⟨Nat.le_of_ble_eq_true h.1, by have := h.2; simp only [Nat.blt_eq] at this; exact this⟩
theorem ax_fld_e {k r ci j kd : Nat} (h : ax_fld k r ci j = some kd) : ax_inS k r = true ∧ ∃ ks : List Nat, ax_cd r = (0, ci, ks) ∧ ks[j]? = some kd := by
  unfold ax_fld at h
  split at h
  · next hs =>
    split at h
    · next ci' ks hc =>
      split at h
      · next hb =>
        have := Nat.eq_of_beq_eq_true hb
        subst this
        exact ⟨hs, ks, hc, h⟩
      · cases h
    · cases h
  · cases h
theorem ax_arr_e {tg k r n : Nat} (h : ax_arr tg k r = some n) : ax_inS k r = true ∧ ∃ ks : List Nat, ax_cd r = (tg, n, ks) := by
  unfold ax_arr at h
  split at h
  · next hs =>
    split at h
    · next t n' ks hc =>
      split at h
      · next hb =>
        have := Nat.eq_of_beq_eq_true hb
        subst this
        cases h
        exact ⟨hs, ks, hc⟩
      · cases h
  · cases h
theorem ax_row_e {k c : Nat} {nm : Nat × Nat} (h : ax_row k c = some nm) : ax_inS k c = true ∧ ax_cd c = (4, nm.1, [nm.2]) := by
  unfold ax_row at h
  split at h
  · next hs =>
    split at h
    · next n m hc =>
      cases h
      exact ⟨hs, hc⟩
    · cases h
  · cases h
theorem ax_ref_e {k c : Nat} {ks : List Nat} (h : ax_ref k c = some ks) : ax_inS k c = true ∧ ∃ n : Nat, ax_cd c = (3, n, ks) := by
  unfold ax_ref at h
  split at h
  · next hs =>
    split at h
    · next n ks' hc =>
      cases h
      exact ⟨hs, n, hc⟩
    · cases h
  · cases h
theorem ax_rows4 : ∀ c n m : Nat, ax_cd c = (4, n, [m]) → c = 41 ∧ n = 7 ∧ m = 64 := by
  have key : (List.range 75).all (fun c => match ax_cd c with
    | (4, n, [m]) => Nat.beq c 41 && Nat.beq n 7 && Nat.beq m 64
    | _ => true) = true := by decide +kernel
  intro c n m h
  have hc : c < 75 := by
    rcases Nat.lt_or_ge c 75 with q | q
    · exact q
    · have : ax_cd c = (9, 0, []) := by
        unfold ax_cd
        rw [List.getD_eq_getElem?_getD, List.getElem?_eq_none (by have : ax_cdL.length = 75 := by decide +kernel
                                                                  omega)]
        rfl
      rw [this] at h
      cases h
  have h2 := List.all_eq_true.mp key c (List.mem_range.mpr hc)
  rw [h] at h2
  simp only [Bool.and_eq_true] at h2
  exact ⟨Nat.eq_of_beq_eq_true h2.1.1, Nat.eq_of_beq_eq_true h2.1.2, Nat.eq_of_beq_eq_true h2.2⟩
theorem ax_cd4 : ∀ i : Nat, i < 7 → ax_cd (41 + 1 + i) = (1, 64, []) := by decide +kernel
theorem ax_mci_ok : ∀ b : Nat, b < ax_K → (ax_mciL.getD b 99 = 50 → (ax_y b).cls = "java/lang/String") ∧ ∀ q : vw_C, ax_cl[ax_mciL.getD b 99]? = some q → q.1 = (ax_y b).cls := by
  have key : (List.range ax_K).all (fun b => (!(Nat.beq (ax_mciL.getD b 99) 50) || decide ((ax_y b).cls = "java/lang/String")) && (match ax_cl[ax_mciL.getD b 99]? with
    | some q => decide (q.1 = (ax_y b).cls)
    | none => true)) = true := by decide +kernel
  intro b hb
  have h := List.all_eq_true.mp key b (List.mem_range.mpr hb)
  simp only [Bool.and_eq_true, Bool.or_eq_true, Bool.not_eq_true', decide_eq_true_eq] at h
  refine ⟨fun e => ?_, fun q hq => ?_⟩
  · rcases h.1 with h1 | h1
    · rw [e] at h1; cases h1
    · exact h1
  · have h2 := h.2
    rw [hq] at h2
    simpa using h2
theorem ax_cd_cl : ∀ r ci : Nat, ∀ ks : List Nat, ax_cd r = (0, ci, ks) → ∃ q : vw_C, ax_cl[ci]? = some q ∧ ks.length = q.2.2 := by
  have key : (List.range 75).all (fun c => match ax_cd c with
    | (0, ci, ks) => match ax_cl[ci]? with
      | some q => Nat.beq ks.length q.2.2
      | none => false
    | _ => true) = true := by decide +kernel
  intro c ci ks h
  have hc : c < 75 := by
    rcases Nat.lt_or_ge c 75 with q | q
    · exact q
    · have : ax_cd c = (9, 0, []) := by
        unfold ax_cd
        rw [List.getD_eq_getElem?_getD, List.getElem?_eq_none (by have : ax_cdL.length = 75 := by decide +kernel
                                                                  omega)]
        rfl
      rw [this] at h
      cases h
  have h2 := List.all_eq_true.mp key c (List.mem_range.mpr hc)
  rw [h] at h2
  cases hq : ax_cl[ci]? with
  | none => simp only [hq] at h2; cases h2
  | some q => simp only [hq] at h2; exact ⟨q, rfl, Nat.eq_of_beq_eq_true h2⟩
theorem ax_cl_ok {ci : Nat} {q : vw_C} (h : ax_cl[ci]? = some q) : (∀ w ∈ u_ws q.1 q.2.1 q.2.2, w ∈ ax_wsA) ∧ (∀ k, k < q.2.2 → parseFieldDescriptor (q.2.1 k).2.2.1 = some ((parseFieldDescriptor (q.2.1 k).2.2.1).getD .int)) ∧ (∀ a, a < q.2.2 → ∀ b, b < q.2.2 → a ≠ b → (q.2.1 a).2.1 ≠ (q.2.1 b).2.1) := by
  have h1 := ax_clW ci q h
  have h2 : ∀ j, j < q.2.2 → _ := fun j hj => List.all_eq_true.mp h1 j (List.mem_range.mpr hj)
  simp only [Bool.and_eq_true, decide_eq_true_eq] at h2
  refine ⟨fun w hw => ?_, fun k hk => ?_, fun a ha b hb hab => ?_⟩
  · obtain ⟨j, hj, rfl⟩ := List.mem_map.mp hw
    exact (h2 j (List.mem_range.mp hj)).1.1
  · have := (h2 k hk).1.2
    cases e : parseFieldDescriptor (q.2.1 k).2.2.1 with
    | none => rw [e] at this; cases this
    | some t => rfl
  · have := List.all_eq_true.mp (h2 b hb).2 a (List.mem_range.mpr ha)
    simp only [Bool.or_eq_true, beq_iff_eq, decide_eq_true_eq] at this
    rcases this with e | e
    · exact absurd e hab
    · exact e
theorem ax_wsm {k : Nat} {args : Array Value} {s : State} (h : ∀ w ∈ ax_ws k, w.before args s = true) : ∀ w ∈ ax_wsA, w.before args s = true := fun w hw => h w (List.mem_cons_of_mem _ hw)
theorem ax_xset_ok {μ : Mem} {r j : Nat} {v : Int} (h : ax_okm μ) (hv : if ax_lk r j then ax_r64 v else ax_r32 v) : ax_okm (xset μ r j v) := by
  intro a b
  unfold xset
  by_cases e : a = r ∧ b = j
  · rw [if_pos e, e.1, e.2]; exact hv
  · rw [if_neg e]; exact h a b
theorem ax_lk_arr {tg r n : Nat} {ks : List Nat} (h : ax_cd r = (tg, n, ks)) (ht : tg ≠ 0) (j : Nat) : ax_lk r j = false := by
  unfold ax_lk
  rw [h]
  split
  · next hh => cases hh; exact absurd rfl ht
  · rfl
theorem ax_lk_fld {r ci j kd : Nat} {ks : List Nat} (h : ax_cd r = (0, ci, ks)) (hk : ks[j]? = some kd) : ax_lk r j = (kd == 1) := by
  unfold ax_lk
  rw [h]
  show (ks.getD j 0 == 1) = _
  rw [List.getD_eq_getElem?_getD, hk]
  rfl
