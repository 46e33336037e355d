/-! the class: the next token -/
def fS (μ μ' : Mem) : Prop := ∀ c j, (c ≠ 1 ∨ (j ≠ 5 ∧ j ≠ 6)) → μ' c j = μ c j
theorem fS_refl (μ : Mem) : fS μ μ := fun _ _ _ => rfl
theorem fS_t {μ ν κ : Mem} (h : fS μ ν) (g : fS ν κ) : fS μ κ := fun c j a => (g c j a).trans (h c j a)
theorem fS_s {μ ν : Mem} {j : Nat} {x : Int} (h : fS μ ν) (h1 : 5 ≤ j) (h2 : j ≤ 6) : fS μ (xset ν 1 j x) := fun c i hc => by rw [xs_if, if_neg (by omega)]; exact h c i hc
def tX (μ : Mem) (α : Al) : Prop := μ 1 1 = ((α.1 0 3 : Nat) : Int) ∧ (∀ i, i < α.1 0 3 → μ 13 i = ((α.1 8 i : Nat) : Int)) ∧ α.1 0 3 ≤ 160
theorem tX_of {μ ν : Mem} {α : Al} (h1 : ν 1 1 = μ 1 1) (h2 : ∀ i, ν 13 i = μ 13 i) (g : tX μ α) : tX ν α := ⟨h1.trans g.1, fun i hi => (h2 i).trans (g.2.1 i hi), g.2.2⟩
theorem tX_fS {μ ν : Mem} {α : Al} (h : fS μ ν) (g : tX μ α) : tX ν α := tX_of (h 1 1 (by decide)) (fun i => h 13 i (Or.inl (by decide))) g
theorem X_skip {d : Nat} {μ : Mem} {α : Al} {Q : AV → Mem → Prop} (ht : tX μ α) : ∀ (k i : Nat) (ν : Mem), i + k = α.1 0 3 → fS μ ν → ν 1 5 = (i : Int) → (∀ ν', fS μ ν' → ν' 1 5 = ((rn isB (α.1 8) k i : Nat) : Int) → DW (d + 1) 5 24 [xR 1] ν' Q) → DW (d + 1) 5 4 [xR 1] ν Q := by
  intro k
  induction k with
  | zero =>
    intro i ν hi hf h5 h
    have hν := tX_fS hf ht
    refine sg_Text_step_4 ?_
    rw [h5, hν.1, if_neg (by omega)]
    exact h ν hf h5
  | succ k ih =>
    intro i ν hi hf h5 h
    have hν := tX_fS hf ht
    have h160 := ht.2.2
    refine sg_Text_step_4 ?_
    rw [h5, hν.1, if_pos (by omega), wb_eq (by omega) (by omega), Int.toNat_natCast, hν.2.1 i (by omega), iw_k1 (by omega)]
    rw [rn] at h
    refine wi (fun c => ?_) (fun c => ?_)
    · have c' : isB (α.1 8 i) = true := by unfold isB; rw [beq_iff_eq]; omega
      rw [if_pos c'] at h
      exact ih (i + 1) _ (by omega) (fS_s hf (by decide) (by decide)) xs_s h
    · have c' : ¬ isB (α.1 8 i) = true := by unfold isB; rw [beq_iff_eq]; omega
      rw [if_neg c'] at h
      exact h ν hf h5
theorem X_lets {d f : Nat} {μ : Mem} {α : Al} {Q : AV → Mem → Prop} (ht : tX μ α) : ∀ (k i : Nat) (ν : Mem), i + k = α.1 0 3 → fS μ ν → ν 1 5 = (f : Int) → ν 1 6 = (i : Int) → (∀ ν', fS μ ν' → ν' 1 5 = (f : Int) → ν' 1 6 = ((rn isL (α.1 8) k i : Nat) : Int) → Q (xI 0) ν') → DW (d + 1) 5 42 [xR 1] ν Q := by
  intro k
  induction k with
  | zero =>
    intro i ν hi hf h5 h6 h
    have hν := tX_fS hf ht
    refine sg_Text_step_42 ?_
    rw [h6, hν.1, if_neg (by omega)]
    exact h ν hf h5 h6
  | succ k ih =>
    intro i ν hi hf h5 h6 h
    have hν := tX_fS hf ht
    have h160 := ht.2.2
    refine sg_Text_step_42 ?_
    rw [h6, hν.1, if_pos (by omega), wb_eq (by omega) (by omega), Int.toNat_natCast, hν.2.1 i (by omega), iw_k1 (by omega)]
    rw [rn] at h
    refine wi (fun c => ?_) (fun c => ?_)
    · have c' : ¬ isL (α.1 8 i) = true := by rw [isL_iff]; omega
      rw [if_neg c'] at h
      exact h ν hf h5 h6
    refine wi (fun c2 => ?_) (fun c2 => ?_)
    · have c' : ¬ isL (α.1 8 i) = true := by rw [isL_iff]; omega
      rw [if_neg c'] at h
      exact h ν hf h5 h6
    have c' : isL (α.1 8 i) = true := by rw [isL_iff]; omega
    rw [if_pos c'] at h
    exact ih (i + 1) _ (by omega) (fS_s hf (by decide) (by decide)) (by rw [xs_j (by decide)]; exact h5) xs_s h
theorem X_digs {d f : Nat} {μ : Mem} {α : Al} {Q : AV → Mem → Prop} (ht : tX μ α) : ∀ (k i : Nat) (ν : Mem), i + k = α.1 0 3 → fS μ ν → ν 1 5 = (f : Int) → ν 1 6 = (i : Int) → (∀ ν', fS μ ν' → ν' 1 5 = (f : Int) → ν' 1 6 = ((rn isD (α.1 8) k i : Nat) : Int) → Q (xI 0) ν') → DW (d + 1) 5 69 [xR 1] ν Q := by
  intro k
  induction k with
  | zero =>
    intro i ν hi hf h5 h6 h
    have hν := tX_fS hf ht
    refine sg_Text_step_69 ?_
    rw [h6, hν.1, if_neg (by omega)]
    exact h ν hf h5 h6
  | succ k ih =>
    intro i ν hi hf h5 h6 h
    have hν := tX_fS hf ht
    have h160 := ht.2.2
    refine sg_Text_step_69 ?_
    rw [h6, hν.1, if_pos (by omega), wb_eq (by omega) (by omega), Int.toNat_natCast, hν.2.1 i (by omega), iw_k1 (by omega)]
    rw [rn] at h
    refine wi (fun c => ?_) (fun c => ?_)
    · have c' : ¬ isD (α.1 8 i) = true := by rw [isD_iff]; omega
      rw [if_neg c'] at h
      exact h ν hf h5 h6
    refine wi (fun c2 => ?_) (fun c2 => ?_)
    · have c' : ¬ isD (α.1 8 i) = true := by rw [isD_iff]; omega
      rw [if_neg c'] at h
      exact h ν hf h5 h6
    have c' : isD (α.1 8 i) = true := by rw [isD_iff]; omega
    rw [if_pos c'] at h
    exact ih (i + 1) _ (by omega) (fS_s hf (by decide) (by decide)) (by rw [xs_j (by decide)]; exact h5) xs_s h
set_option maxRecDepth 20000 in
theorem X_step_ok {d i : Nat} {μ : Mem} {α : Al} {Q : AV → Mem → Prop} (ht : tX μ α) (hi : i ≤ α.1 0 3) (h6 : μ 1 6 = (i : Int)) (h : ∀ μ', fS μ μ' → μ' 1 5 = ((bl α i : Nat) : Int) → μ' 1 6 = ((te α (bl α i) : Nat) : Int) → Q (xI 0) μ') : GM (d + 1) 5 [xR 1] μ Q := by
  refine ge_Text_step ?_
  rw [h6]
  refine X_skip ht (α.1 0 3 - i) i _ (by omega) (fS_s (fS_refl μ) (by decide) (by decide)) xs_s (fun ν hf e5 => ?_)
  have hb := bl_bd hi
  have e5 : ν 1 5 = ((bl α i : Nat) : Int) := e5
  generalize bl α i = f at hb e5 h
  have hν := tX_fS hf ht
  have h160 := ht.2.2
  have f6 : fS μ (xset ν 1 6 (f : Int)) := fS_s hf (by decide) (by decide)
  refine sg_Text_step_24 ?_
  rw [e5, hν.1]
  refine wi (fun c => ?_) (fun c => ?_)
  · have hn : f < α.1 0 3 := by omega
    rw [wb_eq (by omega) (by omega), Int.toNat_natCast, hν.2.1 f hn, iw_k1 (by omega)]
    have noD : ¬ (48 ≤ α.1 8 f ∧ α.1 8 f ≤ 57) → isD (α.1 8 f) = false := fun q => by
      cases e : isD (α.1 8 f) with
      | false => rfl
      | true => exact absurd (isD_iff.1 e) q
    have noL : ¬ (97 ≤ α.1 8 f ∧ α.1 8 f ≤ 122) → isL (α.1 8 f) = false := fun q => by
      cases e : isL (α.1 8 f) with
      | false => rfl
      | true => exact absurd (isL_iff.1 e) q
    have other : isL (α.1 8 f) = false → isD (α.1 8 f) = false → Q (xI 0) (xset (xset ν 1 6 (f : Int)) 1 6 ((f + 1 : Nat) : Int)) := fun q1 q2 => by
      refine h _ (fS_s f6 (by decide) (by decide)) (by rw [xs_j (by decide), xs_j (by decide)]; exact e5) ?_
      rw [xs_s]; unfold te; rw [if_pos hn, q1, q2]; rfl
    have digit : isD (α.1 8 f) = true → DW (d + 1) 5 69 [xR 1] (xset ν 1 6 (f : Int)) Q := fun q => by
      refine X_digs (f := f) ht (α.1 0 3 - f) f _ (by omega) f6 (by rw [xs_j (by decide)]; exact e5) xs_s (fun ν' g1 g2 g3 => ?_)
      rw [← te_D hn q] at g3
      exact h ν' g1 g2 g3
    refine wi (fun c1 => ?_) (fun c1 => ?_)
    · rw [wb_eq (by omega) (by omega)]
      refine wi (fun c2 => ?_) (fun c2 => ?_)
      · exact other (noL (by omega)) (noD (by omega))
      · refine wi (fun c3 => ?_) (fun c3 => ?_)
        · exact other (noL (by omega)) (noD (by omega))
        · exact digit (isD_iff.2 (by omega))
    · refine wi (fun c2 => ?_) (fun c2 => ?_)
      · rw [wb_eq (by omega) (by omega)]
        refine wi (fun c3 => ?_) (fun c3 => ?_)
        · omega
        · refine wi (fun c4 => ?_) (fun c4 => ?_)
          · exact other (noL (by omega)) (noD (by omega))
          · omega
      · have q : isL (α.1 8 f) = true := isL_iff.2 (by omega)
        refine X_lets (f := f) ht (α.1 0 3 - f) f _ (by omega) f6 (by rw [xs_j (by decide)]; exact e5) xs_s (fun ν' g1 g2 g3 => ?_)
        rw [← te_L hn q] at g3
        exact h ν' g1 g2 g3
  · refine h _ f6 (by rw [xs_j (by decide)]; exact e5) ?_
    rw [xs_s, te_n (by omega)]
/-! the class: which word stands there -/
def aX (μ : Mem) (α : Al) (f : Nat) : Prop := tX μ α ∧ f ≤ α.1 0 3 ∧ μ 1 5 = (f : Int) ∧ μ 1 6 = ((te α f : Nat) : Int)
theorem wc_0 : ∀ i, i < 3 → xi2c (xand (([105, 110, 110] : List Int).getD i 0) 255) = (((WS 0).getD i 0 : Nat) : Int) ∧ (WS 0).getD i 0 < 65536 := by decide +kernel
set_option maxRecDepth 20000 in
theorem X_st_0 {d f : Nat} {μ : Mem} {α : Al} {Q : AV → Mem → Prop} (ha : aX μ α f) (h : Q (xI (b01 (spB α f 0))) μ) : GM (d + 4) 10 [xR 1, xR 100] μ Q := by
  obtain ⟨ht, hf, h5, h6⟩ := ha
  have h160 := ht.2.2
  have hte := te_bd hf
  refine ge_Text_standsHere_1_100 ?_
  rw [h5, h6, iw_s2 hte.1 (by omega)]
  refine wi (fun c => ?_) (fun c => ?_)
  · have c' : te α f - f = 3 := by omega
    have kyz : ∀ (m i : Nat), i + m = 3 → (∀ j, j < i → α.1 8 (f + j) = (WS 0).getD j 0) → DW (d + 4) 10 12 [xR 1, xR 100, xI (i : Int)] μ Q := by
      intro m
      induction m with
      | zero =>
        intro i hi hz
        refine sg_Text_standsHere_1_100_12 ?_
        rw [if_neg (by omega)]
        have e : spB α f 0 = true := spB_iff.2 ⟨c', fun j hj => hz j (by have : j < 3 := hj; omega)⟩
        rw [e] at h
        exact h
      | succ m ih =>
        intro i hi hz
        obtain ⟨w1, w2⟩ := wc_0 i (by omega)
        refine sg_Text_standsHere_1_100_12 ?_
        rw [if_pos (by omega), h5, iw_ad (by omega), ht.1, if_pos (by omega), wb_eq (by omega) (by omega), if_neg (by omega), if_pos (by omega), wb_eq (by omega) (by omega), Int.toNat_natCast, Int.toNat_natCast, w1, wb_eq (by omega) (by omega), wb_eq (by omega) (by omega), ht.2.1 _ (by omega), iw_k1 (by omega)]
        refine wi (fun c2 => ?_) (fun c2 => ?_)
        · refine ih (i + 1) (by omega) (fun j hj => ?_)
          by_cases e : j = i
          · rw [e]; omega
          · exact hz j (by omega)
        · have e : spB α f 0 = false := by
            cases e : spB α f 0 with
            | false => rfl
            | true => have := (spB_iff.1 e).2 i (show i < 3 by omega); omega
          rw [e] at h
          exact h
    exact kyz 3 0 (by omega) (fun j hj => absurd hj (Nat.not_lt_zero j))
  · have e : spB α f 0 = false := by
      cases e : spB α f 0 with
      | false => rfl
      | true => have : te α f - f = 3 := (spB_iff.1 e).1; omega
    rw [e] at h
    exact h
set_option maxRecDepth 20000 in
theorem X_wh_0 {d f : Nat} {μ : Mem} {α : Al} {Q : AV → Mem → Prop} (ha : aX μ α f) (h1 : spB α f 0 = true → Q (xI 0) μ) (h0 : spB α f 0 = false → DW (d + 5) 8 2 [xR 1, xI 1] μ Q) : DW (d + 5) 8 2 [xR 1, xI 0] μ Q := by
  refine sg_Text_wordHere_2 ?_
  rw [if_pos (by decide), if_pos rfl, show iw ((0 : Int) + 1) = 1 by rw [iw_def]; omega]
  refine X_st_0 ha ?_
  refine gI_mk ?_
  cases e : spB α f 0 with
  | false => rw [show b01 false = 0 from rfl, if_pos rfl]; exact h0 e
  | true => rw [show b01 true = 1 from rfl, if_neg (by decide)]; exact h1 e
theorem wc_1 : ∀ i, i < 5 → xi2c (xand (([103, 117, 101, 115, 116] : List Int).getD i 0) 255) = (((WS 1).getD i 0 : Nat) : Int) ∧ (WS 1).getD i 0 < 65536 := by decide +kernel
set_option maxRecDepth 20000 in
theorem X_st_1 {d f : Nat} {μ : Mem} {α : Al} {Q : AV → Mem → Prop} (ha : aX μ α f) (h : Q (xI (b01 (spB α f 1))) μ) : GM (d + 4) 10 [xR 1, xR 101] μ Q := by
  obtain ⟨ht, hf, h5, h6⟩ := ha
  have h160 := ht.2.2
  have hte := te_bd hf
  refine ge_Text_standsHere_1_101 ?_
  rw [h5, h6, iw_s2 hte.1 (by omega)]
  refine wi (fun c => ?_) (fun c => ?_)
  · have c' : te α f - f = 5 := by omega
    have kyz : ∀ (m i : Nat), i + m = 5 → (∀ j, j < i → α.1 8 (f + j) = (WS 1).getD j 0) → DW (d + 4) 10 12 [xR 1, xR 101, xI (i : Int)] μ Q := by
      intro m
      induction m with
      | zero =>
        intro i hi hz
        refine sg_Text_standsHere_1_101_12 ?_
        rw [if_neg (by omega)]
        have e : spB α f 1 = true := spB_iff.2 ⟨c', fun j hj => hz j (by have : j < 5 := hj; omega)⟩
        rw [e] at h
        exact h
      | succ m ih =>
        intro i hi hz
        obtain ⟨w1, w2⟩ := wc_1 i (by omega)
        refine sg_Text_standsHere_1_101_12 ?_
        rw [if_pos (by omega), h5, iw_ad (by omega), ht.1, if_pos (by omega), wb_eq (by omega) (by omega), if_neg (by omega), if_pos (by omega), wb_eq (by omega) (by omega), Int.toNat_natCast, Int.toNat_natCast, w1, wb_eq (by omega) (by omega), wb_eq (by omega) (by omega), ht.2.1 _ (by omega), iw_k1 (by omega)]
        refine wi (fun c2 => ?_) (fun c2 => ?_)
        · refine ih (i + 1) (by omega) (fun j hj => ?_)
          by_cases e : j = i
          · rw [e]; omega
          · exact hz j (by omega)
        · have e : spB α f 1 = false := by
            cases e : spB α f 1 with
            | false => rfl
            | true => have := (spB_iff.1 e).2 i (show i < 5 by omega); omega
          rw [e] at h
          exact h
    exact kyz 5 0 (by omega) (fun j hj => absurd hj (Nat.not_lt_zero j))
  · have e : spB α f 1 = false := by
      cases e : spB α f 1 with
      | false => rfl
      | true => have : te α f - f = 5 := (spB_iff.1 e).1; omega
    rw [e] at h
    exact h
set_option maxRecDepth 20000 in
theorem X_wh_1 {d f : Nat} {μ : Mem} {α : Al} {Q : AV → Mem → Prop} (ha : aX μ α f) (h1 : spB α f 1 = true → Q (xI 1) μ) (h0 : spB α f 1 = false → DW (d + 5) 8 2 [xR 1, xI 2] μ Q) : DW (d + 5) 8 2 [xR 1, xI 1] μ Q := by
  refine sg_Text_wordHere_2 ?_
  rw [if_pos (by decide), if_neg (by decide), if_pos rfl, show iw ((1 : Int) + 1) = 2 by rw [iw_def]; omega]
  refine X_st_1 ha ?_
  refine gI_mk ?_
  cases e : spB α f 1 with
  | false => rw [show b01 false = 0 from rfl, if_pos rfl]; exact h0 e
  | true => rw [show b01 true = 1 from rfl, if_neg (by decide)]; exact h1 e
theorem wc_2 : ∀ i, i < 7 → xi2c (xand (([119, 97, 116, 99, 104, 101, 114] : List Int).getD i 0) 255) = (((WS 2).getD i 0 : Nat) : Int) ∧ (WS 2).getD i 0 < 65536 := by decide +kernel
set_option maxRecDepth 20000 in
theorem X_st_2 {d f : Nat} {μ : Mem} {α : Al} {Q : AV → Mem → Prop} (ha : aX μ α f) (h : Q (xI (b01 (spB α f 2))) μ) : GM (d + 4) 10 [xR 1, xR 102] μ Q := by
  obtain ⟨ht, hf, h5, h6⟩ := ha
  have h160 := ht.2.2
  have hte := te_bd hf
  refine ge_Text_standsHere_1_102 ?_
  rw [h5, h6, iw_s2 hte.1 (by omega)]
  refine wi (fun c => ?_) (fun c => ?_)
  · have c' : te α f - f = 7 := by omega
    have kyz : ∀ (m i : Nat), i + m = 7 → (∀ j, j < i → α.1 8 (f + j) = (WS 2).getD j 0) → DW (d + 4) 10 12 [xR 1, xR 102, xI (i : Int)] μ Q := by
      intro m
      induction m with
      | zero =>
        intro i hi hz
        refine sg_Text_standsHere_1_102_12 ?_
        rw [if_neg (by omega)]
        have e : spB α f 2 = true := spB_iff.2 ⟨c', fun j hj => hz j (by have : j < 7 := hj; omega)⟩
        rw [e] at h
        exact h
      | succ m ih =>
        intro i hi hz
        obtain ⟨w1, w2⟩ := wc_2 i (by omega)
        refine sg_Text_standsHere_1_102_12 ?_
        rw [if_pos (by omega), h5, iw_ad (by omega), ht.1, if_pos (by omega), wb_eq (by omega) (by omega), if_neg (by omega), if_pos (by omega), wb_eq (by omega) (by omega), Int.toNat_natCast, Int.toNat_natCast, w1, wb_eq (by omega) (by omega), wb_eq (by omega) (by omega), ht.2.1 _ (by omega), iw_k1 (by omega)]
        refine wi (fun c2 => ?_) (fun c2 => ?_)
        · refine ih (i + 1) (by omega) (fun j hj => ?_)
          by_cases e : j = i
          · rw [e]; omega
          · exact hz j (by omega)
        · have e : spB α f 2 = false := by
            cases e : spB α f 2 with
            | false => rfl
            | true => have := (spB_iff.1 e).2 i (show i < 7 by omega); omega
          rw [e] at h
          exact h
    exact kyz 7 0 (by omega) (fun j hj => absurd hj (Nat.not_lt_zero j))
  · have e : spB α f 2 = false := by
      cases e : spB α f 2 with
      | false => rfl
      | true => have : te α f - f = 7 := (spB_iff.1 e).1; omega
    rw [e] at h
    exact h
set_option maxRecDepth 20000 in
theorem X_wh_2 {d f : Nat} {μ : Mem} {α : Al} {Q : AV → Mem → Prop} (ha : aX μ α f) (h1 : spB α f 2 = true → Q (xI 2) μ) (h0 : spB α f 2 = false → DW (d + 5) 8 2 [xR 1, xI 3] μ Q) : DW (d + 5) 8 2 [xR 1, xI 2] μ Q := by
  refine sg_Text_wordHere_2 ?_
  rw [if_pos (by decide), if_neg (by decide), if_neg (by decide), if_pos rfl, show iw ((2 : Int) + 1) = 3 by rw [iw_def]; omega]
  refine X_st_2 ha ?_
  refine gI_mk ?_
  cases e : spB α f 2 with
  | false => rw [show b01 false = 0 from rfl, if_pos rfl]; exact h0 e
  | true => rw [show b01 true = 1 from rfl, if_neg (by decide)]; exact h1 e
theorem wc_3 : ∀ i, i < 6 → xi2c (xand (([108, 101, 110, 100, 101, 114] : List Int).getD i 0) 255) = (((WS 3).getD i 0 : Nat) : Int) ∧ (WS 3).getD i 0 < 65536 := by decide +kernel
set_option maxRecDepth 20000 in
theorem X_st_3 {d f : Nat} {μ : Mem} {α : Al} {Q : AV → Mem → Prop} (ha : aX μ α f) (h : Q (xI (b01 (spB α f 3))) μ) : GM (d + 4) 10 [xR 1, xR 103] μ Q := by
  obtain ⟨ht, hf, h5, h6⟩ := ha
  have h160 := ht.2.2
  have hte := te_bd hf
  refine ge_Text_standsHere_1_103 ?_
  rw [h5, h6, iw_s2 hte.1 (by omega)]
  refine wi (fun c => ?_) (fun c => ?_)
  · have c' : te α f - f = 6 := by omega
    have kyz : ∀ (m i : Nat), i + m = 6 → (∀ j, j < i → α.1 8 (f + j) = (WS 3).getD j 0) → DW (d + 4) 10 12 [xR 1, xR 103, xI (i : Int)] μ Q := by
      intro m
      induction m with
      | zero =>
        intro i hi hz
        refine sg_Text_standsHere_1_103_12 ?_
        rw [if_neg (by omega)]
        have e : spB α f 3 = true := spB_iff.2 ⟨c', fun j hj => hz j (by have : j < 6 := hj; omega)⟩
        rw [e] at h
        exact h
      | succ m ih =>
        intro i hi hz
        obtain ⟨w1, w2⟩ := wc_3 i (by omega)
        refine sg_Text_standsHere_1_103_12 ?_
        rw [if_pos (by omega), h5, iw_ad (by omega), ht.1, if_pos (by omega), wb_eq (by omega) (by omega), if_neg (by omega), if_pos (by omega), wb_eq (by omega) (by omega), Int.toNat_natCast, Int.toNat_natCast, w1, wb_eq (by omega) (by omega), wb_eq (by omega) (by omega), ht.2.1 _ (by omega), iw_k1 (by omega)]
        refine wi (fun c2 => ?_) (fun c2 => ?_)
        · refine ih (i + 1) (by omega) (fun j hj => ?_)
          by_cases e : j = i
          · rw [e]; omega
          · exact hz j (by omega)
        · have e : spB α f 3 = false := by
            cases e : spB α f 3 with
            | false => rfl
            | true => have := (spB_iff.1 e).2 i (show i < 6 by omega); omega
          rw [e] at h
          exact h
    exact kyz 6 0 (by omega) (fun j hj => absurd hj (Nat.not_lt_zero j))
  · have e : spB α f 3 = false := by
      cases e : spB α f 3 with
      | false => rfl
      | true => have : te α f - f = 6 := (spB_iff.1 e).1; omega
    rw [e] at h
    exact h
set_option maxRecDepth 20000 in
theorem X_wh_3 {d f : Nat} {μ : Mem} {α : Al} {Q : AV → Mem → Prop} (ha : aX μ α f) (h1 : spB α f 3 = true → Q (xI 3) μ) (h0 : spB α f 3 = false → DW (d + 5) 8 2 [xR 1, xI 4] μ Q) : DW (d + 5) 8 2 [xR 1, xI 3] μ Q := by
  refine sg_Text_wordHere_2 ?_
  rw [if_pos (by decide), if_neg (by decide), if_neg (by decide), if_neg (by decide), if_pos rfl, show iw ((3 : Int) + 1) = 4 by rw [iw_def]; omega]
  refine X_st_3 ha ?_
  refine gI_mk ?_
  cases e : spB α f 3 with
  | false => rw [show b01 false = 0 from rfl, if_pos rfl]; exact h0 e
  | true => rw [show b01 true = 1 from rfl, if_neg (by decide)]; exact h1 e
theorem wc_4 : ∀ i, i < 4 → xi2c (xand (([104, 111, 115, 116] : List Int).getD i 0) 255) = (((WS 4).getD i 0 : Nat) : Int) ∧ (WS 4).getD i 0 < 65536 := by decide +kernel
set_option maxRecDepth 20000 in
theorem X_st_4 {d f : Nat} {μ : Mem} {α : Al} {Q : AV → Mem → Prop} (ha : aX μ α f) (h : Q (xI (b01 (spB α f 4))) μ) : GM (d + 4) 10 [xR 1, xR 104] μ Q := by
  obtain ⟨ht, hf, h5, h6⟩ := ha
  have h160 := ht.2.2
  have hte := te_bd hf
  refine ge_Text_standsHere_1_104 ?_
  rw [h5, h6, iw_s2 hte.1 (by omega)]
  refine wi (fun c => ?_) (fun c => ?_)
  · have c' : te α f - f = 4 := by omega
    have kyz : ∀ (m i : Nat), i + m = 4 → (∀ j, j < i → α.1 8 (f + j) = (WS 4).getD j 0) → DW (d + 4) 10 12 [xR 1, xR 104, xI (i : Int)] μ Q := by
      intro m
      induction m with
      | zero =>
        intro i hi hz
        refine sg_Text_standsHere_1_104_12 ?_
        rw [if_neg (by omega)]
        have e : spB α f 4 = true := spB_iff.2 ⟨c', fun j hj => hz j (by have : j < 4 := hj; omega)⟩
        rw [e] at h
        exact h
      | succ m ih =>
        intro i hi hz
        obtain ⟨w1, w2⟩ := wc_4 i (by omega)
        refine sg_Text_standsHere_1_104_12 ?_
        rw [if_pos (by omega), h5, iw_ad (by omega), ht.1, if_pos (by omega), wb_eq (by omega) (by omega), if_neg (by omega), if_pos (by omega), wb_eq (by omega) (by omega), Int.toNat_natCast, Int.toNat_natCast, w1, wb_eq (by omega) (by omega), wb_eq (by omega) (by omega), ht.2.1 _ (by omega), iw_k1 (by omega)]
        refine wi (fun c2 => ?_) (fun c2 => ?_)
        · refine ih (i + 1) (by omega) (fun j hj => ?_)
          by_cases e : j = i
          · rw [e]; omega
          · exact hz j (by omega)
        · have e : spB α f 4 = false := by
            cases e : spB α f 4 with
            | false => rfl
            | true => have := (spB_iff.1 e).2 i (show i < 4 by omega); omega
          rw [e] at h
          exact h
    exact kyz 4 0 (by omega) (fun j hj => absurd hj (Nat.not_lt_zero j))
  · have e : spB α f 4 = false := by
      cases e : spB α f 4 with
      | false => rfl
      | true => have : te α f - f = 4 := (spB_iff.1 e).1; omega
    rw [e] at h
    exact h
set_option maxRecDepth 20000 in
theorem X_wh_4 {d f : Nat} {μ : Mem} {α : Al} {Q : AV → Mem → Prop} (ha : aX μ α f) (h1 : spB α f 4 = true → Q (xI 4) μ) (h0 : spB α f 4 = false → DW (d + 5) 8 2 [xR 1, xI 5] μ Q) : DW (d + 5) 8 2 [xR 1, xI 4] μ Q := by
  refine sg_Text_wordHere_2 ?_
  rw [if_pos (by decide), if_neg (by decide), if_neg (by decide), if_neg (by decide), if_neg (by decide), if_pos rfl, show iw ((4 : Int) + 1) = 5 by rw [iw_def]; omega]
  refine X_st_4 ha ?_
  refine gI_mk ?_
  cases e : spB α f 4 with
  | false => rw [show b01 false = 0 from rfl, if_pos rfl]; exact h0 e
  | true => rw [show b01 true = 1 from rfl, if_neg (by decide)]; exact h1 e
theorem wc_5 : ∀ i, i < 4 → xi2c (xand (([100, 117, 108, 108] : List Int).getD i 0) 255) = (((WS 5).getD i 0 : Nat) : Int) ∧ (WS 5).getD i 0 < 65536 := by decide +kernel
set_option maxRecDepth 20000 in
theorem X_st_5 {d f : Nat} {μ : Mem} {α : Al} {Q : AV → Mem → Prop} (ha : aX μ α f) (h : Q (xI (b01 (spB α f 5))) μ) : GM (d + 4) 10 [xR 1, xR 105] μ Q := by
  obtain ⟨ht, hf, h5, h6⟩ := ha
  have h160 := ht.2.2
  have hte := te_bd hf
  refine ge_Text_standsHere_1_105 ?_
  rw [h5, h6, iw_s2 hte.1 (by omega)]
  refine wi (fun c => ?_) (fun c => ?_)
  · have c' : te α f - f = 4 := by omega
    have kyz : ∀ (m i : Nat), i + m = 4 → (∀ j, j < i → α.1 8 (f + j) = (WS 5).getD j 0) → DW (d + 4) 10 12 [xR 1, xR 105, xI (i : Int)] μ Q := by
      intro m
      induction m with
      | zero =>
        intro i hi hz
        refine sg_Text_standsHere_1_105_12 ?_
        rw [if_neg (by omega)]
        have e : spB α f 5 = true := spB_iff.2 ⟨c', fun j hj => hz j (by have : j < 4 := hj; omega)⟩
        rw [e] at h
        exact h
      | succ m ih =>
        intro i hi hz
        obtain ⟨w1, w2⟩ := wc_5 i (by omega)
        refine sg_Text_standsHere_1_105_12 ?_
        rw [if_pos (by omega), h5, iw_ad (by omega), ht.1, if_pos (by omega), wb_eq (by omega) (by omega), if_neg (by omega), if_pos (by omega), wb_eq (by omega) (by omega), Int.toNat_natCast, Int.toNat_natCast, w1, wb_eq (by omega) (by omega), wb_eq (by omega) (by omega), ht.2.1 _ (by omega), iw_k1 (by omega)]
        refine wi (fun c2 => ?_) (fun c2 => ?_)
        · refine ih (i + 1) (by omega) (fun j hj => ?_)
          by_cases e : j = i
          · rw [e]; omega
          · exact hz j (by omega)
        · have e : spB α f 5 = false := by
            cases e : spB α f 5 with
            | false => rfl
            | true => have := (spB_iff.1 e).2 i (show i < 4 by omega); omega
          rw [e] at h
          exact h
    exact kyz 4 0 (by omega) (fun j hj => absurd hj (Nat.not_lt_zero j))
  · have e : spB α f 5 = false := by
      cases e : spB α f 5 with
      | false => rfl
      | true => have : te α f - f = 4 := (spB_iff.1 e).1; omega
    rw [e] at h
    exact h
set_option maxRecDepth 20000 in
theorem X_wh_5 {d f : Nat} {μ : Mem} {α : Al} {Q : AV → Mem → Prop} (ha : aX μ α f) (h1 : spB α f 5 = true → Q (xI 5) μ) (h0 : spB α f 5 = false → DW (d + 5) 8 2 [xR 1, xI 6] μ Q) : DW (d + 5) 8 2 [xR 1, xI 5] μ Q := by
  refine sg_Text_wordHere_2 ?_
  rw [if_pos (by decide), if_neg (by decide), if_neg (by decide), if_neg (by decide), if_neg (by decide), if_neg (by decide), if_pos rfl, show iw ((5 : Int) + 1) = 6 by rw [iw_def]; omega]
  refine X_st_5 ha ?_
  refine gI_mk ?_
  cases e : spB α f 5 with
  | false => rw [show b01 false = 0 from rfl, if_pos rfl]; exact h0 e
  | true => rw [show b01 true = 1 from rfl, if_neg (by decide)]; exact h1 e
theorem wc_6 : ∀ i, i < 4 → xi2c (xand (([116, 114, 117, 101] : List Int).getD i 0) 255) = (((WS 6).getD i 0 : Nat) : Int) ∧ (WS 6).getD i 0 < 65536 := by decide +kernel
set_option maxRecDepth 20000 in
theorem X_st_6 {d f : Nat} {μ : Mem} {α : Al} {Q : AV → Mem → Prop} (ha : aX μ α f) (h : Q (xI (b01 (spB α f 6))) μ) : GM (d + 4) 10 [xR 1, xR 106] μ Q := by
  obtain ⟨ht, hf, h5, h6⟩ := ha
  have h160 := ht.2.2
  have hte := te_bd hf
  refine ge_Text_standsHere_1_106 ?_
  rw [h5, h6, iw_s2 hte.1 (by omega)]
  refine wi (fun c => ?_) (fun c => ?_)
  · have c' : te α f - f = 4 := by omega
    have kyz : ∀ (m i : Nat), i + m = 4 → (∀ j, j < i → α.1 8 (f + j) = (WS 6).getD j 0) → DW (d + 4) 10 12 [xR 1, xR 106, xI (i : Int)] μ Q := by
      intro m
      induction m with
      | zero =>
        intro i hi hz
        refine sg_Text_standsHere_1_106_12 ?_
        rw [if_neg (by omega)]
        have e : spB α f 6 = true := spB_iff.2 ⟨c', fun j hj => hz j (by have : j < 4 := hj; omega)⟩
        rw [e] at h
        exact h
      | succ m ih =>
        intro i hi hz
        obtain ⟨w1, w2⟩ := wc_6 i (by omega)
        refine sg_Text_standsHere_1_106_12 ?_
        rw [if_pos (by omega), h5, iw_ad (by omega), ht.1, if_pos (by omega), wb_eq (by omega) (by omega), if_neg (by omega), if_pos (by omega), wb_eq (by omega) (by omega), Int.toNat_natCast, Int.toNat_natCast, w1, wb_eq (by omega) (by omega), wb_eq (by omega) (by omega), ht.2.1 _ (by omega), iw_k1 (by omega)]
        refine wi (fun c2 => ?_) (fun c2 => ?_)
        · refine ih (i + 1) (by omega) (fun j hj => ?_)
          by_cases e : j = i
          · rw [e]; omega
          · exact hz j (by omega)
        · have e : spB α f 6 = false := by
            cases e : spB α f 6 with
            | false => rfl
            | true => have := (spB_iff.1 e).2 i (show i < 4 by omega); omega
          rw [e] at h
          exact h
    exact kyz 4 0 (by omega) (fun j hj => absurd hj (Nat.not_lt_zero j))
  · have e : spB α f 6 = false := by
      cases e : spB α f 6 with
      | false => rfl
      | true => have : te α f - f = 4 := (spB_iff.1 e).1; omega
    rw [e] at h
    exact h
set_option maxRecDepth 20000 in
theorem X_wh_6 {d f : Nat} {μ : Mem} {α : Al} {Q : AV → Mem → Prop} (ha : aX μ α f) (h1 : spB α f 6 = true → Q (xI 6) μ) (h0 : spB α f 6 = false → DW (d + 5) 8 2 [xR 1, xI 7] μ Q) : DW (d + 5) 8 2 [xR 1, xI 6] μ Q := by
  refine sg_Text_wordHere_2 ?_
  rw [if_pos (by decide), if_neg (by decide), if_neg (by decide), if_neg (by decide), if_neg (by decide), if_neg (by decide), if_neg (by decide), if_pos rfl, show iw ((6 : Int) + 1) = 7 by rw [iw_def]; omega]
  refine X_st_6 ha ?_
  refine gI_mk ?_
  cases e : spB α f 6 with
  | false => rw [show b01 false = 0 from rfl, if_pos rfl]; exact h0 e
  | true => rw [show b01 true = 1 from rfl, if_neg (by decide)]; exact h1 e
theorem wc_7 : ∀ i, i < 6 → xi2c (xand (([102, 97, 100, 105, 110, 103] : List Int).getD i 0) 255) = (((WS 7).getD i 0 : Nat) : Int) ∧ (WS 7).getD i 0 < 65536 := by decide +kernel
set_option maxRecDepth 20000 in
theorem X_st_7 {d f : Nat} {μ : Mem} {α : Al} {Q : AV → Mem → Prop} (ha : aX μ α f) (h : Q (xI (b01 (spB α f 7))) μ) : GM (d + 4) 10 [xR 1, xR 107] μ Q := by
  obtain ⟨ht, hf, h5, h6⟩ := ha
  have h160 := ht.2.2
  have hte := te_bd hf
  refine ge_Text_standsHere_1_107 ?_
  rw [h5, h6, iw_s2 hte.1 (by omega)]
  refine wi (fun c => ?_) (fun c => ?_)
  · have c' : te α f - f = 6 := by omega
    have kyz : ∀ (m i : Nat), i + m = 6 → (∀ j, j < i → α.1 8 (f + j) = (WS 7).getD j 0) → DW (d + 4) 10 12 [xR 1, xR 107, xI (i : Int)] μ Q := by
      intro m
      induction m with
      | zero =>
        intro i hi hz
        refine sg_Text_standsHere_1_107_12 ?_
        rw [if_neg (by omega)]
        have e : spB α f 7 = true := spB_iff.2 ⟨c', fun j hj => hz j (by have : j < 6 := hj; omega)⟩
        rw [e] at h
        exact h
      | succ m ih =>
        intro i hi hz
        obtain ⟨w1, w2⟩ := wc_7 i (by omega)
        refine sg_Text_standsHere_1_107_12 ?_
        rw [if_pos (by omega), h5, iw_ad (by omega), ht.1, if_pos (by omega), wb_eq (by omega) (by omega), if_neg (by omega), if_pos (by omega), wb_eq (by omega) (by omega), Int.toNat_natCast, Int.toNat_natCast, w1, wb_eq (by omega) (by omega), wb_eq (by omega) (by omega), ht.2.1 _ (by omega), iw_k1 (by omega)]
        refine wi (fun c2 => ?_) (fun c2 => ?_)
        · refine ih (i + 1) (by omega) (fun j hj => ?_)
          by_cases e : j = i
          · rw [e]; omega
          · exact hz j (by omega)
        · have e : spB α f 7 = false := by
            cases e : spB α f 7 with
            | false => rfl
            | true => have := (spB_iff.1 e).2 i (show i < 6 by omega); omega
          rw [e] at h
          exact h
    exact kyz 6 0 (by omega) (fun j hj => absurd hj (Nat.not_lt_zero j))
  · have e : spB α f 7 = false := by
      cases e : spB α f 7 with
      | false => rfl
      | true => have : te α f - f = 6 := (spB_iff.1 e).1; omega
    rw [e] at h
    exact h
set_option maxRecDepth 20000 in
theorem X_wh_7 {d f : Nat} {μ : Mem} {α : Al} {Q : AV → Mem → Prop} (ha : aX μ α f) (h1 : spB α f 7 = true → Q (xI 7) μ) (h0 : spB α f 7 = false → DW (d + 5) 8 2 [xR 1, xI 8] μ Q) : DW (d + 5) 8 2 [xR 1, xI 7] μ Q := by
  refine sg_Text_wordHere_2 ?_
  rw [if_pos (by decide), if_neg (by decide), if_neg (by decide), if_neg (by decide), if_neg (by decide), if_neg (by decide), if_neg (by decide), if_neg (by decide), if_pos rfl, show iw ((7 : Int) + 1) = 8 by rw [iw_def]; omega]
  refine X_st_7 ha ?_
  refine gI_mk ?_
  cases e : spB α f 7 with
  | false => rw [show b01 false = 0 from rfl, if_pos rfl]; exact h0 e
  | true => rw [show b01 true = 1 from rfl, if_neg (by decide)]; exact h1 e
theorem wc_8 : ∀ i, i < 5 → xi2c (xand (([109, 111, 111, 100, 121] : List Int).getD i 0) 255) = (((WS 8).getD i 0 : Nat) : Int) ∧ (WS 8).getD i 0 < 65536 := by decide +kernel
set_option maxRecDepth 20000 in
theorem X_st_8 {d f : Nat} {μ : Mem} {α : Al} {Q : AV → Mem → Prop} (ha : aX μ α f) (h : Q (xI (b01 (spB α f 8))) μ) : GM (d + 4) 10 [xR 1, xR 108] μ Q := by
  obtain ⟨ht, hf, h5, h6⟩ := ha
  have h160 := ht.2.2
  have hte := te_bd hf
  refine ge_Text_standsHere_1_108 ?_
  rw [h5, h6, iw_s2 hte.1 (by omega)]
  refine wi (fun c => ?_) (fun c => ?_)
  · have c' : te α f - f = 5 := by omega
    have kyz : ∀ (m i : Nat), i + m = 5 → (∀ j, j < i → α.1 8 (f + j) = (WS 8).getD j 0) → DW (d + 4) 10 12 [xR 1, xR 108, xI (i : Int)] μ Q := by
      intro m
      induction m with
      | zero =>
        intro i hi hz
        refine sg_Text_standsHere_1_108_12 ?_
        rw [if_neg (by omega)]
        have e : spB α f 8 = true := spB_iff.2 ⟨c', fun j hj => hz j (by have : j < 5 := hj; omega)⟩
        rw [e] at h
        exact h
      | succ m ih =>
        intro i hi hz
        obtain ⟨w1, w2⟩ := wc_8 i (by omega)
        refine sg_Text_standsHere_1_108_12 ?_
        rw [if_pos (by omega), h5, iw_ad (by omega), ht.1, if_pos (by omega), wb_eq (by omega) (by omega), if_neg (by omega), if_pos (by omega), wb_eq (by omega) (by omega), Int.toNat_natCast, Int.toNat_natCast, w1, wb_eq (by omega) (by omega), wb_eq (by omega) (by omega), ht.2.1 _ (by omega), iw_k1 (by omega)]
        refine wi (fun c2 => ?_) (fun c2 => ?_)
        · refine ih (i + 1) (by omega) (fun j hj => ?_)
          by_cases e : j = i
          · rw [e]; omega
          · exact hz j (by omega)
        · have e : spB α f 8 = false := by
            cases e : spB α f 8 with
            | false => rfl
            | true => have := (spB_iff.1 e).2 i (show i < 5 by omega); omega
          rw [e] at h
          exact h
    exact kyz 5 0 (by omega) (fun j hj => absurd hj (Nat.not_lt_zero j))
  · have e : spB α f 8 = false := by
      cases e : spB α f 8 with
      | false => rfl
      | true => have : te α f - f = 5 := (spB_iff.1 e).1; omega
    rw [e] at h
    exact h
set_option maxRecDepth 20000 in
theorem X_wh_8 {d f : Nat} {μ : Mem} {α : Al} {Q : AV → Mem → Prop} (ha : aX μ α f) (h1 : spB α f 8 = true → Q (xI 8) μ) (h0 : spB α f 8 = false → DW (d + 5) 8 2 [xR 1, xI 9] μ Q) : DW (d + 5) 8 2 [xR 1, xI 8] μ Q := by
  refine sg_Text_wordHere_2 ?_
  rw [if_pos (by decide), if_neg (by decide), if_neg (by decide), if_neg (by decide), if_neg (by decide), if_neg (by decide), if_neg (by decide), if_neg (by decide), if_neg (by decide), if_pos rfl, show iw ((8 : Int) + 1) = 9 by rw [iw_def]; omega]
  refine X_st_8 ha ?_
  refine gI_mk ?_
  cases e : spB α f 8 with
  | false => rw [show b01 false = 0 from rfl, if_pos rfl]; exact h0 e
  | true => rw [show b01 true = 1 from rfl, if_neg (by decide)]; exact h1 e
theorem wc_9 : ∀ i, i < 5 → xi2c (xand (([110, 105, 103, 104, 116] : List Int).getD i 0) 255) = (((WS 9).getD i 0 : Nat) : Int) ∧ (WS 9).getD i 0 < 65536 := by decide +kernel
set_option maxRecDepth 20000 in
theorem X_st_9 {d f : Nat} {μ : Mem} {α : Al} {Q : AV → Mem → Prop} (ha : aX μ α f) (h : Q (xI (b01 (spB α f 9))) μ) : GM (d + 4) 10 [xR 1, xR 109] μ Q := by
  obtain ⟨ht, hf, h5, h6⟩ := ha
  have h160 := ht.2.2
  have hte := te_bd hf
  refine ge_Text_standsHere_1_109 ?_
  rw [h5, h6, iw_s2 hte.1 (by omega)]
  refine wi (fun c => ?_) (fun c => ?_)
  · have c' : te α f - f = 5 := by omega
    have kyz : ∀ (m i : Nat), i + m = 5 → (∀ j, j < i → α.1 8 (f + j) = (WS 9).getD j 0) → DW (d + 4) 10 12 [xR 1, xR 109, xI (i : Int)] μ Q := by
      intro m
      induction m with
      | zero =>
        intro i hi hz
        refine sg_Text_standsHere_1_109_12 ?_
        rw [if_neg (by omega)]
        have e : spB α f 9 = true := spB_iff.2 ⟨c', fun j hj => hz j (by have : j < 5 := hj; omega)⟩
        rw [e] at h
        exact h
      | succ m ih =>
        intro i hi hz
        obtain ⟨w1, w2⟩ := wc_9 i (by omega)
        refine sg_Text_standsHere_1_109_12 ?_
        rw [if_pos (by omega), h5, iw_ad (by omega), ht.1, if_pos (by omega), wb_eq (by omega) (by omega), if_neg (by omega), if_pos (by omega), wb_eq (by omega) (by omega), Int.toNat_natCast, Int.toNat_natCast, w1, wb_eq (by omega) (by omega), wb_eq (by omega) (by omega), ht.2.1 _ (by omega), iw_k1 (by omega)]
        refine wi (fun c2 => ?_) (fun c2 => ?_)
        · refine ih (i + 1) (by omega) (fun j hj => ?_)
          by_cases e : j = i
          · rw [e]; omega
          · exact hz j (by omega)
        · have e : spB α f 9 = false := by
            cases e : spB α f 9 with
            | false => rfl
            | true => have := (spB_iff.1 e).2 i (show i < 5 by omega); omega
          rw [e] at h
          exact h
    exact kyz 5 0 (by omega) (fun j hj => absurd hj (Nat.not_lt_zero j))
  · have e : spB α f 9 = false := by
      cases e : spB α f 9 with
      | false => rfl
      | true => have : te α f - f = 5 := (spB_iff.1 e).1; omega
    rw [e] at h
    exact h
set_option maxRecDepth 20000 in
theorem X_wh_9 {d f : Nat} {μ : Mem} {α : Al} {Q : AV → Mem → Prop} (ha : aX μ α f) (h1 : spB α f 9 = true → Q (xI 9) μ) (h0 : spB α f 9 = false → DW (d + 5) 8 2 [xR 1, xI 10] μ Q) : DW (d + 5) 8 2 [xR 1, xI 9] μ Q := by
  refine sg_Text_wordHere_2 ?_
  rw [if_pos (by decide), if_neg (by decide), if_neg (by decide), if_neg (by decide), if_neg (by decide), if_neg (by decide), if_neg (by decide), if_neg (by decide), if_neg (by decide), if_neg (by decide), if_pos rfl, show iw ((9 : Int) + 1) = 10 by rw [iw_def]; omega]
  refine X_st_9 ha ?_
  refine gI_mk ?_
  cases e : spB α f 9 with
  | false => rw [show b01 false = 0 from rfl, if_pos rfl]; exact h0 e
  | true => rw [show b01 true = 1 from rfl, if_neg (by decide)]; exact h1 e
theorem wc_10 : ∀ i, i < 5 → xi2c (xand (([112, 111, 119, 101, 114] : List Int).getD i 0) 255) = (((WS 10).getD i 0 : Nat) : Int) ∧ (WS 10).getD i 0 < 65536 := by decide +kernel
set_option maxRecDepth 20000 in
theorem X_st_10 {d f : Nat} {μ : Mem} {α : Al} {Q : AV → Mem → Prop} (ha : aX μ α f) (h : Q (xI (b01 (spB α f 10))) μ) : GM (d + 4) 10 [xR 1, xR 110] μ Q := by
  obtain ⟨ht, hf, h5, h6⟩ := ha
  have h160 := ht.2.2
  have hte := te_bd hf
  refine ge_Text_standsHere_1_110 ?_
  rw [h5, h6, iw_s2 hte.1 (by omega)]
  refine wi (fun c => ?_) (fun c => ?_)
  · have c' : te α f - f = 5 := by omega
    have kyz : ∀ (m i : Nat), i + m = 5 → (∀ j, j < i → α.1 8 (f + j) = (WS 10).getD j 0) → DW (d + 4) 10 12 [xR 1, xR 110, xI (i : Int)] μ Q := by
      intro m
      induction m with
      | zero =>
        intro i hi hz
        refine sg_Text_standsHere_1_110_12 ?_
        rw [if_neg (by omega)]
        have e : spB α f 10 = true := spB_iff.2 ⟨c', fun j hj => hz j (by have : j < 5 := hj; omega)⟩
        rw [e] at h
        exact h
      | succ m ih =>
        intro i hi hz
        obtain ⟨w1, w2⟩ := wc_10 i (by omega)
        refine sg_Text_standsHere_1_110_12 ?_
        rw [if_pos (by omega), h5, iw_ad (by omega), ht.1, if_pos (by omega), wb_eq (by omega) (by omega), if_neg (by omega), if_pos (by omega), wb_eq (by omega) (by omega), Int.toNat_natCast, Int.toNat_natCast, w1, wb_eq (by omega) (by omega), wb_eq (by omega) (by omega), ht.2.1 _ (by omega), iw_k1 (by omega)]
        refine wi (fun c2 => ?_) (fun c2 => ?_)
        · refine ih (i + 1) (by omega) (fun j hj => ?_)
          by_cases e : j = i
          · rw [e]; omega
          · exact hz j (by omega)
        · have e : spB α f 10 = false := by
            cases e : spB α f 10 with
            | false => rfl
            | true => have := (spB_iff.1 e).2 i (show i < 5 by omega); omega
          rw [e] at h
          exact h
    exact kyz 5 0 (by omega) (fun j hj => absurd hj (Nat.not_lt_zero j))
  · have e : spB α f 10 = false := by
      cases e : spB α f 10 with
      | false => rfl
      | true => have : te α f - f = 5 := (spB_iff.1 e).1; omega
    rw [e] at h
    exact h
set_option maxRecDepth 20000 in
theorem X_wh_10 {d f : Nat} {μ : Mem} {α : Al} {Q : AV → Mem → Prop} (ha : aX μ α f) (h1 : spB α f 10 = true → Q (xI 10) μ) (h0 : spB α f 10 = false → DW (d + 5) 8 2 [xR 1, xI 11] μ Q) : DW (d + 5) 8 2 [xR 1, xI 10] μ Q := by
  refine sg_Text_wordHere_2 ?_
  rw [if_pos (by decide), if_neg (by decide), if_neg (by decide), if_neg (by decide), if_neg (by decide), if_neg (by decide), if_neg (by decide), if_neg (by decide), if_neg (by decide), if_neg (by decide), if_neg (by decide), show iw ((10 : Int) + 1) = 11 by rw [iw_def]; omega]
  refine X_st_10 ha ?_
  refine gI_mk ?_
  cases e : spB α f 10 with
  | false => rw [show b01 false = 0 from rfl, if_pos rfl]; exact h0 e
  | true => rw [show b01 true = 1 from rfl, if_neg (by decide)]; exact h1 e
theorem X_wordHere_ok {d f : Nat} {μ : Mem} {α : Al} {Q : AV → Mem → Prop} (ha : aX μ α f) (h : Q (xI (if wx α f < 11 then ((wx α f : Nat) : Int) else -1)) μ) : GM (d + 5) 8 [xR 1] μ Q := by
  have hit : ∀ w, w < 11 → spB α f w = true → Q (xI ((w : Nat) : Int)) μ := fun w hw e => by
    rw [wx_is hw e, if_pos hw] at h
    exact h
  refine ge_Text_wordHere ?_
  refine X_wh_0 ha (fun e => hit 0 (by decide) e) (fun e0 => ?_)
  refine X_wh_1 ha (fun e => hit 1 (by decide) e) (fun e1 => ?_)
  refine X_wh_2 ha (fun e => hit 2 (by decide) e) (fun e2 => ?_)
  refine X_wh_3 ha (fun e => hit 3 (by decide) e) (fun e3 => ?_)
  refine X_wh_4 ha (fun e => hit 4 (by decide) e) (fun e4 => ?_)
  refine X_wh_5 ha (fun e => hit 5 (by decide) e) (fun e5 => ?_)
  refine X_wh_6 ha (fun e => hit 6 (by decide) e) (fun e6 => ?_)
  refine X_wh_7 ha (fun e => hit 7 (by decide) e) (fun e7 => ?_)
  refine X_wh_8 ha (fun e => hit 8 (by decide) e) (fun e8 => ?_)
  refine X_wh_9 ha (fun e => hit 9 (by decide) e) (fun e9 => ?_)
  refine X_wh_10 ha (fun e => hit 10 (by decide) e) (fun e10 => ?_)
  refine sg_Text_wordHere_2 ?_
  rw [if_neg (by decide)]
  have e : wx α f = 11 := wx_no (fun w hw => by
    rcases (show w = 0 ∨ w = 1 ∨ w = 2 ∨ w = 3 ∨ w = 4 ∨ w = 5 ∨ w = 6 ∨ w = 7 ∨ w = 8 ∨ w = 9 ∨ w = 10 by omega) with e | e | e | e | e | e | e | e | e | e | e <;> subst e <;> assumption)
  rw [e, if_neg (by decide)] at h
  exact h
