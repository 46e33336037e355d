/-! the class: numbers -/
theorem iw_vd2 {a c : Nat} (ha : a < 1000) (hc : 48 ≤ c) (hc2 : c ≤ 57) : iw (iw (iw ((a : Int) * 10) + (c : Int)) - 48) = ((10 * a + (c - 48) : Nat) : Int) := by
  rw [iw_id (x := (a : Int) * 10) (by omega) (by omega), iw_id (x := (a : Int) * 10 + (c : Int)) (by omega) (by omega), iw_id (by omega) (by omega)]
  omega
theorem X_number_ok {d f : Nat} {μ : Mem} {α : Al} {Q : AV → Mem → Prop} (ha : aX μ α f) (h : Q (xI (if nuB α f then ((vd α f (te α f - f) : Nat) : Int) else -1)) μ) : GM (d + 1) 23 [xR 1] μ Q := by
  obtain ⟨ht, hf, h5, h6⟩ := ha
  have h160 := ht.2.2
  have hte := te_bd hf
  refine ge_Text_numberHere ?_
  rw [h5, h6, iw_s2 hte.1 (by omega)]
  refine wi (fun c => ?_) (fun c => ?_)
  · have hn : ¬ f < α.1 0 3 := fun q => by have := te_lt q; omega
    have e : nuB α f = false := by unfold nuB; rw [decide_eq_false hn, Bool.false_and]
    rw [e] at h
    exact h
  have hn : f < α.1 0 3 := by
    apply Decidable.byContradiction
    intro q
    have := te_n q
    omega
  refine wi (fun c2 => ?_) (fun c2 => ?_)
  · have e : nuB α f = false := by unfold nuB; rw [decide_eq_false (show ¬ te α f - f ≤ 2 by omega), Bool.and_false, Bool.and_false]
    rw [e] at h
    exact h
  rw [wb_eq (by omega) (by omega), Int.toNat_natCast, ht.2.1 f hn]
  have nd : ¬ (48 ≤ α.1 8 f ∧ α.1 8 f ≤ 57) → Q (xI (-1)) μ := fun q => by
    have e : nuB α f = false := by
      have : isD (α.1 8 f) = false := by
        cases e : isD (α.1 8 f) with
        | false => rfl
        | true => exact absurd (isD_iff.1 e) q
      unfold nuB; rw [this, Bool.false_and, Bool.and_false]
    rw [e] at h
    exact h
  refine wi (fun c3 => ?_) (fun c3 => ?_)
  · exact nd (by omega)
  refine wi (fun c4 => ?_) (fun c4 => ?_)
  · exact nd (by omega)
  have q : isD (α.1 8 f) = true := isD_iff.2 (by omega)
  have e : nuB α f = true := by unfold nuB; rw [decide_eq_true hn, q, decide_eq_true (show te α f - f ≤ 2 by omega)]; rfl
  rw [e, if_pos rfl] at h
  have hd : ∀ j, f ≤ j → j < te α f → 48 ≤ α.1 8 j ∧ α.1 8 j ≤ 57 := fun j a1 a2 => isD_iff.1 (rn_in isD (α.1 8) (α.1 0 3 - f) f j a1 (by rw [← te_D hn q]; exact a2))
  have kyz : ∀ (m k : Nat) (v1 : AV), k + m = te α f - f → DW (d + 1) 23 26 [xR 1, v1, xI ((vd α f k : Nat) : Int), xI ((f + k : Nat) : Int)] μ Q := by
    intro m
    induction m with
    | zero =>
      intro k v1 hk
      refine sg_Text_numberHere_26 ?_
      rw [h6, if_neg (by omega), show k = te α f - f by omega]
      exact h
    | succ m ih =>
      intro k v1 hk
      have hdk := hd (f + k) (by omega) (by omega)
      have hlt := vd_lt (α := α) (f := f) k (fun j hj => (hd (f + j) (by omega) (by omega)).2)
      have hp : 10 ^ k ≤ 10 ^ 2 := Nat.pow_le_pow_right (n := 10) (by decide) (by omega)
      refine sg_Text_numberHere_26 ?_
      rw [h6, if_pos (by omega), wb_eq (by omega) (by omega), Int.toNat_natCast, ht.2.1 _ (by omega), iw_vd2 (by omega) hdk.1 hdk.2, iw_k1 (by omega)]
      exact ih (k + 1) _ (by omega)
  exact kyz (te α f - f) 0 _ (by omega)
def fXN (k : Nat) (μ μ' : Mem) : Prop := ∀ c j, (c ≠ 1 ∨ (j ≠ 5 ∧ j ≠ 6)) → (c ≠ 15 ∨ (j < 4 * k ∨ 4 * k + 4 ≤ j)) → μ' c j = μ c j
theorem fXN_S {k : Nat} {μ ν κ : Mem} (h : fXN k μ ν) (g : fS ν κ) : fXN k μ κ := fun c j a b => (g c j a).trans (h c j a b)
theorem fXN_t {k : Nat} {μ ν κ : Mem} (h : fXN k μ ν) (g : fXN k ν κ) : fXN k μ κ := fun c j a b => (g c j a b).trans (h c j a b)
theorem fXN_r (k : Nat) (μ : Mem) : fXN k μ μ := fun _ _ _ _ => rfl
theorem tX_fXN {k : Nat} {μ ν : Mem} {α : Al} (h : fXN k μ ν) (g : tX μ α) : tX ν α := tX_of (h 1 1 (by decide) (Or.inl (by decide))) (fun i => h 13 i (Or.inl (by decide)) (Or.inl (by decide))) g
theorem X_num1 {d i : Nat} {μ : Mem} {α : Al} {Q : AV → Mem → Prop} {R : Int → Mem → Prop} (ht : tX μ α) (hi : i ≤ α.1 0 3) (h6 : μ 1 6 = (i : Int)) (h0 : nuB α (bl α i) = false → ∀ μ', fS μ μ' → μ' 1 5 = ((bl α i : Nat) : Int) → Q (xI 0) μ') (h1 : nuB α (bl α i) = true → ∀ μ', fS μ μ' → aX μ' α (bl α i) → R ((vd α (bl α i) (te α (bl α i) - bl α i) : Nat) : Int) μ') : GM (d + 3) 5 [xR 1] μ (gV (fun m1 => GM (d + 3) 23 [xR 1] m1 (gI (fun r3 m2 => if r3 = (-1) then (Q (xI 0) m2) else R r3 m2)))) := by
  have hb := bl_bd hi
  refine X_step_ok ht hi h6 (fun m1 f1 e5 e6 => ?_)
  refine gV_mk ?_
  have ha : aX m1 α (bl α i) := ⟨tX_fS f1 ht, hb.2, e5, e6⟩
  refine X_number_ok ha ?_
  refine gI_mk ?_
  cases e : nuB α (bl α i) with
  | false =>
    rw [if_neg (show ¬ false = true by decide), if_pos rfl]
    exact h0 e m1 f1 e5
  | true =>
    rw [if_pos rfl, if_neg (by omega)]
    exact h1 e m1 f1 ha
theorem X_bd_L {d : Nat} {μ : Mem} {Q : AV → Mem → Prop} (h : Q (xI 3) μ) : GM d 24 [xR 1, xI 76] μ Q := by
  refine ge_Text_bound ?_
  rw [if_neg (by decide), if_pos rfl]
  exact h
theorem X_bd_K {d : Nat} {μ : Mem} {Q : AV → Mem → Prop} {P : Nat} (c7 : μ 1 7 = (P : Int)) (h : Q (xI (P : Int)) μ) : GM d 24 [xR 1, xI 75] μ Q := by
  refine ge_Text_bound ?_
  rw [if_pos rfl, c7]
  exact h
theorem X_bd_W {d : Nat} {μ : Mem} {Q : AV → Mem → Prop} (h : Q (xI 4) μ) : GM d 24 [xR 1, xI 87] μ Q := by
  refine ge_Text_bound ?_
  rw [if_neg (by decide), if_neg (by decide), if_neg (by decide), if_neg (by decide), if_neg (by decide), if_neg (by decide), if_neg (by decide), if_neg (by decide), if_neg (by decide), if_neg (by decide), if_neg (by decide), if_neg (by decide), if_pos rfl]
  exact h
theorem X_bd_P {d : Nat} {μ : Mem} {Q : AV → Mem → Prop} (h : Q (xI 10) μ) : GM d 24 [xR 1, xI 80] μ Q := by
  refine ge_Text_bound ?_
  rw [if_neg (by decide), if_neg (by decide), if_neg (by decide), if_neg (by decide), if_neg (by decide), if_pos rfl]
  exact h
theorem X_bd_S {d : Nat} {μ : Mem} {Q : AV → Mem → Prop} {P : Nat} (hP : P ≤ 5) (c7 : μ 1 7 = (P : Int)) (h : Q (xI ((2 ^ P : Nat) : Int)) μ) : GM d 24 [xR 1, xI 83] μ Q := by
  refine ge_Text_bound ?_
  rw [if_neg (by decide), if_neg (by decide), if_neg (by decide), if_neg (by decide), if_neg (by decide), if_neg (by decide), if_neg (by decide), if_neg (by decide), if_pos rfl, c7, sp_one (by omega)]
  exact h
theorem X_bd_I {d : Nat} {μ : Mem} {Q : AV → Mem → Prop} {T : Nat} (c8 : μ 1 8 = (T : Int)) (h : Q (xI (T : Int)) μ) : GM d 24 [xR 1, xI 73] μ Q := by
  refine ge_Text_bound ?_
  rw [if_neg (by decide), if_neg (by decide), if_neg (by decide), if_neg (by decide), if_neg (by decide), if_neg (by decide), if_neg (by decide), if_neg (by decide), if_neg (by decide), if_neg (by decide), if_neg (by decide), if_neg (by decide), if_neg (by decide), c8]
  exact h
set_option maxRecDepth 20000 in
theorem X_rs_111_0 {d k i : Nat} {v4 : AV} {μ : Mem} {α : Al} {Q : AV → Mem → Prop} (ht : tX μ α) (hi : i ≤ α.1 0 3) (h6 : μ 1 6 = (i : Int)) (hk : k < 14) (h0 : nok α (bl α i) (3) = false → ∀ μ', fS μ μ' → μ' 1 5 = ((bl α i : Nat) : Int) → Q (xI 0) μ') (h1 : nok α (bl α i) (3) = true → ∀ μ' v4, fXN k μ μ' → μ' 1 6 = ((te α (bl α i) : Nat) : Int) → μ' 15 (4 * k + 0) = ((vd α (bl α i) (te α (bl α i) - bl α i) : Nat) : Int) → (∀ q, q ≠ 4 * k + 0 → μ' 15 q = μ 15 q) → DW (d + 4) 22 2 [xR 1, xI (k : Int), xR 111, xI 1, v4] μ' Q) : DW (d + 4) 22 2 [xR 1, xI (k : Int), xR 111, xI 0, v4] μ Q := by
  have ei : iw (iw ((k : Int) * 4) + 0) = ((4 * k + 0 : Nat) : Int) := by
    have := iw_44 (p := k) (u := 0) (by omega) (by omega)
    exact this
  refine sg_Text_readNumbers_1_111_2 ?_
  rw [if_pos (by decide), if_pos (by decide)]
  skip
  refine X_num1 ht hi h6 (fun q μ' f' e5 => h0 (by unfold nok; rw [q, Bool.false_and]) μ' f' e5) (fun q m2 f2 ha => ?_)
  have ec : xi2c (xand (([76, 75] : List Int).getD (Int.toNat 0) 0) 255) = 76 := by decide +kernel
  rw [if_neg (by decide), if_pos (by decide), wb_eq (by decide) (by decide), ec, wb_eq (by decide) (by decide), wb_eq (by decide) (by decide), ei, show iw ((0 : Int) + 1) = 1 by rw [iw_def]; omega]
  refine X_bd_L ?_
  refine gI_mk ?_
  refine wi (fun c => ?_) (fun c => ?_)
  · rw [wb_eq (by omega) (by omega), Int.toNat_natCast]
    refine h1 (by unfold nok; rw [q, Bool.true_and, decide_eq_true (by omega)]) _ _ (fun c j a1 a2 => by rw [xs_if, if_neg (by omega)]; exact f2 c j a1) (by rw [xs_c (by decide)]; exact ha.2.2.2) xs_s (fun q hq => by rw [xs_j hq]; exact f2 15 q (Or.inl (by decide)))
  · exact h0 (by unfold nok; rw [q, Bool.true_and, decide_eq_false (by omega)]) m2 f2 ha.2.2.1
set_option maxRecDepth 20000 in
theorem X_rs_111_1 {d k i : Nat} {v4 : AV} {μ : Mem} {α : Al} {Q : AV → Mem → Prop} {P : Nat} (c7 : μ 1 7 = (P : Int)) (ht : tX μ α) (hi : i ≤ α.1 0 3) (h6 : μ 1 6 = (i : Int)) (hk : k < 14) (h0 : nok α (bl α i) (P) = false → ∀ μ', fS μ μ' → μ' 1 5 = ((bl α i : Nat) : Int) → Q (xI 0) μ') (h1 : nok α (bl α i) (P) = true → ∀ μ' v4, fXN k μ μ' → μ' 1 6 = ((te α (bl α i) : Nat) : Int) → μ' 15 (4 * k + 1) = ((vd α (bl α i) (te α (bl α i) - bl α i) : Nat) : Int) → (∀ q, q ≠ 4 * k + 1 → μ' 15 q = μ 15 q) → DW (d + 4) 22 2 [xR 1, xI (k : Int), xR 111, xI 2, v4] μ' Q) : DW (d + 4) 22 2 [xR 1, xI (k : Int), xR 111, xI 1, v4] μ Q := by
  have ei : iw (iw ((k : Int) * 4) + 1) = ((4 * k + 1 : Nat) : Int) := by
    have := iw_44 (p := k) (u := 1) (by omega) (by omega)
    exact this
  refine sg_Text_readNumbers_1_111_2 ?_
  rw [if_pos (by decide), if_pos (by decide)]
  skip
  refine X_num1 ht hi h6 (fun q μ' f' e5 => h0 (by unfold nok; rw [q, Bool.false_and]) μ' f' e5) (fun q m2 f2 ha => ?_)
  have ec : xi2c (xand (([76, 75] : List Int).getD (Int.toNat 1) 0) 255) = 75 := by decide +kernel
  rw [if_neg (by decide), if_pos (by decide), wb_eq (by decide) (by decide), ec, wb_eq (by decide) (by decide), wb_eq (by decide) (by decide), ei, show iw ((1 : Int) + 1) = 2 by rw [iw_def]; omega]
  refine X_bd_K ((f2 1 7 (by decide)).trans c7) ?_
  refine gI_mk ?_
  refine wi (fun c => ?_) (fun c => ?_)
  · rw [wb_eq (by omega) (by omega), Int.toNat_natCast]
    refine h1 (by unfold nok; rw [q, Bool.true_and, decide_eq_true (by exact Int.ofNat_lt.1 c)]) _ _ (fun c j a1 a2 => by rw [xs_if, if_neg (by omega)]; exact f2 c j a1) (by rw [xs_c (by decide)]; exact ha.2.2.2) xs_s (fun q hq => by rw [xs_j hq]; exact f2 15 q (Or.inl (by decide)))
  · exact h0 (by unfold nok; rw [q, Bool.true_and, decide_eq_false (by exact fun z => c (Int.ofNat_lt.2 z))]) m2 f2 ha.2.2.1
theorem X_rs_111_e {d k : Nat} {v4 : AV} {μ : Mem} {Q : AV → Mem → Prop} (h : Q (xI 1) μ) : DW (d + 4) 22 2 [xR 1, xI (k : Int), xR 111, xI 2, v4] μ Q := by
  refine sg_Text_readNumbers_1_111_2 ?_
  rw [if_neg (by decide)]
  exact h
theorem X_rns_111 {d k i P T : Nat} {μ : Mem} {α : Al} {Q : AV → Mem → Prop} (ht : tX μ α) (hi : i ≤ α.1 0 3) (h6 : μ 1 6 = (i : Int)) (hk : k < 14) (hP : P ≤ 5) (c7 : μ 1 7 = (P : Int)) (c8 : μ 1 8 = (T : Int)) (h0 : ∀ f, pns α [3, P] i = .inl f → (fun f => ∀ μ', fXN k μ μ' → μ' 1 5 = ((f : Nat) : Int) → Q (xI 0) μ') f) (h1 : ∀ x, pns α [3, P] i = .inr x → (fun x => ∀ μ', fXN k μ μ' → μ' 1 6 = ((x.2 : Nat) : Int) → (∀ j, j < (x.1).length → μ' 15 (4 * k + j) = (((x.1).getD j 0 : Nat) : Int)) → Q (xI 1) μ') x) : GM (d + 4) 22 [xR 1, xI (k : Int), xR 111] μ Q := by
  refine ge_Text_readNumbers_1_111 ?_
  obtain ⟨s00, s01⟩ := pns_step (R0 := fun f => ∀ μ', fXN k μ μ' → μ' 1 5 = ((f : Nat) : Int) → Q (xI 0) μ') (R1 := fun x => ∀ μ', fXN k μ μ' → μ' 1 6 = ((x.2 : Nat) : Int) → (∀ j, j < (x.1).length → μ' 15 (4 * k + j) = (((x.1).getD j 0 : Nat) : Int)) → Q (xI 1) μ') h0 h1
  refine X_rs_111_0 (tX_fXN (fXN_r k μ) ht) hi h6 hk (fun q μ' f' e5 => s00 q μ' (fXN_S (fXN_r k μ) f') e5) (fun q m1 v4 g0 e60 ev0 eo0 => ?_)
  have F0 := fXN_t (fXN_r k μ) g0
  have hb0 := bl_bd hi
  have ht0 := te_bd hb0.2
  obtain ⟨n00, n01⟩ := s01 q
  generalize vd α (bl α i) (te α (bl α i) - bl α i) = v0 at ev0 n01
  generalize te α (bl α i) = i0 at ht0 e60 n00 n01
  obtain ⟨s10, s11⟩ := pns_step (R0 := fun f => ∀ μ', fXN k μ μ' → μ' 1 5 = ((f : Nat) : Int) → Q (xI 0) μ') (R1 := fun x => ∀ μ', fXN k μ μ' → μ' 1 6 = ((x.2 : Nat) : Int) → (∀ j, j < (v0 :: x.1).length → μ' 15 (4 * k + j) = (((v0 :: x.1).getD j 0 : Nat) : Int)) → Q (xI 1) μ') n00 n01
  refine X_rs_111_1 ((F0 1 7 (by decide) (Or.inl (by decide))).trans c7) (tX_fXN F0 ht) ht0.2 e60 hk (fun q μ' f' e5 => s10 q μ' (fXN_S F0 f') e5) (fun q m2 v4 g1 e61 ev1 eo1 => ?_)
  have F1 := fXN_t F0 g1
  have hb1 := bl_bd ht0.2
  have ht1 := te_bd hb1.2
  obtain ⟨n10, n11⟩ := s11 q
  generalize vd α (bl α i0) (te α (bl α i0) - bl α i0) = v1 at ev1 n11
  generalize te α (bl α i0) = i1 at ht1 e61 n10 n11
  have V1_0 : m2 15 (4 * k + 0) = (v0 : Int) := (eo1 _ (by omega)).trans ev0
  refine X_rs_111_e ?_
  refine n11 _ rfl m2 F1 e61 (fun j hj => ?_)
  have hj' : j < 2 := hj
  rcases (show j = 0 ∨ j = 1 by omega) with e | e <;> subst e
  · exact V1_0
  · exact ev1
set_option maxRecDepth 20000 in
theorem X_rs_112_0 {d k i : Nat} {v4 : AV} {μ : Mem} {α : Al} {Q : AV → Mem → Prop} (ht : tX μ α) (hi : i ≤ α.1 0 3) (h6 : μ 1 6 = (i : Int)) (hk : k < 14) (h0 : nok α (bl α i) (3) = false → ∀ μ', fS μ μ' → μ' 1 5 = ((bl α i : Nat) : Int) → Q (xI 0) μ') (h1 : nok α (bl α i) (3) = true → ∀ μ' v4, fXN k μ μ' → μ' 1 6 = ((te α (bl α i) : Nat) : Int) → μ' 15 (4 * k + 0) = ((vd α (bl α i) (te α (bl α i) - bl α i) : Nat) : Int) → (∀ q, q ≠ 4 * k + 0 → μ' 15 q = μ 15 q) → DW (d + 4) 22 2 [xR 1, xI (k : Int), xR 112, xI 1, v4] μ' Q) : DW (d + 4) 22 2 [xR 1, xI (k : Int), xR 112, xI 0, v4] μ Q := by
  have ei : iw (iw ((k : Int) * 4) + 0) = ((4 * k + 0 : Nat) : Int) := by
    have := iw_44 (p := k) (u := 0) (by omega) (by omega)
    exact this
  refine sg_Text_readNumbers_1_112_2 ?_
  rw [if_pos (by decide), if_pos (by decide)]
  skip
  refine X_num1 ht hi h6 (fun q μ' f' e5 => h0 (by unfold nok; rw [q, Bool.false_and]) μ' f' e5) (fun q m2 f2 ha => ?_)
  have ec : xi2c (xand (([76, 75, 87] : List Int).getD (Int.toNat 0) 0) 255) = 76 := by decide +kernel
  rw [if_neg (by decide), if_pos (by decide), wb_eq (by decide) (by decide), ec, wb_eq (by decide) (by decide), wb_eq (by decide) (by decide), ei, show iw ((0 : Int) + 1) = 1 by rw [iw_def]; omega]
  refine X_bd_L ?_
  refine gI_mk ?_
  refine wi (fun c => ?_) (fun c => ?_)
  · rw [wb_eq (by omega) (by omega), Int.toNat_natCast]
    refine h1 (by unfold nok; rw [q, Bool.true_and, decide_eq_true (by omega)]) _ _ (fun c j a1 a2 => by rw [xs_if, if_neg (by omega)]; exact f2 c j a1) (by rw [xs_c (by decide)]; exact ha.2.2.2) xs_s (fun q hq => by rw [xs_j hq]; exact f2 15 q (Or.inl (by decide)))
  · exact h0 (by unfold nok; rw [q, Bool.true_and, decide_eq_false (by omega)]) m2 f2 ha.2.2.1
set_option maxRecDepth 20000 in
theorem X_rs_112_1 {d k i : Nat} {v4 : AV} {μ : Mem} {α : Al} {Q : AV → Mem → Prop} {P : Nat} (c7 : μ 1 7 = (P : Int)) (ht : tX μ α) (hi : i ≤ α.1 0 3) (h6 : μ 1 6 = (i : Int)) (hk : k < 14) (h0 : nok α (bl α i) (P) = false → ∀ μ', fS μ μ' → μ' 1 5 = ((bl α i : Nat) : Int) → Q (xI 0) μ') (h1 : nok α (bl α i) (P) = true → ∀ μ' v4, fXN k μ μ' → μ' 1 6 = ((te α (bl α i) : Nat) : Int) → μ' 15 (4 * k + 1) = ((vd α (bl α i) (te α (bl α i) - bl α i) : Nat) : Int) → (∀ q, q ≠ 4 * k + 1 → μ' 15 q = μ 15 q) → DW (d + 4) 22 2 [xR 1, xI (k : Int), xR 112, xI 2, v4] μ' Q) : DW (d + 4) 22 2 [xR 1, xI (k : Int), xR 112, xI 1, v4] μ Q := by
  have ei : iw (iw ((k : Int) * 4) + 1) = ((4 * k + 1 : Nat) : Int) := by
    have := iw_44 (p := k) (u := 1) (by omega) (by omega)
    exact this
  refine sg_Text_readNumbers_1_112_2 ?_
  rw [if_pos (by decide), if_pos (by decide)]
  skip
  refine X_num1 ht hi h6 (fun q μ' f' e5 => h0 (by unfold nok; rw [q, Bool.false_and]) μ' f' e5) (fun q m2 f2 ha => ?_)
  have ec : xi2c (xand (([76, 75, 87] : List Int).getD (Int.toNat 1) 0) 255) = 75 := by decide +kernel
  rw [if_neg (by decide), if_pos (by decide), wb_eq (by decide) (by decide), ec, wb_eq (by decide) (by decide), wb_eq (by decide) (by decide), ei, show iw ((1 : Int) + 1) = 2 by rw [iw_def]; omega]
  refine X_bd_K ((f2 1 7 (by decide)).trans c7) ?_
  refine gI_mk ?_
  refine wi (fun c => ?_) (fun c => ?_)
  · rw [wb_eq (by omega) (by omega), Int.toNat_natCast]
    refine h1 (by unfold nok; rw [q, Bool.true_and, decide_eq_true (by exact Int.ofNat_lt.1 c)]) _ _ (fun c j a1 a2 => by rw [xs_if, if_neg (by omega)]; exact f2 c j a1) (by rw [xs_c (by decide)]; exact ha.2.2.2) xs_s (fun q hq => by rw [xs_j hq]; exact f2 15 q (Or.inl (by decide)))
  · exact h0 (by unfold nok; rw [q, Bool.true_and, decide_eq_false (by exact fun z => c (Int.ofNat_lt.2 z))]) m2 f2 ha.2.2.1
set_option maxRecDepth 20000 in
theorem X_rs_112_2 {d k i : Nat} {v4 : AV} {μ : Mem} {α : Al} {Q : AV → Mem → Prop} (ht : tX μ α) (hi : i ≤ α.1 0 3) (h6 : μ 1 6 = (i : Int)) (hk : k < 14) (h0 : nok α (bl α i) (4) = false → ∀ μ', fS μ μ' → μ' 1 5 = ((bl α i : Nat) : Int) → Q (xI 0) μ') (h1 : nok α (bl α i) (4) = true → ∀ μ' v4, fXN k μ μ' → μ' 1 6 = ((te α (bl α i) : Nat) : Int) → μ' 15 (4 * k + 2) = ((vd α (bl α i) (te α (bl α i) - bl α i) : Nat) : Int) → (∀ q, q ≠ 4 * k + 2 → μ' 15 q = μ 15 q) → DW (d + 4) 22 2 [xR 1, xI (k : Int), xR 112, xI 3, v4] μ' Q) : DW (d + 4) 22 2 [xR 1, xI (k : Int), xR 112, xI 2, v4] μ Q := by
  have ei : iw (iw ((k : Int) * 4) + 2) = ((4 * k + 2 : Nat) : Int) := by
    have := iw_44 (p := k) (u := 2) (by omega) (by omega)
    exact this
  refine sg_Text_readNumbers_1_112_2 ?_
  rw [if_pos (by decide), if_pos (by decide)]
  skip
  refine X_num1 ht hi h6 (fun q μ' f' e5 => h0 (by unfold nok; rw [q, Bool.false_and]) μ' f' e5) (fun q m2 f2 ha => ?_)
  have ec : xi2c (xand (([76, 75, 87] : List Int).getD (Int.toNat 2) 0) 255) = 87 := by decide +kernel
  rw [if_neg (by decide), if_pos (by decide), wb_eq (by decide) (by decide), ec, wb_eq (by decide) (by decide), wb_eq (by decide) (by decide), ei, show iw ((2 : Int) + 1) = 3 by rw [iw_def]; omega]
  refine X_bd_W ?_
  refine gI_mk ?_
  refine wi (fun c => ?_) (fun c => ?_)
  · rw [wb_eq (by omega) (by omega), Int.toNat_natCast]
    refine h1 (by unfold nok; rw [q, Bool.true_and, decide_eq_true (by omega)]) _ _ (fun c j a1 a2 => by rw [xs_if, if_neg (by omega)]; exact f2 c j a1) (by rw [xs_c (by decide)]; exact ha.2.2.2) xs_s (fun q hq => by rw [xs_j hq]; exact f2 15 q (Or.inl (by decide)))
  · exact h0 (by unfold nok; rw [q, Bool.true_and, decide_eq_false (by omega)]) m2 f2 ha.2.2.1
theorem X_rs_112_e {d k : Nat} {v4 : AV} {μ : Mem} {Q : AV → Mem → Prop} (h : Q (xI 1) μ) : DW (d + 4) 22 2 [xR 1, xI (k : Int), xR 112, xI 3, v4] μ Q := by
  refine sg_Text_readNumbers_1_112_2 ?_
  rw [if_neg (by decide)]
  exact h
theorem X_rns_112 {d k i P T : Nat} {μ : Mem} {α : Al} {Q : AV → Mem → Prop} (ht : tX μ α) (hi : i ≤ α.1 0 3) (h6 : μ 1 6 = (i : Int)) (hk : k < 14) (hP : P ≤ 5) (c7 : μ 1 7 = (P : Int)) (c8 : μ 1 8 = (T : Int)) (h0 : ∀ f, pns α [3, P, 4] i = .inl f → (fun f => ∀ μ', fXN k μ μ' → μ' 1 5 = ((f : Nat) : Int) → Q (xI 0) μ') f) (h1 : ∀ x, pns α [3, P, 4] i = .inr x → (fun x => ∀ μ', fXN k μ μ' → μ' 1 6 = ((x.2 : Nat) : Int) → (∀ j, j < (x.1).length → μ' 15 (4 * k + j) = (((x.1).getD j 0 : Nat) : Int)) → Q (xI 1) μ') x) : GM (d + 4) 22 [xR 1, xI (k : Int), xR 112] μ Q := by
  refine ge_Text_readNumbers_1_112 ?_
  obtain ⟨s00, s01⟩ := pns_step (R0 := fun f => ∀ μ', fXN k μ μ' → μ' 1 5 = ((f : Nat) : Int) → Q (xI 0) μ') (R1 := fun x => ∀ μ', fXN k μ μ' → μ' 1 6 = ((x.2 : Nat) : Int) → (∀ j, j < (x.1).length → μ' 15 (4 * k + j) = (((x.1).getD j 0 : Nat) : Int)) → Q (xI 1) μ') h0 h1
  refine X_rs_112_0 (tX_fXN (fXN_r k μ) ht) hi h6 hk (fun q μ' f' e5 => s00 q μ' (fXN_S (fXN_r k μ) f') e5) (fun q m1 v4 g0 e60 ev0 eo0 => ?_)
  have F0 := fXN_t (fXN_r k μ) g0
  have hb0 := bl_bd hi
  have ht0 := te_bd hb0.2
  obtain ⟨n00, n01⟩ := s01 q
  generalize vd α (bl α i) (te α (bl α i) - bl α i) = v0 at ev0 n01
  generalize te α (bl α i) = i0 at ht0 e60 n00 n01
  obtain ⟨s10, s11⟩ := pns_step (R0 := fun f => ∀ μ', fXN k μ μ' → μ' 1 5 = ((f : Nat) : Int) → Q (xI 0) μ') (R1 := fun x => ∀ μ', fXN k μ μ' → μ' 1 6 = ((x.2 : Nat) : Int) → (∀ j, j < (v0 :: x.1).length → μ' 15 (4 * k + j) = (((v0 :: x.1).getD j 0 : Nat) : Int)) → Q (xI 1) μ') n00 n01
  refine X_rs_112_1 ((F0 1 7 (by decide) (Or.inl (by decide))).trans c7) (tX_fXN F0 ht) ht0.2 e60 hk (fun q μ' f' e5 => s10 q μ' (fXN_S F0 f') e5) (fun q m2 v4 g1 e61 ev1 eo1 => ?_)
  have F1 := fXN_t F0 g1
  have hb1 := bl_bd ht0.2
  have ht1 := te_bd hb1.2
  obtain ⟨n10, n11⟩ := s11 q
  generalize vd α (bl α i0) (te α (bl α i0) - bl α i0) = v1 at ev1 n11
  generalize te α (bl α i0) = i1 at ht1 e61 n10 n11
  have V1_0 : m2 15 (4 * k + 0) = (v0 : Int) := (eo1 _ (by omega)).trans ev0
  obtain ⟨s20, s21⟩ := pns_step (R0 := fun f => ∀ μ', fXN k μ μ' → μ' 1 5 = ((f : Nat) : Int) → Q (xI 0) μ') (R1 := fun x => ∀ μ', fXN k μ μ' → μ' 1 6 = ((x.2 : Nat) : Int) → (∀ j, j < (v0 :: v1 :: x.1).length → μ' 15 (4 * k + j) = (((v0 :: v1 :: x.1).getD j 0 : Nat) : Int)) → Q (xI 1) μ') n10 n11
  refine X_rs_112_2 (tX_fXN F1 ht) ht1.2 e61 hk (fun q μ' f' e5 => s20 q μ' (fXN_S F1 f') e5) (fun q m3 v4 g2 e62 ev2 eo2 => ?_)
  have F2 := fXN_t F1 g2
  have hb2 := bl_bd ht1.2
  have ht2 := te_bd hb2.2
  obtain ⟨n20, n21⟩ := s21 q
  generalize vd α (bl α i1) (te α (bl α i1) - bl α i1) = v2 at ev2 n21
  generalize te α (bl α i1) = i2 at ht2 e62 n20 n21
  have V2_0 : m3 15 (4 * k + 0) = (v0 : Int) := (eo2 _ (by omega)).trans V1_0
  have V2_1 : m3 15 (4 * k + 1) = (v1 : Int) := (eo2 _ (by omega)).trans ev1
  refine X_rs_112_e ?_
  refine n21 _ rfl m3 F2 e62 (fun j hj => ?_)
  have hj' : j < 3 := hj
  rcases (show j = 0 ∨ j = 1 ∨ j = 2 by omega) with e | e | e <;> subst e
  · exact V2_0
  · exact V2_1
  · exact ev2
set_option maxRecDepth 20000 in
theorem X_rs_113_0 {d k i : Nat} {v4 : AV} {μ : Mem} {α : Al} {Q : AV → Mem → Prop} (ht : tX μ α) (hi : i ≤ α.1 0 3) (h6 : μ 1 6 = (i : Int)) (hk : k < 14) (h0 : nok α (bl α i) (3) = false → ∀ μ', fS μ μ' → μ' 1 5 = ((bl α i : Nat) : Int) → Q (xI 0) μ') (h1 : nok α (bl α i) (3) = true → ∀ μ' v4, fXN k μ μ' → μ' 1 6 = ((te α (bl α i) : Nat) : Int) → μ' 15 (4 * k + 0) = ((vd α (bl α i) (te α (bl α i) - bl α i) : Nat) : Int) → (∀ q, q ≠ 4 * k + 0 → μ' 15 q = μ 15 q) → DW (d + 4) 22 2 [xR 1, xI (k : Int), xR 113, xI 1, v4] μ' Q) : DW (d + 4) 22 2 [xR 1, xI (k : Int), xR 113, xI 0, v4] μ Q := by
  have ei : iw (iw ((k : Int) * 4) + 0) = ((4 * k + 0 : Nat) : Int) := by
    have := iw_44 (p := k) (u := 0) (by omega) (by omega)
    exact this
  refine sg_Text_readNumbers_1_113_2 ?_
  rw [if_pos (by decide)]
  rw [if_pos (by decide)]
  refine X_num1 ht hi h6 (fun q μ' f' e5 => h0 (by unfold nok; rw [q, Bool.false_and]) μ' f' e5) (fun q m2 f2 ha => ?_)
  have ec : xi2c (xand (([76, 75, 87, 80] : List Int).getD (Int.toNat 0) 0) 255) = 76 := by decide +kernel
  rw [if_neg (by decide), if_pos (by decide), wb_eq (by decide) (by decide), ec, wb_eq (by decide) (by decide), wb_eq (by decide) (by decide), ei, show iw ((0 : Int) + 1) = 1 by rw [iw_def]; omega]
  refine X_bd_L ?_
  refine gI_mk ?_
  refine wi (fun c => ?_) (fun c => ?_)
  · rw [wb_eq (by omega) (by omega), Int.toNat_natCast]
    refine h1 (by unfold nok; rw [q, Bool.true_and, decide_eq_true (by omega)]) _ _ (fun c j a1 a2 => by rw [xs_if, if_neg (by omega)]; exact f2 c j a1) (by rw [xs_c (by decide)]; exact ha.2.2.2) xs_s (fun q hq => by rw [xs_j hq]; exact f2 15 q (Or.inl (by decide)))
  · exact h0 (by unfold nok; rw [q, Bool.true_and, decide_eq_false (by omega)]) m2 f2 ha.2.2.1
set_option maxRecDepth 20000 in
theorem X_rs_113_1 {d k i : Nat} {v4 : AV} {μ : Mem} {α : Al} {Q : AV → Mem → Prop} {P : Nat} (c7 : μ 1 7 = (P : Int)) (ht : tX μ α) (hi : i ≤ α.1 0 3) (h6 : μ 1 6 = (i : Int)) (hk : k < 14) (h0 : nok α (bl α i) (P) = false → ∀ μ', fS μ μ' → μ' 1 5 = ((bl α i : Nat) : Int) → Q (xI 0) μ') (h1 : nok α (bl α i) (P) = true → ∀ μ' v4, fXN k μ μ' → μ' 1 6 = ((te α (bl α i) : Nat) : Int) → μ' 15 (4 * k + 1) = ((vd α (bl α i) (te α (bl α i) - bl α i) : Nat) : Int) → (∀ q, q ≠ 4 * k + 1 → μ' 15 q = μ 15 q) → DW (d + 4) 22 2 [xR 1, xI (k : Int), xR 113, xI 2, v4] μ' Q) : DW (d + 4) 22 2 [xR 1, xI (k : Int), xR 113, xI 1, v4] μ Q := by
  have ei : iw (iw ((k : Int) * 4) + 1) = ((4 * k + 1 : Nat) : Int) := by
    have := iw_44 (p := k) (u := 1) (by omega) (by omega)
    exact this
  refine sg_Text_readNumbers_1_113_2 ?_
  rw [if_pos (by decide)]
  rw [if_pos (by decide)]
  refine X_num1 ht hi h6 (fun q μ' f' e5 => h0 (by unfold nok; rw [q, Bool.false_and]) μ' f' e5) (fun q m2 f2 ha => ?_)
  have ec : xi2c (xand (([76, 75, 87, 80] : List Int).getD (Int.toNat 1) 0) 255) = 75 := by decide +kernel
  rw [if_neg (by decide), if_pos (by decide), wb_eq (by decide) (by decide), ec, wb_eq (by decide) (by decide), wb_eq (by decide) (by decide), ei, show iw ((1 : Int) + 1) = 2 by rw [iw_def]; omega]
  refine X_bd_K ((f2 1 7 (by decide)).trans c7) ?_
  refine gI_mk ?_
  refine wi (fun c => ?_) (fun c => ?_)
  · rw [wb_eq (by omega) (by omega), Int.toNat_natCast]
    refine h1 (by unfold nok; rw [q, Bool.true_and, decide_eq_true (by exact Int.ofNat_lt.1 c)]) _ _ (fun c j a1 a2 => by rw [xs_if, if_neg (by omega)]; exact f2 c j a1) (by rw [xs_c (by decide)]; exact ha.2.2.2) xs_s (fun q hq => by rw [xs_j hq]; exact f2 15 q (Or.inl (by decide)))
  · exact h0 (by unfold nok; rw [q, Bool.true_and, decide_eq_false (by exact fun z => c (Int.ofNat_lt.2 z))]) m2 f2 ha.2.2.1
set_option maxRecDepth 20000 in
theorem X_rs_113_2 {d k i : Nat} {v4 : AV} {μ : Mem} {α : Al} {Q : AV → Mem → Prop} (ht : tX μ α) (hi : i ≤ α.1 0 3) (h6 : μ 1 6 = (i : Int)) (hk : k < 14) (h0 : nok α (bl α i) (4) = false → ∀ μ', fS μ μ' → μ' 1 5 = ((bl α i : Nat) : Int) → Q (xI 0) μ') (h1 : nok α (bl α i) (4) = true → ∀ μ' v4, fXN k μ μ' → μ' 1 6 = ((te α (bl α i) : Nat) : Int) → μ' 15 (4 * k + 2) = ((vd α (bl α i) (te α (bl α i) - bl α i) : Nat) : Int) → (∀ q, q ≠ 4 * k + 2 → μ' 15 q = μ 15 q) → DW (d + 4) 22 2 [xR 1, xI (k : Int), xR 113, xI 3, v4] μ' Q) : DW (d + 4) 22 2 [xR 1, xI (k : Int), xR 113, xI 2, v4] μ Q := by
  have ei : iw (iw ((k : Int) * 4) + 2) = ((4 * k + 2 : Nat) : Int) := by
    have := iw_44 (p := k) (u := 2) (by omega) (by omega)
    exact this
  refine sg_Text_readNumbers_1_113_2 ?_
  rw [if_pos (by decide)]
  rw [if_pos (by decide)]
  refine X_num1 ht hi h6 (fun q μ' f' e5 => h0 (by unfold nok; rw [q, Bool.false_and]) μ' f' e5) (fun q m2 f2 ha => ?_)
  have ec : xi2c (xand (([76, 75, 87, 80] : List Int).getD (Int.toNat 2) 0) 255) = 87 := by decide +kernel
  rw [if_neg (by decide), if_pos (by decide), wb_eq (by decide) (by decide), ec, wb_eq (by decide) (by decide), wb_eq (by decide) (by decide), ei, show iw ((2 : Int) + 1) = 3 by rw [iw_def]; omega]
  refine X_bd_W ?_
  refine gI_mk ?_
  refine wi (fun c => ?_) (fun c => ?_)
  · rw [wb_eq (by omega) (by omega), Int.toNat_natCast]
    refine h1 (by unfold nok; rw [q, Bool.true_and, decide_eq_true (by omega)]) _ _ (fun c j a1 a2 => by rw [xs_if, if_neg (by omega)]; exact f2 c j a1) (by rw [xs_c (by decide)]; exact ha.2.2.2) xs_s (fun q hq => by rw [xs_j hq]; exact f2 15 q (Or.inl (by decide)))
  · exact h0 (by unfold nok; rw [q, Bool.true_and, decide_eq_false (by omega)]) m2 f2 ha.2.2.1
set_option maxRecDepth 20000 in
theorem X_rs_113_3 {d k i : Nat} {v4 : AV} {μ : Mem} {α : Al} {Q : AV → Mem → Prop} (ht : tX μ α) (hi : i ≤ α.1 0 3) (h6 : μ 1 6 = (i : Int)) (hk : k < 14) (h0 : nok α (bl α i) (10) = false → ∀ μ', fS μ μ' → μ' 1 5 = ((bl α i : Nat) : Int) → Q (xI 0) μ') (h1 : nok α (bl α i) (10) = true → ∀ μ' v4, fXN k μ μ' → μ' 1 6 = ((te α (bl α i) : Nat) : Int) → μ' 15 (4 * k + 3) = ((vd α (bl α i) (te α (bl α i) - bl α i) : Nat) : Int) → (∀ q, q ≠ 4 * k + 3 → μ' 15 q = μ 15 q) → DW (d + 4) 22 2 [xR 1, xI (k : Int), xR 113, xI 4, v4] μ' Q) : DW (d + 4) 22 2 [xR 1, xI (k : Int), xR 113, xI 3, v4] μ Q := by
  have ei : iw (iw ((k : Int) * 4) + 3) = ((4 * k + 3 : Nat) : Int) := by
    have := iw_44 (p := k) (u := 3) (by omega) (by omega)
    exact this
  refine sg_Text_readNumbers_1_113_2 ?_
  rw [if_pos (by decide)]
  rw [if_pos (by decide)]
  refine X_num1 ht hi h6 (fun q μ' f' e5 => h0 (by unfold nok; rw [q, Bool.false_and]) μ' f' e5) (fun q m2 f2 ha => ?_)
  have ec : xi2c (xand (([76, 75, 87, 80] : List Int).getD (Int.toNat 3) 0) 255) = 80 := by decide +kernel
  rw [if_neg (by decide), if_pos (by decide), wb_eq (by decide) (by decide), ec, wb_eq (by decide) (by decide), wb_eq (by decide) (by decide), ei, show iw ((3 : Int) + 1) = 4 by rw [iw_def]; omega]
  refine X_bd_P ?_
  refine gI_mk ?_
  refine wi (fun c => ?_) (fun c => ?_)
  · rw [wb_eq (by omega) (by omega), Int.toNat_natCast]
    refine h1 (by unfold nok; rw [q, Bool.true_and, decide_eq_true (by omega)]) _ _ (fun c j a1 a2 => by rw [xs_if, if_neg (by omega)]; exact f2 c j a1) (by rw [xs_c (by decide)]; exact ha.2.2.2) xs_s (fun q hq => by rw [xs_j hq]; exact f2 15 q (Or.inl (by decide)))
  · exact h0 (by unfold nok; rw [q, Bool.true_and, decide_eq_false (by omega)]) m2 f2 ha.2.2.1
theorem X_rs_113_e {d k : Nat} {v4 : AV} {μ : Mem} {Q : AV → Mem → Prop} (h : Q (xI 1) μ) : DW (d + 4) 22 2 [xR 1, xI (k : Int), xR 113, xI 4, v4] μ Q := by
  refine sg_Text_readNumbers_1_113_2 ?_
  rw [if_neg (by decide)]
  exact h
theorem X_rns_113 {d k i P T : Nat} {μ : Mem} {α : Al} {Q : AV → Mem → Prop} (ht : tX μ α) (hi : i ≤ α.1 0 3) (h6 : μ 1 6 = (i : Int)) (hk : k < 14) (hP : P ≤ 5) (c7 : μ 1 7 = (P : Int)) (c8 : μ 1 8 = (T : Int)) (h0 : ∀ f, pns α [3, P, 4, 10] i = .inl f → (fun f => ∀ μ', fXN k μ μ' → μ' 1 5 = ((f : Nat) : Int) → Q (xI 0) μ') f) (h1 : ∀ x, pns α [3, P, 4, 10] i = .inr x → (fun x => ∀ μ', fXN k μ μ' → μ' 1 6 = ((x.2 : Nat) : Int) → (∀ j, j < (x.1).length → μ' 15 (4 * k + j) = (((x.1).getD j 0 : Nat) : Int)) → Q (xI 1) μ') x) : GM (d + 4) 22 [xR 1, xI (k : Int), xR 113] μ Q := by
  refine ge_Text_readNumbers_1_113 ?_
  obtain ⟨s00, s01⟩ := pns_step (R0 := fun f => ∀ μ', fXN k μ μ' → μ' 1 5 = ((f : Nat) : Int) → Q (xI 0) μ') (R1 := fun x => ∀ μ', fXN k μ μ' → μ' 1 6 = ((x.2 : Nat) : Int) → (∀ j, j < (x.1).length → μ' 15 (4 * k + j) = (((x.1).getD j 0 : Nat) : Int)) → Q (xI 1) μ') h0 h1
  refine X_rs_113_0 (tX_fXN (fXN_r k μ) ht) hi h6 hk (fun q μ' f' e5 => s00 q μ' (fXN_S (fXN_r k μ) f') e5) (fun q m1 v4 g0 e60 ev0 eo0 => ?_)
  have F0 := fXN_t (fXN_r k μ) g0
  have hb0 := bl_bd hi
  have ht0 := te_bd hb0.2
  obtain ⟨n00, n01⟩ := s01 q
  generalize vd α (bl α i) (te α (bl α i) - bl α i) = v0 at ev0 n01
  generalize te α (bl α i) = i0 at ht0 e60 n00 n01
  obtain ⟨s10, s11⟩ := pns_step (R0 := fun f => ∀ μ', fXN k μ μ' → μ' 1 5 = ((f : Nat) : Int) → Q (xI 0) μ') (R1 := fun x => ∀ μ', fXN k μ μ' → μ' 1 6 = ((x.2 : Nat) : Int) → (∀ j, j < (v0 :: x.1).length → μ' 15 (4 * k + j) = (((v0 :: x.1).getD j 0 : Nat) : Int)) → Q (xI 1) μ') n00 n01
  refine X_rs_113_1 ((F0 1 7 (by decide) (Or.inl (by decide))).trans c7) (tX_fXN F0 ht) ht0.2 e60 hk (fun q μ' f' e5 => s10 q μ' (fXN_S F0 f') e5) (fun q m2 v4 g1 e61 ev1 eo1 => ?_)
  have F1 := fXN_t F0 g1
  have hb1 := bl_bd ht0.2
  have ht1 := te_bd hb1.2
  obtain ⟨n10, n11⟩ := s11 q
  generalize vd α (bl α i0) (te α (bl α i0) - bl α i0) = v1 at ev1 n11
  generalize te α (bl α i0) = i1 at ht1 e61 n10 n11
  have V1_0 : m2 15 (4 * k + 0) = (v0 : Int) := (eo1 _ (by omega)).trans ev0
  obtain ⟨s20, s21⟩ := pns_step (R0 := fun f => ∀ μ', fXN k μ μ' → μ' 1 5 = ((f : Nat) : Int) → Q (xI 0) μ') (R1 := fun x => ∀ μ', fXN k μ μ' → μ' 1 6 = ((x.2 : Nat) : Int) → (∀ j, j < (v0 :: v1 :: x.1).length → μ' 15 (4 * k + j) = (((v0 :: v1 :: x.1).getD j 0 : Nat) : Int)) → Q (xI 1) μ') n10 n11
  refine X_rs_113_2 (tX_fXN F1 ht) ht1.2 e61 hk (fun q μ' f' e5 => s20 q μ' (fXN_S F1 f') e5) (fun q m3 v4 g2 e62 ev2 eo2 => ?_)
  have F2 := fXN_t F1 g2
  have hb2 := bl_bd ht1.2
  have ht2 := te_bd hb2.2
  obtain ⟨n20, n21⟩ := s21 q
  generalize vd α (bl α i1) (te α (bl α i1) - bl α i1) = v2 at ev2 n21
  generalize te α (bl α i1) = i2 at ht2 e62 n20 n21
  have V2_0 : m3 15 (4 * k + 0) = (v0 : Int) := (eo2 _ (by omega)).trans V1_0
  have V2_1 : m3 15 (4 * k + 1) = (v1 : Int) := (eo2 _ (by omega)).trans ev1
  obtain ⟨s30, s31⟩ := pns_step (R0 := fun f => ∀ μ', fXN k μ μ' → μ' 1 5 = ((f : Nat) : Int) → Q (xI 0) μ') (R1 := fun x => ∀ μ', fXN k μ μ' → μ' 1 6 = ((x.2 : Nat) : Int) → (∀ j, j < (v0 :: v1 :: v2 :: x.1).length → μ' 15 (4 * k + j) = (((v0 :: v1 :: v2 :: x.1).getD j 0 : Nat) : Int)) → Q (xI 1) μ') n20 n21
  refine X_rs_113_3 (tX_fXN F2 ht) ht2.2 e62 hk (fun q μ' f' e5 => s30 q μ' (fXN_S F2 f') e5) (fun q m4 v4 g3 e63 ev3 eo3 => ?_)
  have F3 := fXN_t F2 g3
  have hb3 := bl_bd ht2.2
  have ht3 := te_bd hb3.2
  obtain ⟨n30, n31⟩ := s31 q
  generalize vd α (bl α i2) (te α (bl α i2) - bl α i2) = v3 at ev3 n31
  generalize te α (bl α i2) = i3 at ht3 e63 n30 n31
  have V3_0 : m4 15 (4 * k + 0) = (v0 : Int) := (eo3 _ (by omega)).trans V2_0
  have V3_1 : m4 15 (4 * k + 1) = (v1 : Int) := (eo3 _ (by omega)).trans V2_1
  have V3_2 : m4 15 (4 * k + 2) = (v2 : Int) := (eo3 _ (by omega)).trans ev2
  refine X_rs_113_e ?_
  refine n31 _ rfl m4 F3 e63 (fun j hj => ?_)
  have hj' : j < 4 := hj
  rcases (show j = 0 ∨ j = 1 ∨ j = 2 ∨ j = 3 by omega) with e | e | e | e <;> subst e
  · exact V3_0
  · exact V3_1
  · exact V3_2
  · exact ev3
set_option maxRecDepth 20000 in
theorem X_rs_114_0 {d k i : Nat} {v4 : AV} {μ : Mem} {α : Al} {Q : AV → Mem → Prop} {P : Nat} (hP : P ≤ 5) (c7 : μ 1 7 = (P : Int)) (ht : tX μ α) (hi : i ≤ α.1 0 3) (h6 : μ 1 6 = (i : Int)) (hk : k < 14) (h0 : nok α (bl α i) (2 ^ P) = false → ∀ μ', fS μ μ' → μ' 1 5 = ((bl α i : Nat) : Int) → Q (xI 0) μ') (h1 : nok α (bl α i) (2 ^ P) = true → ∀ μ' v4, fXN k μ μ' → μ' 1 6 = ((te α (bl α i) : Nat) : Int) → μ' 15 (4 * k + 0) = ((vd α (bl α i) (te α (bl α i) - bl α i) : Nat) : Int) → (∀ q, q ≠ 4 * k + 0 → μ' 15 q = μ 15 q) → DW (d + 4) 22 2 [xR 1, xI (k : Int), xR 114, xI 1, v4] μ' Q) : DW (d + 4) 22 2 [xR 1, xI (k : Int), xR 114, xI 0, v4] μ Q := by
  have ei : iw (iw ((k : Int) * 4) + 0) = ((4 * k + 0 : Nat) : Int) := by
    have := iw_44 (p := k) (u := 0) (by omega) (by omega)
    exact this
  refine sg_Text_readNumbers_1_114_2 ?_
  rw [if_pos (by decide), if_pos (by decide)]
  skip
  refine X_num1 ht hi h6 (fun q μ' f' e5 => h0 (by unfold nok; rw [q, Bool.false_and]) μ' f' e5) (fun q m2 f2 ha => ?_)
  have ec : xi2c (xand (([83] : List Int).getD (Int.toNat 0) 0) 255) = 83 := by decide +kernel
  rw [if_neg (by decide), if_pos (by decide), wb_eq (by decide) (by decide), ec, wb_eq (by decide) (by decide), wb_eq (by decide) (by decide), ei, show iw ((0 : Int) + 1) = 1 by rw [iw_def]; omega]
  refine X_bd_S hP ((f2 1 7 (by decide)).trans c7) ?_
  refine gI_mk ?_
  refine wi (fun c => ?_) (fun c => ?_)
  · rw [wb_eq (by omega) (by omega), Int.toNat_natCast]
    refine h1 (by unfold nok; rw [q, Bool.true_and, decide_eq_true (by exact Int.ofNat_lt.1 c)]) _ _ (fun c j a1 a2 => by rw [xs_if, if_neg (by omega)]; exact f2 c j a1) (by rw [xs_c (by decide)]; exact ha.2.2.2) xs_s (fun q hq => by rw [xs_j hq]; exact f2 15 q (Or.inl (by decide)))
  · exact h0 (by unfold nok; rw [q, Bool.true_and, decide_eq_false (by exact fun z => c (Int.ofNat_lt.2 z))]) m2 f2 ha.2.2.1
theorem X_rs_114_e {d k : Nat} {v4 : AV} {μ : Mem} {Q : AV → Mem → Prop} (h : Q (xI 1) μ) : DW (d + 4) 22 2 [xR 1, xI (k : Int), xR 114, xI 1, v4] μ Q := by
  refine sg_Text_readNumbers_1_114_2 ?_
  rw [if_neg (by decide)]
  exact h
theorem X_rns_114 {d k i P T : Nat} {μ : Mem} {α : Al} {Q : AV → Mem → Prop} (ht : tX μ α) (hi : i ≤ α.1 0 3) (h6 : μ 1 6 = (i : Int)) (hk : k < 14) (hP : P ≤ 5) (c7 : μ 1 7 = (P : Int)) (c8 : μ 1 8 = (T : Int)) (h0 : ∀ f, pns α [2 ^ P] i = .inl f → (fun f => ∀ μ', fXN k μ μ' → μ' 1 5 = ((f : Nat) : Int) → Q (xI 0) μ') f) (h1 : ∀ x, pns α [2 ^ P] i = .inr x → (fun x => ∀ μ', fXN k μ μ' → μ' 1 6 = ((x.2 : Nat) : Int) → (∀ j, j < (x.1).length → μ' 15 (4 * k + j) = (((x.1).getD j 0 : Nat) : Int)) → Q (xI 1) μ') x) : GM (d + 4) 22 [xR 1, xI (k : Int), xR 114] μ Q := by
  refine ge_Text_readNumbers_1_114 ?_
  obtain ⟨s00, s01⟩ := pns_step (R0 := fun f => ∀ μ', fXN k μ μ' → μ' 1 5 = ((f : Nat) : Int) → Q (xI 0) μ') (R1 := fun x => ∀ μ', fXN k μ μ' → μ' 1 6 = ((x.2 : Nat) : Int) → (∀ j, j < (x.1).length → μ' 15 (4 * k + j) = (((x.1).getD j 0 : Nat) : Int)) → Q (xI 1) μ') h0 h1
  refine X_rs_114_0 hP (((fXN_r k μ) 1 7 (by decide) (Or.inl (by decide))).trans c7) (tX_fXN (fXN_r k μ) ht) hi h6 hk (fun q μ' f' e5 => s00 q μ' (fXN_S (fXN_r k μ) f') e5) (fun q m1 v4 g0 e60 ev0 eo0 => ?_)
  have F0 := fXN_t (fXN_r k μ) g0
  have hb0 := bl_bd hi
  have ht0 := te_bd hb0.2
  obtain ⟨n00, n01⟩ := s01 q
  generalize vd α (bl α i) (te α (bl α i) - bl α i) = v0 at ev0 n01
  generalize te α (bl α i) = i0 at ht0 e60 n00 n01
  refine X_rs_114_e ?_
  refine n01 _ rfl m1 F0 e60 (fun j hj => ?_)
  have hj' : j < 1 := hj
  have e : j = 0 := by omega
  subst e
  · exact ev0
set_option maxRecDepth 20000 in
theorem X_rs_115_0 {d k i : Nat} {v4 : AV} {μ : Mem} {α : Al} {Q : AV → Mem → Prop} {T : Nat} (c8 : μ 1 8 = (T : Int)) (ht : tX μ α) (hi : i ≤ α.1 0 3) (h6 : μ 1 6 = (i : Int)) (hk : k < 14) (h0 : nok α (bl α i) (T) = false → ∀ μ', fS μ μ' → μ' 1 5 = ((bl α i : Nat) : Int) → Q (xI 0) μ') (h1 : nok α (bl α i) (T) = true → ∀ μ' v4, fXN k μ μ' → μ' 1 6 = ((te α (bl α i) : Nat) : Int) → μ' 15 (4 * k + 0) = ((vd α (bl α i) (te α (bl α i) - bl α i) : Nat) : Int) → (∀ q, q ≠ 4 * k + 0 → μ' 15 q = μ 15 q) → DW (d + 4) 22 2 [xR 1, xI (k : Int), xR 115, xI 1, v4] μ' Q) : DW (d + 4) 22 2 [xR 1, xI (k : Int), xR 115, xI 0, v4] μ Q := by
  have ei : iw (iw ((k : Int) * 4) + 0) = ((4 * k + 0 : Nat) : Int) := by
    have := iw_44 (p := k) (u := 0) (by omega) (by omega)
    exact this
  refine sg_Text_readNumbers_1_115_2 ?_
  rw [if_pos (by decide), if_pos (by decide)]
  skip
  refine X_num1 ht hi h6 (fun q μ' f' e5 => h0 (by unfold nok; rw [q, Bool.false_and]) μ' f' e5) (fun q m2 f2 ha => ?_)
  have ec : xi2c (xand (([73, 80] : List Int).getD (Int.toNat 0) 0) 255) = 73 := by decide +kernel
  rw [if_neg (by decide), if_pos (by decide), wb_eq (by decide) (by decide), ec, wb_eq (by decide) (by decide), wb_eq (by decide) (by decide), ei, show iw ((0 : Int) + 1) = 1 by rw [iw_def]; omega]
  refine X_bd_I ((f2 1 8 (by decide)).trans c8) ?_
  refine gI_mk ?_
  refine wi (fun c => ?_) (fun c => ?_)
  · rw [wb_eq (by omega) (by omega), Int.toNat_natCast]
    refine h1 (by unfold nok; rw [q, Bool.true_and, decide_eq_true (by exact Int.ofNat_lt.1 c)]) _ _ (fun c j a1 a2 => by rw [xs_if, if_neg (by omega)]; exact f2 c j a1) (by rw [xs_c (by decide)]; exact ha.2.2.2) xs_s (fun q hq => by rw [xs_j hq]; exact f2 15 q (Or.inl (by decide)))
  · exact h0 (by unfold nok; rw [q, Bool.true_and, decide_eq_false (by exact fun z => c (Int.ofNat_lt.2 z))]) m2 f2 ha.2.2.1
set_option maxRecDepth 20000 in
theorem X_rs_115_1 {d k i : Nat} {v4 : AV} {μ : Mem} {α : Al} {Q : AV → Mem → Prop} (ht : tX μ α) (hi : i ≤ α.1 0 3) (h6 : μ 1 6 = (i : Int)) (hk : k < 14) (h0 : nok α (bl α i) (10) = false → ∀ μ', fS μ μ' → μ' 1 5 = ((bl α i : Nat) : Int) → Q (xI 0) μ') (h1 : nok α (bl α i) (10) = true → ∀ μ' v4, fXN k μ μ' → μ' 1 6 = ((te α (bl α i) : Nat) : Int) → μ' 15 (4 * k + 1) = ((vd α (bl α i) (te α (bl α i) - bl α i) : Nat) : Int) → (∀ q, q ≠ 4 * k + 1 → μ' 15 q = μ 15 q) → DW (d + 4) 22 2 [xR 1, xI (k : Int), xR 115, xI 2, v4] μ' Q) : DW (d + 4) 22 2 [xR 1, xI (k : Int), xR 115, xI 1, v4] μ Q := by
  have ei : iw (iw ((k : Int) * 4) + 1) = ((4 * k + 1 : Nat) : Int) := by
    have := iw_44 (p := k) (u := 1) (by omega) (by omega)
    exact this
  refine sg_Text_readNumbers_1_115_2 ?_
  rw [if_pos (by decide), if_pos (by decide)]
  skip
  refine X_num1 ht hi h6 (fun q μ' f' e5 => h0 (by unfold nok; rw [q, Bool.false_and]) μ' f' e5) (fun q m2 f2 ha => ?_)
  have ec : xi2c (xand (([73, 80] : List Int).getD (Int.toNat 1) 0) 255) = 80 := by decide +kernel
  rw [if_neg (by decide), if_pos (by decide), wb_eq (by decide) (by decide), ec, wb_eq (by decide) (by decide), wb_eq (by decide) (by decide), ei, show iw ((1 : Int) + 1) = 2 by rw [iw_def]; omega]
  refine X_bd_P ?_
  refine gI_mk ?_
  refine wi (fun c => ?_) (fun c => ?_)
  · rw [wb_eq (by omega) (by omega), Int.toNat_natCast]
    refine h1 (by unfold nok; rw [q, Bool.true_and, decide_eq_true (by omega)]) _ _ (fun c j a1 a2 => by rw [xs_if, if_neg (by omega)]; exact f2 c j a1) (by rw [xs_c (by decide)]; exact ha.2.2.2) xs_s (fun q hq => by rw [xs_j hq]; exact f2 15 q (Or.inl (by decide)))
  · exact h0 (by unfold nok; rw [q, Bool.true_and, decide_eq_false (by omega)]) m2 f2 ha.2.2.1
theorem X_rs_115_e {d k : Nat} {v4 : AV} {μ : Mem} {Q : AV → Mem → Prop} (h : Q (xI 1) μ) : DW (d + 4) 22 2 [xR 1, xI (k : Int), xR 115, xI 2, v4] μ Q := by
  refine sg_Text_readNumbers_1_115_2 ?_
  rw [if_neg (by decide)]
  exact h
theorem X_rns_115 {d k i P T : Nat} {μ : Mem} {α : Al} {Q : AV → Mem → Prop} (ht : tX μ α) (hi : i ≤ α.1 0 3) (h6 : μ 1 6 = (i : Int)) (hk : k < 14) (hP : P ≤ 5) (c7 : μ 1 7 = (P : Int)) (c8 : μ 1 8 = (T : Int)) (h0 : ∀ f, pns α [T, 10] i = .inl f → (fun f => ∀ μ', fXN k μ μ' → μ' 1 5 = ((f : Nat) : Int) → Q (xI 0) μ') f) (h1 : ∀ x, pns α [T, 10] i = .inr x → (fun x => ∀ μ', fXN k μ μ' → μ' 1 6 = ((x.2 : Nat) : Int) → (∀ j, j < (x.1).length → μ' 15 (4 * k + j) = (((x.1).getD j 0 : Nat) : Int)) → Q (xI 1) μ') x) : GM (d + 4) 22 [xR 1, xI (k : Int), xR 115] μ Q := by
  refine ge_Text_readNumbers_1_115 ?_
  obtain ⟨s00, s01⟩ := pns_step (R0 := fun f => ∀ μ', fXN k μ μ' → μ' 1 5 = ((f : Nat) : Int) → Q (xI 0) μ') (R1 := fun x => ∀ μ', fXN k μ μ' → μ' 1 6 = ((x.2 : Nat) : Int) → (∀ j, j < (x.1).length → μ' 15 (4 * k + j) = (((x.1).getD j 0 : Nat) : Int)) → Q (xI 1) μ') h0 h1
  refine X_rs_115_0 (((fXN_r k μ) 1 8 (by decide) (Or.inl (by decide))).trans c8) (tX_fXN (fXN_r k μ) ht) hi h6 hk (fun q μ' f' e5 => s00 q μ' (fXN_S (fXN_r k μ) f') e5) (fun q m1 v4 g0 e60 ev0 eo0 => ?_)
  have F0 := fXN_t (fXN_r k μ) g0
  have hb0 := bl_bd hi
  have ht0 := te_bd hb0.2
  obtain ⟨n00, n01⟩ := s01 q
  generalize vd α (bl α i) (te α (bl α i) - bl α i) = v0 at ev0 n01
  generalize te α (bl α i) = i0 at ht0 e60 n00 n01
  obtain ⟨s10, s11⟩ := pns_step (R0 := fun f => ∀ μ', fXN k μ μ' → μ' 1 5 = ((f : Nat) : Int) → Q (xI 0) μ') (R1 := fun x => ∀ μ', fXN k μ μ' → μ' 1 6 = ((x.2 : Nat) : Int) → (∀ j, j < (v0 :: x.1).length → μ' 15 (4 * k + j) = (((v0 :: x.1).getD j 0 : Nat) : Int)) → Q (xI 1) μ') n00 n01
  refine X_rs_115_1 (tX_fXN F0 ht) ht0.2 e60 hk (fun q μ' f' e5 => s10 q μ' (fXN_S F0 f') e5) (fun q m2 v4 g1 e61 ev1 eo1 => ?_)
  have F1 := fXN_t F0 g1
  have hb1 := bl_bd ht0.2
  have ht1 := te_bd hb1.2
  obtain ⟨n10, n11⟩ := s11 q
  generalize vd α (bl α i0) (te α (bl α i0) - bl α i0) = v1 at ev1 n11
  generalize te α (bl α i0) = i1 at ht1 e61 n10 n11
  have V1_0 : m2 15 (4 * k + 0) = (v0 : Int) := (eo1 _ (by omega)).trans ev0
  refine X_rs_115_e ?_
  refine n11 _ rfl m2 F1 e61 (fun j hj => ?_)
  have hj' : j < 2 := hj
  rcases (show j = 0 ∨ j = 1 by omega) with e | e <;> subst e
  · exact V1_0
  · exact ev1
theorem X_rs_116_e {d k : Nat} {v4 : AV} {μ : Mem} {Q : AV → Mem → Prop} (h : Q (xI 1) μ) : DW (d + 4) 22 2 [xR 1, xI (k : Int), xR 116, xI 0, v4] μ Q := by
  refine sg_Text_readNumbers_1_116_2 ?_
  rw [if_neg (by decide)]
  exact h
theorem X_rns_116 {d k i P T : Nat} {μ : Mem} {α : Al} {Q : AV → Mem → Prop} (ht : tX μ α) (hi : i ≤ α.1 0 3) (h6 : μ 1 6 = (i : Int)) (hk : k < 14) (hP : P ≤ 5) (c7 : μ 1 7 = (P : Int)) (c8 : μ 1 8 = (T : Int)) (h0 : ∀ f, pns α [] i = .inl f → (fun f => ∀ μ', fXN k μ μ' → μ' 1 5 = ((f : Nat) : Int) → Q (xI 0) μ') f) (h1 : ∀ x, pns α [] i = .inr x → (fun x => ∀ μ', fXN k μ μ' → μ' 1 6 = ((x.2 : Nat) : Int) → (∀ j, j < (x.1).length → μ' 15 (4 * k + j) = (((x.1).getD j 0 : Nat) : Int)) → Q (xI 1) μ') x) : GM (d + 4) 22 [xR 1, xI (k : Int), xR 116] μ Q := by
  refine ge_Text_readNumbers_1_116 ?_
  refine X_rs_116_e ?_
  exact h1 _ rfl μ (fXN_r k μ) h6 (fun j hj => absurd hj (Nat.not_lt_zero j))
