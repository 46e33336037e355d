/-! the reference: numbers and lines -/
theorem xcmp_e {x y : Int} (h : xcmp x y = 0) : x = y := by
  unfold xcmp at h
  split at h
  · omega
  · split at h
    · assumption
    · omega
theorem xcmp_n {x y : Int} (h : ¬ xcmp x y = 0) : x ≠ y := by
  intro e
  apply h
  unfold xcmp
  rw [e, if_neg (by omega), if_pos rfl]
theorem tv_nu {α : Al} {f : Nat} : tv α f = -1 ↔ nuB α f = true := by
  unfold tv nuB
  by_cases c1 : f < α.1 0 3
  · rw [if_pos c1, decide_eq_true c1, Bool.true_and]
    by_cases c2 : isD (α.1 8 f) = true
    · rw [LD c2, if_neg (by decide), if_pos c2, c2, Bool.true_and, decide_eq_true_eq]
      by_cases c3 : 2 < te α f - f
      · rw [if_pos c3]; omega
      · rw [if_neg c3]; omega
    · have c2' : isD (α.1 8 f) = false := by
        cases e : isD (α.1 8 f) with
        | false => rfl
        | true => exact absurd e c2
      rw [c2', Bool.false_and]
      constructor
      · intro h
        repeat' split at h
        all_goals omega
      · intro h; cases h
  · rw [if_neg c1, decide_eq_false c1, Bool.false_and]
    constructor
    · intro h; omega
    · intro h; cases h
def fN (w : Nat) (μ μ' : Mem) : Prop := ∀ c j, (c ≠ 61 ∨ (j < 8 ∨ 13 < j)) → (c ≠ 66 ∨ j ≠ w) → μ' c j = μ c j
theorem tM_of {μ ν : Mem} {α : Al} (h1 : ν 61 6 = μ 61 6) (h2 : ∀ i, ν 65 i = μ 65 i) (g : tM μ α) : tM ν α := ⟨h1.trans g.1, fun i hi => (h2 i).trans (g.2.1 i hi), g.2.2⟩
theorem tM_fN {w : Nat} {μ ν : Mem} {α : Al} (h : fN w μ ν) (g : tM μ α) : tM ν α := tM_of (h 61 6 (by decide) (Or.inl (by decide))) (fun i => h 65 i (Or.inl (by decide)) (Or.inl (by decide))) g
theorem M_isNumber_ok {d i w b : Nat} {p1 p2 : Int} {μ : Mem} {α : Al} {Q : AV → Mem → Prop} (ht : tM μ α) (hi : i ≤ α.1 0 3) (h8 : μ 61 8 = (i : Int)) (hp1 : p1 = (w : Int)) (hw : w < 70) (hp : p2 = (b : Int) - 1) (h0 : nok α (bl α i) b = false → ∀ μ', fN w μ μ' → μ' 61 13 = ((bl α i : Nat) : Int) → Q (xI 0) μ') (h1 : nok α (bl α i) b = true → ∀ μ', fN w μ μ' → μ' 61 8 = ((te α (bl α i) : Nat) : Int) → μ' 66 w = ((vd α (bl α i) (te α (bl α i) - bl α i) : Nat) : Int) → Q (xI 1) μ') : GM (d + 2) 136 [xR 61, xI p1, xI p2] μ Q := by
  subst hp1
  refine ge_M_isNumber ?_
  refine M_next_tok ht hi h8 (fun m1 f1 e8 e9 e10 e12 => ?_)
  refine gV_mk ?_
  have fail : nok α (bl α i) b = false → Q (xI 0) (xset m1 61 13 (m1 61 9)) := fun q => by
    refine h0 q _ (fun c j a1 a2 => ?_) (by rw [xs_s]; exact e9)
    rw [xs_if, if_neg (by omega)]
    exact f1 c j (by omega)
  refine wi (fun c => ?_) (fun c => ?_)
  · have hnu := tv_nu.1 (e10.symm.trans (xcmp_e c))
    rw [e12 hnu]
    refine wi (fun c2 => ?_) (fun c2 => ?_)
    · rw [e12 hnu] at *
      refine fail ?_
      unfold nok
      rw [hnu, Bool.true_and, decide_eq_false (by omega)]
    · rw [wb_eq (by omega) (by omega), Int.toNat_natCast]
      refine h1 ?_ _ (fun c j a1 a2 => ?_) ?_ xs_s
      · unfold nok
        rw [hnu, Bool.true_and, decide_eq_true (by omega)]
      · rw [xs_if, if_neg (by omega)]
        exact f1 c j (by omega)
      · rw [xs_c (by decide)]; exact e8
  · refine fail ?_
    unfold nok
    have hnu : nuB α (bl α i) = false := by
      cases e : nuB α (bl α i) with
      | false => rfl
      | true => exact absurd (e10.trans (tv_nu.2 e)) (xcmp_n c)
    rw [hnu, Bool.false_and]
theorem pns_step {α : Al} {b i : Nat} {bs : List Nat} {R0 : Nat → Prop} {R1 : List Nat × Nat → Prop} (h0 : ∀ f, pns α (b :: bs) i = .inl f → R0 f) (h1 : ∀ x, pns α (b :: bs) i = .inr x → R1 x) : (nok α (bl α i) b = false → R0 (bl α i)) ∧ (nok α (bl α i) b = true → (∀ f, pns α bs (te α (bl α i)) = .inl f → R0 f) ∧ (∀ x, pns α bs (te α (bl α i)) = .inr x → R1 (vd α (bl α i) (te α (bl α i) - bl α i) :: x.1, x.2))) := by
  refine ⟨fun e => h0 _ (by rw [pns, e]; rfl), fun e => ⟨fun f ef => h0 _ (by rw [pns, e, ef]; rfl), fun x ex => h1 _ (by rw [pns, e, ex]; rfl)⟩⟩
def wm (w : Nat) : Nat := [8, 0, 1, 2, 3, 4, 5, 6, 7, 9, 10].getD w 0
def lnM (μ : Mem) (k : Nat) (x : Nat × List Nat) : Prop := μ 66 (5 * k) = ((wm x.1 : Nat) : Int) ∧ ∀ j, j < (if 5 ≤ x.1 ∧ x.1 ≤ 8 then 4 else x.2.length) → μ 66 (5 * k + 1 + j) = ((x.2.getD j 0 : Nat) : Int)
def fL5 (p : Nat) (μ μ' : Mem) : Prop := ∀ c j, (c ≠ 61 ∨ (j < 8 ∨ j = 14 ∨ 17 < j)) → (c ≠ 66 ∨ (j < p ∨ p + 5 ≤ j)) → μ' c j = μ c j
theorem fL5_N {p w : Nat} {μ ν κ : Mem} (h : fL5 p μ ν) (g : fN w ν κ) (h1 : p ≤ w) (h2 : w < p + 5) : fL5 p μ κ := fun c j a1 a2 => (g c j (by omega) (by omega)).trans (h c j a1 a2)
def cnM (μ : Mem) (s : St3) : Prop := μ 61 15 = ((s.1 : Nat) : Int) ∧ μ 61 16 = ((s.2.1 : Nat) : Int) ∧ μ 61 17 = ((s.2.2 : Nat) : Int)
theorem cnM_N {w : Nat} {μ ν : Mem} {s : St3} (h : fN w μ ν) (g : cnM μ s) : cnM ν s := ⟨(h 61 15 (by decide) (Or.inl (by decide))).trans g.1, (h 61 16 (by decide) (Or.inl (by decide))).trans g.2.1, (h 61 17 (by decide) (Or.inl (by decide))).trans g.2.2⟩
theorem tM_fL5 {p : Nat} {μ ν : Mem} {α : Al} (h : fL5 p μ ν) (g : tM μ α) : tM ν α := tM_of (h 61 6 (by decide) (Or.inl (by decide))) (fun i => h 65 i (Or.inl (by decide)) (Or.inl (by decide))) g
set_option maxRecDepth 20000 in
theorem M_isThing_ok {d k w i P T N : Nat} {μ : Mem} {α : Al} {Q : AV → Mem → Prop} (ht : tM μ α) (hi : i ≤ α.1 0 3) (h8 : μ 61 8 = (i : Int)) (hk : k < 14) (hw5 : 5 ≤ w) (hw8 : w ≤ 8) (hP : P ≤ 5) (hTT : T ≤ 6) (hc : cnM μ (P, T, N)) (h66 : μ 66 (5 * k) = ((w - 1 : Nat) : Int)) (hF : T = 6 → ∀ μ', fL5 (5 * k) μ μ' → μ' 61 13 = μ 61 9 → Q (xI 0) μ') (h0 : T < 6 → ∀ f, pns α (bnd w P T) i = .inl f → ∀ μ', fL5 (5 * k) μ μ' → μ' 61 13 = ((f : Nat) : Int) → Q (xI 0) μ') (h1 : T < 6 → ∀ x, pns α (bnd w P T) i = .inr x → ∀ μ', fL5 (5 * k) μ μ' → μ' 61 8 = ((x.2 : Nat) : Int) → cnM μ' (P, T + 1, N) → μ' 66 (5 * k) = ((w - 1 : Nat) : Int) → (∀ j, j < 4 → μ' 66 (5 * k + 1 + j) = ((x.1.getD j 0 : Nat) : Int)) → Q (xI 1) μ') : GM (d + 3) 135 [xR 61, xI ((5 * k : Nat) : Int)] μ Q := by
  obtain ⟨c15, c16, c17⟩ := hc
  have c15 : μ 61 15 = (P : Int) := c15
  have c16 : μ 61 16 = (T : Int) := c16
  have c17 : μ 61 17 = (N : Int) := c17
  refine ge_M_isThingLine ?_
  rw [c16]
  refine wi (fun c => ?_) (fun c => ?_)
  · exact hF (by omega) _ (fun c j a1 a2 => by rw [xs_if, if_neg (by omega)]) xs_s
  have hT6 : T < 6 := by omega
  rw [iw_k1 (n := T) (by omega), iw_k3 (n := 5 * k) (by omega), iw_k4 (n := 5 * k) (by omega), iw_k1 (n := 5 * k) (by omega), iw_k2 (n := 5 * k) (by omega), wb_eq (by omega) (by omega), wb_eq (by omega) (by omega), wb_eq (by omega) (by omega), Int.toNat_natCast, Int.toNat_natCast, Int.toNat_natCast, h66]
  have e4 : iw (((w - 1 : Nat) : Int) - 4) = ((w - 5 : Nat) : Int) := by rw [iw_id (by omega) (by omega)]; omega
  rw [e4]
  generalize hν : xset (xset (xset μ 61 16 ((T + 1 : Nat) : Int)) 66 (5 * k + 3) 0) 66 (5 * k + 4) 0 = ν
  have fν : fL5 (5 * k) μ ν := fun c j a1 a2 => by rw [← hν, xs_if, if_neg (by omega), xs_if, if_neg (by omega), xs_if, if_neg (by omega)]
  have cν : cnM ν (P, T + 1, N) := by
    refine ⟨?_, ?_, ?_⟩
    · rw [← hν, xs_c (by decide), xs_c (by decide), xs_j (by decide)]; exact c15
    · rw [← hν, xs_c (by decide), xs_c (by decide), xs_s]
    · rw [← hν, xs_c (by decide), xs_c (by decide), xs_j (by decide)]; exact c17
  have z0 : ν 66 (5 * k) = ((w - 1 : Nat) : Int) := by rw [← hν, xs_j (by omega), xs_j (by omega), xs_c (by decide)]; exact h66
  have z3 : ν 66 (5 * k + 3) = 0 := by rw [← hν, xs_j (by omega), xs_s]
  have z4 : ν 66 (5 * k + 4) = 0 := by rw [← hν, xs_s]
  have e8 : ν 61 8 = (i : Int) := by rw [← hν, xs_c (by decide), xs_c (by decide), xs_j (by decide)]; exact h8
  have eb : ∃ bs, bnd w P T = 3 :: P :: bs ∧ (w = 5 ∧ bs = [] ∨ w = 6 ∧ bs = [4] ∨ w = 7 ∧ bs = [4, 10] ∨ w = 8 ∧ bs = [4]) := by
    rcases (show w = 5 ∨ w = 6 ∨ w = 7 ∨ w = 8 by omega) with e | e | e | e <;> subst e
    · exact ⟨[], rfl, by simp⟩
    · exact ⟨[4], rfl, by simp⟩
    · exact ⟨[4, 10], rfl, by simp⟩
    · exact ⟨[4], rfl, by simp⟩
  obtain ⟨bs, ebn, ebs⟩ := eb
  rw [ebn] at h0 h1
  have hb1 := bl_bd hi
  have ht1 := te_bd hb1.2
  obtain ⟨s0, s1⟩ := pns_step (R0 := fun f => ∀ μ', fL5 (5 * k) μ μ' → μ' 61 13 = ((f : Nat) : Int) → Q (xI 0) μ') (R1 := fun x => ∀ μ', fL5 (5 * k) μ μ' → μ' 61 8 = ((x.2 : Nat) : Int) → cnM μ' (P, T + 1, N) → μ' 66 (5 * k) = ((w - 1 : Nat) : Int) → (∀ j, j < 4 → μ' 66 (5 * k + 1 + j) = ((x.1.getD j 0 : Nat) : Int)) → Q (xI 1) μ') (h0 hT6) (h1 hT6)
  refine M_isNumber_ok (w := 5 * k + 1) (b := 3) (tM_fL5 fν ht) hi e8 rfl (by omega) (by decide) (fun q m1 g1 g13 => ?_) (fun q m1 g1 g8 g66 => ?_)
  · refine gI_mk ?_
    rw [if_pos rfl]
    exact s0 q m1 (fL5_N fν g1 (by omega) (by omega)) g13
  refine gI_mk ?_
  rw [if_neg (by decide)]
  have f1 := fL5_N fν g1 (by omega) (by omega)
  have c1 := cnM_N g1 cν
  obtain ⟨s10, s11⟩ := s1 q
  obtain ⟨t0, t1⟩ := pns_step (R0 := fun f => ∀ μ', fL5 (5 * k) μ μ' → μ' 61 13 = ((f : Nat) : Int) → Q (xI 0) μ') (R1 := fun x => ∀ μ', fL5 (5 * k) μ μ' → μ' 61 8 = ((x.2 : Nat) : Int) → cnM μ' (P, T + 1, N) → μ' 66 (5 * k) = ((w - 1 : Nat) : Int) → (∀ j, j < 4 → μ' 66 (5 * k + 1 + j) = (((vd α (bl α i) (te α (bl α i) - bl α i) :: x.1).getD j 0 : Nat) : Int)) → Q (xI 1) μ') s10 s11
  generalize vd α (bl α i) (te α (bl α i) - bl α i) = v1 at g66 s11 t1
  generalize te α (bl α i) = i1 at ht1 g8 s10 s11 t0 t1
  have hb2 := bl_bd ht1.2
  have ht2 := te_bd hb2.2
  refine M_isNumber_ok (w := 5 * k + 2) (b := P) (tM_fL5 f1 ht) ht1.2 g8 rfl (by omega) (by rw [c1.1, iw_id (by omega) (by omega)]) (fun q m2 g2 g13 => ?_) (fun q m2 g2 g82 g662 => ?_)
  · refine gI_mk ?_
    rw [if_pos rfl]
    exact t0 q m2 (fL5_N f1 g2 (by omega) (by omega)) g13
  refine gI_mk ?_
  rw [if_neg (by decide)]
  have f2 := fL5_N f1 g2 (by omega) (by omega)
  have c2 := cnM_N g2 c1
  obtain ⟨t10, t11⟩ := t1 q
  generalize vd α (bl α i1) (te α (bl α i1) - bl α i1) = v2 at g662 t11
  generalize te α (bl α i1) = i2 at ht2 g82 t10 t11
  have y0 : m2 66 (5 * k) = ((w - 1 : Nat) : Int) := by rw [g2 66 _ (by omega) (by omega), g1 66 _ (by omega) (by omega)]; exact z0
  have y1 : m2 66 (5 * k + 1) = (v1 : Int) := by rw [g2 66 _ (by omega) (by omega)]; exact g66
  have y3 : m2 66 (5 * k + 3) = 0 := by rw [g2 66 _ (by omega) (by omega), g1 66 _ (by omega) (by omega)]; exact z3
  have y4 : m2 66 (5 * k + 4) = 0 := by rw [g2 66 _ (by omega) (by omega), g1 66 _ (by omega) (by omega)]; exact z4
  have four : ∀ {R : Nat → Prop}, R 0 → R 1 → R 2 → R 3 → ∀ j, j < 4 → R j := fun {R} a b c e j hj => by
    rcases (show j = 0 ∨ j = 1 ∨ j = 2 ∨ j = 3 by omega) with q | q | q | q <;> subst q <;> assumption
  refine wi (fun cw => ?_) (fun cw => ?_)
  · rcases ebs with ⟨e, rfl⟩ | ⟨e, rfl⟩ | ⟨e, rfl⟩ | ⟨e, rfl⟩
    · exact t11 _ rfl m2 f2 g82 c2 y0 (four y1 g662 y3 y4)
    · omega
    · omega
    · omega
  have rest : ∃ bs', bs = 4 :: bs' ∧ (w = 7 ∧ bs' = [10] ∨ w ≠ 7 ∧ bs' = []) := by
    rcases ebs with ⟨e, rfl⟩ | ⟨e, rfl⟩ | ⟨e, rfl⟩ | ⟨e, rfl⟩
    · omega
    · exact ⟨[], rfl, Or.inr ⟨by omega, rfl⟩⟩
    · exact ⟨[10], rfl, Or.inl ⟨e, rfl⟩⟩
    · exact ⟨[], rfl, Or.inr ⟨by omega, rfl⟩⟩
  obtain ⟨bs', rfl, eb'⟩ := rest
  obtain ⟨u0, u1⟩ := pns_step (R0 := fun f => ∀ μ', fL5 (5 * k) μ μ' → μ' 61 13 = ((f : Nat) : Int) → Q (xI 0) μ') (R1 := fun x => ∀ μ', fL5 (5 * k) μ μ' → μ' 61 8 = ((x.2 : Nat) : Int) → cnM μ' (P, T + 1, N) → μ' 66 (5 * k) = ((w - 1 : Nat) : Int) → (∀ j, j < 4 → μ' 66 (5 * k + 1 + j) = (((v1 :: v2 :: x.1).getD j 0 : Nat) : Int)) → Q (xI 1) μ') t10 t11
  have hb3 := bl_bd ht2.2
  have ht3 := te_bd hb3.2
  refine M_isNumber_ok (w := 5 * k + 3) (b := 4) (tM_fL5 f2 ht) ht2.2 g82 rfl (by omega) (by decide) (fun q m3 g3 g13 => ?_) (fun q m3 g3 g83 g663 => ?_)
  · refine gI_mk ?_
    rw [if_pos rfl]
    exact u0 q m3 (fL5_N f2 g3 (by omega) (by omega)) g13
  refine gI_mk ?_
  rw [if_neg (by decide)]
  have f3 := fL5_N f2 g3 (by omega) (by omega)
  have c3 := cnM_N g3 c2
  obtain ⟨u10, u11⟩ := u1 q
  generalize vd α (bl α i2) (te α (bl α i2) - bl α i2) = v3 at g663 u11
  generalize te α (bl α i2) = i3 at ht3 g83 u10 u11
  have x0 : m3 66 (5 * k) = ((w - 1 : Nat) : Int) := by rw [g3 66 _ (by omega) (by omega)]; exact y0
  have x1 : m3 66 (5 * k + 1) = (v1 : Int) := by rw [g3 66 _ (by omega) (by omega)]; exact y1
  have x2 : m3 66 (5 * k + 2) = (v2 : Int) := by rw [g3 66 _ (by omega) (by omega)]; exact g662
  have x4 : m3 66 (5 * k + 4) = 0 := by rw [g3 66 _ (by omega) (by omega)]; exact y4
  refine wi (fun cw2 => ?_) (fun cw2 => ?_)
  · have e10 : bs' = [10] := by
      rcases eb' with ⟨e, rfl⟩ | ⟨e, rfl⟩
      · rfl
      · omega
    subst e10
    obtain ⟨r0, r1⟩ := pns_step (R0 := fun f => ∀ μ', fL5 (5 * k) μ μ' → μ' 61 13 = ((f : Nat) : Int) → Q (xI 0) μ') (R1 := fun x => ∀ μ', fL5 (5 * k) μ μ' → μ' 61 8 = ((x.2 : Nat) : Int) → cnM μ' (P, T + 1, N) → μ' 66 (5 * k) = ((w - 1 : Nat) : Int) → (∀ j, j < 4 → μ' 66 (5 * k + 1 + j) = (((v1 :: v2 :: v3 :: x.1).getD j 0 : Nat) : Int)) → Q (xI 1) μ') u10 u11
    refine M_isNumber_ok (w := 5 * k + 4) (b := 10) (tM_fL5 f3 ht) ht3.2 g83 rfl (by omega) (by decide) (fun q m4 g4 g13 => ?_) (fun q m4 g4 g84 g664 => ?_)
    · refine gI_mk ?_
      rw [if_pos rfl]
      exact r0 q m4 (fL5_N f3 g4 (by omega) (by omega)) g13
    refine gI_mk ?_
    rw [if_neg (by decide)]
    refine (r1 q).2 _ rfl m4 (fL5_N f3 g4 (by omega) (by omega)) g84 (cnM_N g4 c3) ?_ (four ?_ ?_ ?_ g664)
    · rw [g4 66 _ (by omega) (by omega)]; exact x0
    · rw [g4 66 _ (by omega) (by omega)]; exact x1
    · rw [g4 66 _ (by omega) (by omega)]; exact x2
    · rw [g4 66 _ (by omega) (by omega)]; exact g663
  · have e10 : bs' = [] := by
      rcases eb' with ⟨e, rfl⟩ | ⟨e, rfl⟩
      · omega
      · rfl
    subst e10
    exact u11 _ rfl m3 f3 g83 c3 x0 (four x1 x2 g663 x4)
