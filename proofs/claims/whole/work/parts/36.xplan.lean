/-! the class's plan -/
def fQ (μ μ' : Mem) : Prop := ∀ c j, c ≠ 9 → (c < 42 ∨ 50 < c) → μ' c j = μ c j
theorem fX_fQ {μ μ' : Mem} (h : fQ μ μ') : fX μ μ' := ⟨⟨h 0 4 (by decide) (by decide), h 1 1 (by decide) (by decide)⟩, fun c j q => by
  have q2 : c ≠ 9 ∧ c < 42 := by
    simp only [Bool.or_eq_true, Bool.and_eq_true, beq_iff_eq, Nat.ble_eq] at q
    omega
  exact h c j q2.1 (Or.inl q2.2)⟩
theorem fQ_n {μ μ' : Mem} {n : Nat} (hn : n < 7) (h : ∀ c j, c ≠ 41 + 1 + n → μ' c j = μ c j) : fQ μ μ' := fun c j _ h2 => h c j (by omega)
theorem fQ_t {μ ν κ : Mem} (h : fQ μ ν) (g : fQ ν κ) : fQ μ κ := fun c j h1 h2 => (g c j h1 h2).trans (h c j h1 h2)
set_option maxRecDepth 20000 in
theorem X_charmSet_ok {d : Nat} {μ : Mem} {α : Al} {Q : AV → Mem → Prop} (hv : vX μ α) (hw : wf α) (h : Q (xI ((csF α (α.1 9) : Nat) : Int)) μ) : GM (d + 1) 76 [xR 9] μ Q := by
  have hT := wf_T hw
  refine ge_Plan_charmSet ?_
  have key : ∀ m p, p + m = α.1 0 1 → DW (d + 1) 76 4 [xR 9, xI ((sp_bits (fun p => decide (0 < α.1 2 (α.1 9 p))) p : Nat) : Int), xI (p : Int)] μ Q := by
    intro m
    induction m with
    | zero =>
      intro p hp
      refine sg_Plan_charmSet_4 ?_
      rw [vX_T hv, if_neg (by omega), show p = α.1 0 1 by omega]
      exact h
    | succ m ih =>
      intro p hp
      have hp' : p < α.1 0 1 := by omega
      have hl := (wf_lie hw p hp').1
      have hi := ih (p + 1) (by omega)
      refine sg_Plan_charmSet_4 ?_
      simp (disch := omega) only [vX_T hv, wb_eq, Int.toNat_natCast, vX_lie hv, vX_kind hv, iw_k1, ii_lt, ii_0]
      rw [if_pos hp']
      refine wi (fun c => ?_) (fun c => ?_)
      · rw [sp_bits_no (f := fun p => decide (0 < α.1 2 (α.1 9 p))) (by rw [decide_eq_true_eq]; omega)] at hi; exact hi
      · rw [sp_bits_or (f := fun p => decide (0 < α.1 2 (α.1 9 p))) (by omega) (by rw [decide_eq_true_eq]; omega)]; exact hi
  exact key (α.1 0 1) 0 (by omega)
set_option maxRecDepth 20000 in
theorem X_hostPlaces_ok {d : Nat} {μ : Mem} {α : Al} {Q : AV → Mem → Prop} (hv : vX μ α) (hw : wf α) (h : Q (xI ((hostB α : Nat) : Int)) μ) : GM (d + 1) 79 [xR 9] μ Q := by
  have hT := wf_T hw
  have hP := wf_P hw
  refine ge_Plan_hostPlaces ?_
  have key : ∀ m p, p + m = α.1 0 1 → DW (d + 1) 79 4 [xR 9, xI ((sp_bits (fun p => α.1 1 (α.1 4 p) == 3) p : Nat) : Int), xI (p : Int)] μ Q := by
    intro m
    induction m with
    | zero =>
      intro p hp
      refine sg_Plan_hostPlaces_4 ?_
      rw [vX_T hv, if_neg (by omega), show p = α.1 0 1 by omega]
      exact h
    | succ m ih =>
      intro p hp
      have hp' : p < α.1 0 1 := by omega
      have hk := wf_keep hw p hp'
      have hi := ih (p + 1) (by omega)
      refine sg_Plan_hostPlaces_4 ?_
      simp (disch := omega) only [vX_T hv, wb_eq, Int.toNat_natCast, vX_keep hv, vX_one hv, iw_k1, ii_lt, ii_3]
      rw [if_pos hp']
      refine wi (fun c => ?_) (fun c => ?_)
      · rw [sp_bits_or (f := fun p => α.1 1 (α.1 4 p) == 3) (by omega) (by rw [beq_iff_eq]; exact c)]; exact hi
      · rw [sp_bits_no (f := fun p => α.1 1 (α.1 4 p) == 3) (by rw [beq_iff_eq]; exact c)] at hi; exact hi
  exact key (α.1 0 1) 0 (by omega)
theorem iw_16 {c : Nat} (h : c ≤ 6) : iw (16 * (c : Int)) = ((16 * c : Nat) : Int) := by simp only [iw_def]; omega
set_option maxRecDepth 20000 in
theorem X_weighEnds_ok {d sz : Nat} {μ : Mem} {α : Al} {Q : AV → Mem → Prop} (hv : vX μ α) (hw : wf α) (h : ∀ μ', (∀ c j, c ≠ 41 + 1 + α.1 0 2 → μ' c j = μ c j) → (∀ s, s < 64 → pop s = sz → μ' (41 + 1 + α.1 0 2) s = pb α 0 s) → Q (xI 0) μ') : GM (d + 2) 78 [xR 9, xI (sz : Int)] μ Q := by
  have hT := wf_T hw
  have hN := wf_N hw
  refine ge_Plan_weighEnds ?_
  refine X_hostPlaces_ok hv hw ?_
  refine gI_mk ?_
  refine lp_up (fun s (ν : Mem) => DW (d + 2) 78 5 [xR 9, xI (sz : Int), xI ((hostB α : Nat) : Int), xI (s : Int)] ν Q) (fun s ν => (∀ c j, c ≠ 41 + 1 + α.1 0 2 → ν c j = μ c j) ∧ ∀ s', s' < s → pop s' = sz → ν (41 + 1 + α.1 0 2) s' = pb α 0 s') 64 ?_ ?_ 64 0 μ rfl ⟨fun _ _ _ => rfl, fun q hq => absurd hq (Nat.not_lt_zero q)⟩
  · intro s ν hs hI hn
    have hv' : vX ν α := vX_fr (fX_fQ (fQ_n (by omega) hI.1)) hv
    refine sg_Plan_weighEnds_5 ?_
    rw [if_pos (by omega), iw_k1 (by omega)]
    refine X_bitCount_ok hs ?_
    refine gI_mk ?_
    refine wi (fun c => ?_) (fun c => ?_)
    · have c' : pop s = sz := by omega
      have hl : s &&& hostB α < 64 := Nat.lt_of_le_of_lt Nat.and_le_left hs
      have h6 := pop6 _ hl
      rw [vX_N hv', wb_eq (by omega) (by omega), xand_nat (by omega)]
      refine X_bitCount_ok hl ?_
      refine gI_mk ?_
      rw [wb_eq (by omega) (by omega), Int.toNat_natCast, Int.toNat_natCast, iw_16 h6]
      refine hn _ ⟨fun c j hc => by rw [xs_c hc]; exact hI.1 c j hc, fun q hq1 hq2 => ?_⟩
      by_cases c2 : q = s
      · rw [c2, xs_s]; rfl
      · rw [xs_j c2]; exact hI.2 q (by omega) hq2
    · refine hn _ ⟨hI.1, fun q hq1 hq2 => ?_⟩
      have c2 : q ≠ s := fun e => c (by rw [← e, hq2])
      exact hI.2 q (by omega) hq2
  · intro ν hI
    refine sg_Plan_weighEnds_5 ?_
    rw [if_neg (by omega)]
    exact h ν hI.1 hI.2
set_option maxRecDepth 20000 in
theorem X_weighChange_ok {d n a b sz : Nat} {P Z : Nat → Int} {μ : Mem} {Q : AV → Mem → Prop} (hn : n < 6) (ha : a < 6) (hb : b < 6) (hP : ∀ s, s < 64 → pop s = sz → μ (41 + 1 + (n + 1)) s = P s ∧ -1000 ≤ P s ∧ P s ≤ 1000) (hZ : ∀ s, s < 64 → pop s = sz → μ (41 + 1 + n) s = Z s) (h : ∀ μ', (∀ c j, c ≠ 41 + 1 + n → μ' c j = μ c j) → (∀ s, s < 64 → pop s = sz → μ' (41 + 1 + n) s = max (Z s) (P (exc s a b) - 1)) → Q (xI 0) μ') : GM (d + 1) 81 [xR 9, xI (n : Int), xI (a : Int), xI (b : Int), xI (sz : Int)] μ Q := by
  refine ge_Plan_weighChange ?_
  have key : ∀ m s (ν : Mem) v6, s + m = 64 → (∀ c j, c ≠ 41 + 1 + n → ν c j = μ c j) → (∀ s', s' < 64 → pop s' = sz → ν (41 + 1 + n) s' = if s' < s then max (Z s') (P (exc s' a b) - 1) else Z s') → DW (d + 1) 81 2 [xR 9, xI (n : Int), xI (a : Int), xI (b : Int), xI (sz : Int), xI (s : Int), v6] ν Q := by
    intro m
    induction m with
    | zero =>
      intro s ν v6 hs hf hI
      refine sg_Plan_weighChange_2 ?_
      rw [if_neg (by omega)]
      refine h ν hf (fun s' h1 h2 => ?_)
      rw [hI s' h1 h2, if_pos (by omega)]
    | succ m ih =>
      intro s ν v6 hs hf hI
      have hs' : s < 64 := by omega
      refine sg_Plan_weighChange_2 ?_
      rw [if_pos (by omega)]
      refine X_bitCount_ok hs' ?_
      refine gI_mk ?_
      rw [iw_k1 (n := s) (by omega), iw_k1 (n := n) (by omega), x_exc s hs' a ha b hb]
      have hx := exc_chk s hs' a ha b hb
      refine wi (fun c => ?_) (fun c => ?_)
      · have c' : pop s = sz := by omega
        have hp := hP (exc s a b) hx.1 (by omega)
        have hw := hI s hs' c'
        rw [if_neg (by omega)] at hw
        rw [wb_eq (by omega) (by omega), wb_eq (by omega) (by omega), wb_eq (by omega) (by omega), wb_eq (by omega) (by omega), wb_eq (by omega) (by omega), wb_eq (by omega) (by omega), Int.toNat_natCast (n + 1), Int.toNat_natCast (exc s a b), Int.toNat_natCast n, Int.toNat_natCast s, hw, hf (41 + 1 + (n + 1)) _ (by omega), hp.1, iw_id (x := P (exc s a b) - 1) (by omega) (by omega)]
        refine ih (s + 1) _ _ (by omega) (fun c j hc => by rw [xs_c hc]; exact hf c j hc) (fun s' h1 h2 => ?_)
        by_cases cs : s' = s
        · rw [cs, xs_s, if_pos (by omega)]
        · rw [xs_j cs, hI s' h1 h2]
          by_cases c3 : s' < s
          · rw [if_pos c3, if_pos (by omega)]
          · rw [if_neg c3, if_neg (by omega)]
      · refine ih (s + 1) ν _ (by omega) hf (fun s' h1 h2 => ?_)
        have cs : s' ≠ s := fun e => c (by rw [← e, h2])
        rw [hI s' h1 h2]
        by_cases c3 : s' < s
        · rw [if_pos c3, if_pos (by omega)]
        · rw [if_neg c3, if_neg (by omega)]
  refine key 64 0 μ _ rfl (fun _ _ _ => rfl) (fun s' h1 h2 => ?_)
  rw [if_neg (Nat.not_lt_zero _)]
  exact hZ s' h1 h2
theorem pb_bd {α : Al} (hT : α.1 0 1 ≤ 6) {k s : Nat} (hk : k ≤ 6) (hs : s < 64) : -6 ≤ pb α k s ∧ pb α k s ≤ 96 := by
  obtain ⟨c, j, h1, h2, h3⟩ := pb_good hT k s hs
  omega
set_option maxRecDepth 20000 in
theorem X_night_b {d n k sz a : Nat} {μ : Mem} {α : Al} {Q : AV → Mem → Prop} (hv : vX μ α) (hw : wf α) (hk : α.1 0 2 = n + (k + 1)) (hB : ∀ s, s < 64 → pop s = sz → μ (41 + 1 + (n + 1)) s = pb α k s) : ∀ m b (ν : Mem) (Z : Nat → Int), b + m = α.1 0 1 → a < b → (∀ c j, c ≠ 41 + 1 + n → ν c j = μ c j) → (∀ s, s < 64 → pop s = sz → ν (41 + 1 + n) s = Z s) → (∀ ν' x, (∀ c j, c ≠ 41 + 1 + n → ν' c j = μ c j) → (∀ s, s < 64 → pop s = sz → ν' (41 + 1 + n) s = gb (α.1 0 1) (stp α n (pb α k) s) a m (Z s)) → DW (d + 3) 80 60 [xR 9, xI (n : Int), xI (sz : Int), xI (a : Int), xI x] ν' Q) → DW (d + 3) 80 39 [xR 9, xI (n : Int), xI (sz : Int), xI (a : Int), xI (b : Int)] ν Q := by
  have hT := wf_T hw
  have hN := wf_N hw
  intro m
  induction m with
  | zero =>
    intro b ν Z hb ha hf hZ h
    have hv' : vX ν α := vX_fr (fX_fQ (fQ_n (by omega) hf)) hv
    refine sg_Plan_weighNight_39 ?_
    rw [vX_T hv', if_neg (by omega)]
    exact h ν _ hf hZ
  | succ m ih =>
    intro b ν Z hb ha hf hZ h
    have hbT : b < α.1 0 1 := by omega
    have eb : α.1 0 1 - (m + 1) = b := by omega
    have hv' : vX ν α := vX_fr (fX_fQ (fQ_n (by omega) hf)) hv
    refine sg_Plan_weighNight_39 ?_
    rw [vX_T hv', if_pos (by omega), iw_k1 (by omega)]
    refine X_allows_ok hv' hw (by omega) (by omega) hbT ?_
    refine gI_mk ?_
    have hnext : ∀ ν', (∀ c j, c ≠ 41 + 1 + n → ν' c j = μ c j) → (∀ s, s < 64 → pop s = sz → ν' (41 + 1 + n) s = stp α n (pb α k) s a b (Z s)) → DW (d + 3) 80 39 [xR 9, xI (n : Int), xI (sz : Int), xI (a : Int), xI ((b + 1 : Nat) : Int)] ν' Q := by
      intro ν' hf' hZ'
      refine ih (b + 1) ν' (fun s => stp α n (pb α k) s a b (Z s)) (by omega) (by omega) hf' hZ' (fun ν2 x hf2 hZ2 => ?_)
      refine h ν2 x hf2 (fun s h1 h2 => ?_)
      rw [hZ2 s h1 h2, gb, eb]
    by_cases hm : sp_may α n a b = true
    · have e0 : (if sp_may α n a b = true then (1 : Int) else 0) = 1 := if_pos hm
      rw [e0, if_neg (by decide)]
      refine X_weighChange_ok (P := pb α k) (Z := Z) (by omega) (by omega) (by omega) (fun s h1 h2 => ?_) hZ (fun ν' hf' hZ' => ?_)
      · have := pb_bd hT (k := k) (by omega) h1
        refine ⟨?_, by omega, by omega⟩
        rw [hf _ _ (by omega)]; exact hB s h1 h2
      refine gV_mk ?_
      refine hnext ν' (fun c j hc => (hf' c j hc).trans (hf c j hc)) (fun s h1 h2 => ?_)
      rw [hZ' s h1 h2]
      unfold stp
      rw [if_pos hm]
    · have e0 : (if sp_may α n a b = true then (1 : Int) else 0) = 0 := if_neg hm
      rw [e0, if_pos rfl]
      refine hnext ν hf (fun s h1 h2 => ?_)
      rw [hZ s h1 h2]
      unfold stp
      rw [if_neg hm]
set_option maxRecDepth 20000 in
theorem X_night_a {d n k sz : Nat} {μ : Mem} {α : Al} {Q : AV → Mem → Prop} (hv : vX μ α) (hw : wf α) (hk : α.1 0 2 = n + (k + 1)) (hB : ∀ s, s < 64 → pop s = sz → μ (41 + 1 + (n + 1)) s = pb α k s) : ∀ m a (ν : Mem) (Z : Nat → Int) v4, a + m = α.1 0 1 → (∀ c j, c ≠ 41 + 1 + n → ν c j = μ c j) → (∀ s, s < 64 → pop s = sz → ν (41 + 1 + n) s = Z s) → (∀ ν', (∀ c j, c ≠ 41 + 1 + n → ν' c j = μ c j) → (∀ s, s < 64 → pop s = sz → ν' (41 + 1 + n) s = ga (α.1 0 1) (stp α n (pb α k) s) m (Z s)) → Q (xI 0) ν') → DW (d + 3) 80 29 [xR 9, xI (n : Int), xI (sz : Int), xI (a : Int), v4] ν Q := by
  have hT := wf_T hw
  have hN := wf_N hw
  intro m
  induction m with
  | zero =>
    intro a ν Z v4 ha hf hZ h
    have hv' : vX ν α := vX_fr (fX_fQ (fQ_n (by omega) hf)) hv
    refine sg_Plan_weighNight_29 ?_
    rw [vX_T hv', if_neg (by omega)]
    exact h ν hf hZ
  | succ m ih =>
    intro a ν Z v4 ha hf hZ h
    have ea : α.1 0 1 - (m + 1) = a := by omega
    have hv' : vX ν α := vX_fr (fX_fQ (fQ_n (by omega) hf)) hv
    refine sg_Plan_weighNight_29 ?_
    rw [vX_T hv', if_pos (by omega), iw_k1 (by omega)]
    refine X_night_b hv hw hk hB m (a + 1) ν Z (by omega) (by omega) hf hZ (fun ν1 x hf1 hZ1 => ?_)
    refine sg_Plan_weighNight_60 ?_
    rw [iw_k1 (by omega)]
    refine ih (a + 1) ν1 _ _ (by omega) hf1 hZ1 (fun ν2 hf2 hZ2 => ?_)
    refine h ν2 hf2 (fun s h1 h2 => ?_)
    rw [hZ2 s h1 h2, ga, ea]
set_option maxRecDepth 20000 in
theorem X_weighNight_ok {d n k sz : Nat} {μ : Mem} {α : Al} {Q : AV → Mem → Prop} (hv : vX μ α) (hw : wf α) (hk : α.1 0 2 = n + (k + 1)) (hB : ∀ s, s < 64 → pop s = sz → μ (41 + 1 + (n + 1)) s = pb α k s) (h : ∀ μ', (∀ c j, c ≠ 41 + 1 + n → μ' c j = μ c j) → (∀ s, s < 64 → pop s = sz → μ' (41 + 1 + n) s = pb α (k + 1) s) → Q (xI 0) μ') : GM (d + 3) 80 [xR 9, xI (n : Int), xI (sz : Int)] μ Q := by
  have hT := wf_T hw
  have hN := wf_N hw
  refine ge_Plan_weighNight ?_
  refine lp_up (fun s (ν : Mem) => DW (d + 3) 80 2 [xR 9, xI (n : Int), xI (sz : Int), xI (s : Int), xL 0] ν Q) (fun s ν => (∀ c j, c ≠ 41 + 1 + n → ν c j = μ c j) ∧ ∀ s', s' < s → pop s' = sz → ν (41 + 1 + n) s' = pb α k s') 64 ?_ ?_ 64 0 μ rfl ⟨fun _ _ _ => rfl, fun q hq => absurd hq (Nat.not_lt_zero q)⟩
  · intro s ν hs hI hn
    refine sg_Plan_weighNight_2 ?_
    rw [if_pos (by omega)]
    refine X_bitCount_ok hs ?_
    refine gI_mk ?_
    rw [iw_k1 (n := s) (by omega), iw_k1 (n := n) (by omega)]
    refine wi (fun c => ?_) (fun c => ?_)
    · have c' : pop s = sz := by omega
      rw [wb_eq (by omega) (by omega), wb_eq (by omega) (by omega), wb_eq (by omega) (by omega), wb_eq (by omega) (by omega), Int.toNat_natCast (n + 1), Int.toNat_natCast n, Int.toNat_natCast s, hI.1 (41 + 1 + (n + 1)) _ (by omega), hB s hs c']
      refine hn _ ⟨fun c j hc => by rw [xs_c hc]; exact hI.1 c j hc, fun q hq1 hq2 => ?_⟩
      by_cases c2 : q = s
      · rw [c2, xs_s]
      · rw [xs_j c2]; exact hI.2 q (by omega) hq2
    · refine hn _ ⟨hI.1, fun q hq1 hq2 => ?_⟩
      have c2 : q ≠ s := fun e => c (by rw [← e, hq2])
      exact hI.2 q (by omega) hq2
  · intro ν hI
    refine sg_Plan_weighNight_2 ?_
    rw [if_neg (by omega)]
    refine sg_Plan_weighNight_26 ?_
    refine X_night_a hv hw hk hB (α.1 0 1) 0 ν (pb α k) _ (by omega) hI.1 hI.2 (fun ν' hf' hZ' => ?_)
    refine h ν' hf' (fun s h1 h2 => ?_)
    rw [hZ' s h1 h2, pb, show α.1 0 2 - (k + 1) = n by omega]
