/-! the fewest changes by which each has his own -/
def PI (T : Nat) (l : Nat → Nat) : Prop := (∀ i, i < T → l i < T) ∧ (∀ i j, i < T → j < T → l i = l j → i = j)
def mn_q (T : Nat) (l : Nat → Nat) (p : Nat) : Nat := sp_first (fun q => l q == p) T
def mn_step (T : Nat) (l : Nat → Nat) (p : Nat) : Nat → Nat := if l p = p then l else fun i => if i = p then p else if i = mn_q T l p then l p else l i
def mn_l (T : Nat) (l : Nat → Nat) : Nat → (Nat → Nat)
  | 0 => l
  | p + 1 => mn_step T (mn_l T l p) p
def mn_n (T : Nat) (l : Nat → Nat) : Nat → Nat
  | 0 => 0
  | p + 1 => mn_n T l p + (if mn_l T l p p = p then 0 else 1)
def mn_w (α : Al) : Nat := sp_first (fun p => α.1 1 (α.1 4 p) == 1 && !(α.1 9 p == p)) (α.1 0 1)
def mn_r (T : Nat) (l : Nat → Nat) (s : Int) (p : Nat) : Int := if p < T then (if s = 0 then (p : Int) else ((mn_q T (mn_l T l p) p : Nat) : Int)) else -1
def mn_f (T : Nat) (l : Nat → Nat) (i : Int) : Nat → Bool := fun p => !(mn_l T l p p == p) && decide (((mn_n T l p : Nat) : Int) = i)
def r_mend (α : Al) (i s : Int) : Int := if i < -1 then -3 else if s < 0 then -3 else if 1 < s then -3 else if mn_w α < α.1 0 1 then -1 else if i = -1 then ((mn_n (α.1 0 1) (α.1 9) (α.1 0 1) : Nat) : Int) else mn_r (α.1 0 1) (α.1 9) s (sp_first (mn_f (α.1 0 1) (α.1 9) i) (α.1 0 1))
theorem PI_wf {α : Al} (hw : wf α) : PI (α.1 0 1) (α.1 9) := ⟨fun i hi => (wf_lie hw i hi).1, wf_inj hw⟩
theorem PI_q {T : Nat} {l : Nat → Nat} {p : Nat} (h : PI T l) (hp : p < T) : mn_q T l p < T ∧ l (mn_q T l p) = p ∧ ∀ j, j < T → l j = p → j = mn_q T l p := by
  obtain ⟨q, hq, e⟩ := sp_onto h.1 h.2 hp
  have e2 : mn_q T l p = q := sp_first_hit T hq (by simp [e]) (fun j hj => by
    simp only [beq_eq_false_iff_ne]
    intro e3
    have := h.2 j q (by omega) hq (e3.trans e.symm)
    omega)
  rw [e2]
  exact ⟨hq, e, fun j hj e3 => h.2 j q hj hq (e3.trans e.symm)⟩
theorem mn_step_n {T : Nat} {l : Nat → Nat} {p : Nat} (c : ¬ l p = p) (i : Nat) : mn_step T l p i = if i = p then p else if i = mn_q T l p then l p else l i := by unfold mn_step; rw [if_neg c]
theorem mn_step_PI {T : Nat} {l : Nat → Nat} {p : Nat} (h : PI T l) (hp : p < T) : PI T (mn_step T l p) ∧ mn_step T l p p = p := by
  by_cases c : l p = p
  · unfold mn_step; rw [if_pos c]; exact ⟨h, c⟩
  · obtain ⟨q1, q2, q3⟩ := PI_q h hp
    refine ⟨⟨fun i hi => ?_, fun i j hi hj e => ?_⟩, ?_⟩
    · rw [mn_step_n c]
      split
      · exact hp
      split
      · exact h.1 p hp
      · exact h.1 i hi
    · rw [mn_step_n c, mn_step_n c] at e
      by_cases a1 : i = p
      · rw [if_pos a1] at e
        by_cases b1 : j = p
        · omega
        · rw [if_neg b1] at e
          by_cases b2 : j = mn_q T l p
          · rw [if_pos b2] at e; exact absurd e.symm c
          · rw [if_neg b2] at e; exact absurd (q3 j hj e.symm) b2
      · rw [if_neg a1] at e
        by_cases a2 : i = mn_q T l p
        · rw [if_pos a2] at e
          by_cases b1 : j = p
          · rw [if_pos b1] at e; exact absurd e c
          · rw [if_neg b1] at e
            by_cases b2 : j = mn_q T l p
            · omega
            · rw [if_neg b2] at e; have := h.2 p j hp hj e; omega
        · rw [if_neg a2] at e
          by_cases b1 : j = p
          · rw [if_pos b1] at e; exact absurd (q3 i hi e) a2
          · rw [if_neg b1] at e
            by_cases b2 : j = mn_q T l p
            · rw [if_pos b2] at e; have := h.2 i p hi hp e; omega
            · rw [if_neg b2] at e; exact h.2 i j hi hj e
    · rw [mn_step_n c, if_pos rfl]
theorem mn_l_ok {T : Nat} {l : Nat → Nat} (h : PI T l) : ∀ p, p ≤ T → PI T (mn_l T l p) ∧ ∀ i, i < p → mn_l T l p i = i
  | 0, _ => ⟨h, fun i hi => absurd hi (Nat.not_lt_zero i)⟩
  | p + 1, hp => by
    obtain ⟨h1, h2⟩ := mn_l_ok h p (by omega)
    have h3 := mn_step_PI h1 (show p < T by omega)
    refine ⟨h3.1, fun i hi => ?_⟩
    by_cases c : i = p
    · rw [c]; exact h3.2
    · show mn_step T (mn_l T l p) p i = i
      have e := h2 i (by omega)
      by_cases c2 : mn_l T l p p = p
      · unfold mn_step; rw [if_pos c2]; exact e
      · rw [mn_step_n c2, if_neg c]
        have hq := PI_q h1 (show p < T by omega)
        rw [if_neg (fun e2 => by rw [← e2, e] at hq; exact c hq.2.1)]
        exact e
theorem mn_q_ok {T : Nat} {l : Nat → Nat} (h : PI T l) {p : Nat} (hp : p < T) (c : ¬ mn_l T l p p = p) : p < mn_q T (mn_l T l p) p ∧ mn_q T (mn_l T l p) p < T ∧ mn_l T l p (mn_q T (mn_l T l p) p) = p ∧ ∀ j, j < T → mn_l T l p j = p → j = mn_q T (mn_l T l p) p := by
  obtain ⟨h1, h2⟩ := mn_l_ok h p (by omega)
  obtain ⟨q1, q2, q3⟩ := PI_q h1 hp
  refine ⟨?_, q1, q2, q3⟩
  rcases Nat.lt_trichotomy p (mn_q T (mn_l T l p) p) with a | a | a
  · exact a
  · rw [← a] at q2; exact absurd q2 c
  · have := h2 _ a; omega
theorem mn_n_le (T : Nat) (l : Nat → Nat) : ∀ p, mn_n T l p ≤ p
  | 0 => Nat.le_refl 0
  | p + 1 => by
    have := mn_n_le T l p
    unfold mn_n
    split <;> omega
theorem mn_n_mono (T : Nat) (l : Nat → Nat) {p : Nat} : ∀ k, mn_n T l p ≤ mn_n T l (p + k)
  | 0 => Nat.le_refl _
  | k + 1 => by
    have := mn_n_mono T l (p := p) k
    have e : mn_n T l (p + (k + 1)) = mn_n T l (p + k) + (if mn_l T l (p + k) (p + k) = p + k then 0 else 1) := rfl
    rw [e]; omega
theorem mn_n_lt {T : Nat} {l : Nat → Nat} {p q : Nat} (h : p < q) (c : ¬ mn_l T l p p = p) : mn_n T l p < mn_n T l q := by
  have e : mn_n T l (p + 1) = mn_n T l p + (if mn_l T l p p = p then 0 else 1) := rfl
  rw [if_neg c] at e
  have := mn_n_mono T l (p := p + 1) (q - (p + 1))
  rw [show p + 1 + (q - (p + 1)) = q by omega] at this
  omega
theorem mn_n_on {T : Nat} {l : Nat → Nat} : ∀ q i, i < mn_n T l q → ∃ p, p < q ∧ ¬ mn_l T l p p = p ∧ mn_n T l p = i
  | 0, i, h => absurd h (Nat.not_lt_zero i)
  | q + 1, i, h => by
    have e : mn_n T l (q + 1) = mn_n T l q + (if mn_l T l q q = q then 0 else 1) := rfl
    rw [e] at h
    by_cases c : i < mn_n T l q
    · obtain ⟨p, h1, h2, h3⟩ := mn_n_on q i c
      exact ⟨p, by omega, h2, h3⟩
    · by_cases c2 : mn_l T l q q = q
      · rw [if_pos c2] at h; omega
      · rw [if_neg c2] at h; exact ⟨q, by omega, c2, by omega⟩
theorem mn_f_t {T : Nat} {l : Nat → Nat} {i : Int} {p : Nat} : mn_f T l i p = true ↔ (¬ mn_l T l p p = p) ∧ ((mn_n T l p : Nat) : Int) = i := by
  unfold mn_f
  simp
theorem mn_f_f {T : Nat} {l : Nat → Nat} {i : Int} {p : Nat} (h : ¬ mn_l T l p p = p → ¬ ((mn_n T l p : Nat) : Int) = i) : mn_f T l i p = false := by
  cases e : mn_f T l i p with
  | false => rfl
  | true => have := mn_f_t.1 e; exact absurd this.2 (h this.1)
theorem mn_first {T : Nat} {l : Nat → Nat} {i p : Nat} (hp : p < T) (c : ¬ mn_l T l p p = p) (e : mn_n T l p = i) : sp_first (mn_f T l (i : Int)) T = p :=
  sp_first_hit T hp (mn_f_t.2 ⟨c, by omega⟩) (fun j hj => mn_f_f (fun cj => by have := mn_n_lt hj cj; omega))
set_option maxRecDepth 20000 in
theorem M_mend_q {d T p n : Nat} {i s : Int} {l : Nat → Nat} {ν : Mem} {Q : AV → Mem → Prop} (hT : T ≤ 6) (hl : ∀ j, j < T → ν 71 j = ((l j : Nat) : Int)) {q : Nat} (hq : q < T) (e : l q = p) (hu : ∀ j, j < T → l j = p → j = q) (h : DW (d + 2) 164 69 [xR 61, xI i, xI s, xI (n : Int), xI (p : Int), xI (q : Int)] ν Q) : ∀ m j, j + m = q → DW (d + 2) 164 60 [xR 61, xI i, xI s, xI (n : Int), xI (p : Int), xI (j : Int)] ν Q := by
  intro m
  induction m with
  | zero =>
    intro j hj
    have hj' : j = q := by omega
    subst hj'
    refine sg_M_mend_60 ?_
    rw [wb_eq (by omega) (by omega), Int.toNat_natCast, hl j hq, e, if_pos rfl]
    exact h
  | succ m ih =>
    intro j hj
    refine sg_M_mend_60 ?_
    rw [wb_eq (by omega) (by omega), Int.toNat_natCast, hl j (by omega)]
    rw [if_neg (fun e2 => by have := hu j (by omega) (by omega); omega), iw_k1 (by omega)]
    exact ih (j + 1) (by omega)
set_option maxRecDepth 20000 in
theorem M_mend_2 {d : Nat} {i s : Int} {μ μ0 : Mem} {α : Al} {Q : AV → Mem → Prop} {v5 : AV} (hv : vM μ α) (hw : wf α) (hi : -1 ≤ i) (h0 : ∀ c j, c ≠ 71 → μ0 c j = μ c j) (hl : ∀ j, j < α.1 0 1 → μ0 71 j = ((α.1 9 j : Nat) : Int)) (h : ∀ μ', (∀ c j, c ≠ 71 → μ' c j = μ c j) → Q (xI (if i = -1 then ((mn_n (α.1 0 1) (α.1 9) (α.1 0 1) : Nat) : Int) else mn_r (α.1 0 1) (α.1 9) s (sp_first (mn_f (α.1 0 1) (α.1 9) i) (α.1 0 1)))) μ') : DW (d + 2) 164 45 [xR 61, xI i, xI s, xI 0, xI 0, v5] μ0 Q := by
  have hT := wf_T hw
  have hPI := PI_wf hw
  refine lp_up (fun p (x : Mem × AV) => DW (d + 2) 164 45 [xR 61, xI i, xI s, xI ((mn_n (α.1 0 1) (α.1 9) p : Nat) : Int), xI (p : Int), x.2] x.1 Q) (fun p x => (∀ c j, c ≠ 71 → x.1 c j = μ c j) ∧ (∀ j, j < α.1 0 1 → x.1 71 j = ((mn_l (α.1 0 1) (α.1 9) p j : Nat) : Int)) ∧ ∀ j, j < p → mn_f (α.1 0 1) (α.1 9) i j = false) (α.1 0 1) ?_ ?_ (α.1 0 1) 0 (μ0, v5) (by omega) ⟨h0, hl, fun j hj => absurd hj (Nat.not_lt_zero j)⟩
  · intro p x hp hI hn
    obtain ⟨hf, hm, hz⟩ := hI
    have hnl := mn_n_le (α.1 0 1) (α.1 9) p
    refine sg_M_mend_45 ?_
    rw [hf 61 2 (by decide), vM_T hv, if_pos (by omega), wb_eq (by omega) (by omega), Int.toNat_natCast, hm p hp]
    have en : mn_n (α.1 0 1) (α.1 9) (p + 1) = mn_n (α.1 0 1) (α.1 9) p + (if mn_l (α.1 0 1) (α.1 9) p p = p then 0 else 1) := rfl
    have el : mn_l (α.1 0 1) (α.1 9) (p + 1) = mn_step (α.1 0 1) (mn_l (α.1 0 1) (α.1 9) p) p := rfl
    refine wi (fun c => ?_) (fun c => ?_)
    · have c' : mn_l (α.1 0 1) (α.1 9) p p = p := by omega
      rw [if_pos c'] at en
      have en2 : mn_n (α.1 0 1) (α.1 9) p = mn_n (α.1 0 1) (α.1 9) (p + 1) := by omega
      rw [iw_k1 (by omega), en2]
      refine hn x ⟨hf, ?_, ?_⟩
      · intro j hj
        rw [el]
        unfold mn_step
        rw [if_pos c']; exact hm j hj
      · intro j hj
        by_cases e : j = p
        · rw [e]; exact mn_f_f (fun cc => absurd c' cc)
        · exact hz j (by omega)
    · have c' : ¬ mn_l (α.1 0 1) (α.1 9) p p = p := by omega
      rw [if_neg c'] at en
      obtain ⟨q0, q1, q2, q3⟩ := mn_q_ok hPI hp c'
      rw [iw_k1 (by omega)]
      refine M_mend_q hT hm q1 q2 q3 ?_ (mn_q (α.1 0 1) (mn_l (α.1 0 1) (α.1 9) p) p - (p + 1)) (p + 1) (by omega)
      refine sg_M_mend_69 ?_
      refine wi (fun c2 => ?_) (fun c2 => ?_)
      · have hh := h x.1 hf
        have hne : ¬ i = -1 := by omega
        rw [if_neg hne, ← c2, mn_first hp c' rfl] at hh
        unfold mn_r at hh
        rw [if_pos hp] at hh
        refine wi (fun c3 => ?_) (fun c3 => ?_)
        · rw [if_pos c3] at hh; exact hh
        · rw [if_neg c3] at hh; exact hh
      · rw [wb_eq (by omega) (by omega), wb_eq (by omega) (by omega), wb_eq (by omega) (by omega), Int.toNat_natCast, Int.toNat_natCast, iw_k1 (by omega), iw_k1 (by omega), hm p hp, ← en]
        refine hn (_, xI ((mn_q (α.1 0 1) (mn_l (α.1 0 1) (α.1 9) p) p : Nat) : Int)) ⟨?_, ?_, ?_⟩
        · intro c j hc
          show xset _ _ _ _ c j = μ c j
          rw [xs_c hc, xs_c hc]; exact hf c j hc
        · intro j hj
          show xset _ _ _ _ 71 j = _
          rw [el, mn_step_n c']
          by_cases e1 : j = p
          · rw [e1, if_pos rfl]; exact xs_s
          · rw [if_neg e1, xs_j e1]
            by_cases e2 : j = mn_q (α.1 0 1) (mn_l (α.1 0 1) (α.1 9) p) p
            · rw [← e2, if_pos rfl]; exact xs_s
            · rw [if_neg e2, xs_j e2]; exact hm j hj
        · intro j hj
          by_cases e : j = p
          · rw [e]; exact mn_f_f (fun _ => c2)
          · exact hz j (by omega)
  · intro x hI
    obtain ⟨hf, hm, hz⟩ := hI
    refine sg_M_mend_45 ?_
    rw [hf 61 2 (by decide), vM_T hv, if_neg (by omega)]
    refine sg_M_mend_95 ?_
    have hh := h x.1 hf
    rw [sp_first_no _ hz] at hh
    unfold mn_r at hh
    rw [if_neg (Nat.lt_irrefl _)] at hh
    refine wi (fun c3 => ?_) (fun c3 => ?_)
    · rw [if_pos c3] at hh; exact hh
    · rw [if_neg c3] at hh; exact hh
theorem fM_71 {μ μ' : Mem} (h : ∀ c j, c ≠ 71 → μ' c j = μ c j) : fM μ μ' := ⟨fun j _ => h 61 j (by decide), fun c j h1 h2 _ => h c j (by omega)⟩
set_option maxRecDepth 20000 in
theorem M_mend_ok {d : Nat} {i s : Int} {μ : Mem} {α : Al} {Q : AV → Mem → Prop} (hv : vM μ α) (hw : wf α) (h : ∀ μ', vM μ' α → Q (xI (r_mend α i s)) μ') : GM (d + 2) 164 [xR 61, xI i, xI s] μ Q := by
  have hT := wf_T hw
  have hP := wf_P hw
  refine ge_M_mend ?_
  unfold r_mend at h
  refine wi (fun c => ?_) (fun c => ?_)
  · rw [if_pos c] at h; exact h μ hv
  rw [if_neg c] at h
  refine wi (fun c1 => ?_) (fun c1 => ?_)
  · rw [if_pos c1] at h; exact h μ hv
  rw [if_neg c1] at h
  refine wi (fun c2 => ?_) (fun c2 => ?_)
  · rw [if_pos c2] at h; exact h μ hv
  rw [if_neg c2] at h
  refine lp_up (fun p (x : Mem) => DW (d + 2) 164 12 [xR 61, xI i, xI s, xI (p : Int), xL 0, xL 0] x Q) (fun p x => (∀ c j, c ≠ 71 → x c j = μ c j) ∧ (∀ j, j < p → x 71 j = ((α.1 9 j : Nat) : Int)) ∧ ∀ j, j < p → (α.1 1 (α.1 4 j) == 1 && !(α.1 9 j == j)) = false) (α.1 0 1) ?_ ?_ (α.1 0 1) 0 μ (by omega) ⟨fun _ _ _ => rfl, fun j hj => absurd hj (Nat.not_lt_zero j), fun j hj => absurd hj (Nat.not_lt_zero j)⟩
  · intro p x hp hI hn
    obtain ⟨hf, hm, hz⟩ := hI
    have hk := wf_keep hw p hp
    have hv' := vM_fr (fM_71 hf) hv
    refine sg_M_mend_12 ?_
    simp (disch := omega) only [vM_T hv', iw_50, iw_k2, wb_eq, Int.toNat_natCast, vM_keep hv', vM_one hv', vM_lie hv', iw_k1, ii_lt, ii_eq, ii_1]
    rw [if_pos hp]
    have st : (α.1 1 (α.1 4 p) == 1 && !(α.1 9 p == p)) = false → DW (d + 2) 164 12 [xR 61, xI i, xI s, xI ((p + 1 : Nat) : Int), xL 0, xL 0] (xset x 71 p ((α.1 9 p : Nat) : Int)) Q := fun hz' => by
      refine hn _ ⟨fun c j hc => by rw [xs_c hc]; exact hf c j hc, fun j hj => ?_, fun j hj => ?_⟩
      · by_cases e : j = p
        · rw [e]; exact xs_s
        · rw [xs_j e]; exact hm j (by omega)
      · by_cases e : j = p
        · rw [e]; exact hz'
        · exact hz j (by omega)
    refine wi (fun c3 => ?_) (fun c3 => ?_)
    · refine wi (fun c4 => ?_) (fun c4 => ?_)
      · exact st (by simp [c4])
      · have e : mn_w α = p := sp_first_hit _ hp (by simp [c3, c4]) hz
        rw [e, if_pos hp] at h
        exact h _ (vM_fr (fM_71 (fun c j hc => by rw [xs_c hc]; exact hf c j hc)) hv)
    · exact st (by simp [c3])
  · intro x hI
    obtain ⟨hf, hm, hz⟩ := hI
    refine sg_M_mend_12 ?_
    rw [hf 61 2 (by decide), vM_T hv, if_neg (by omega)]
    refine sg_M_mend_40 ?_
    have e : mn_w α = α.1 0 1 := sp_first_no _ hz
    rw [e, if_neg (Nat.lt_irrefl _)] at h
    exact M_mend_2 hv hw (by omega) hf hm (fun μ' hf' => h μ' (vM_fr (fM_71 hf') hv))
theorem X_placeOfOwn_ok {d T p : Nat} {l : Nat → Nat} {μ : Mem} {Q : AV → Mem → Prop} (hT : T ≤ 6) (ht : μ 2 1 = (T : Int)) (hl : ∀ j, j < T → μ 40 j = ((l j : Nat) : Int)) {q : Nat} (hq : q < T) (hpq : p ≤ q) (e : l q = p) (hu : ∀ j, j < T → l j = p → j = q) (h : Q (xI (q : Int)) μ) : GM d 71 [xR 8, xI (p : Int)] μ Q := by
  refine ge_Mend_placeOfOwn ?_
  have key : ∀ m j, j + m = q → DW d 71 2 [xR 8, xI (p : Int), xI (j : Int)] μ Q := by
    intro m
    induction m with
    | zero =>
      intro j hj
      have hj' : j = q := by omega
      subst hj'
      refine sg_Mend_placeOfOwn_2 ?_
      rw [ht, if_pos (by omega), wb_eq (by omega) (by omega), Int.toNat_natCast, hl j hq, e, if_pos rfl]
      exact h
    | succ m ih =>
      intro j hj
      refine sg_Mend_placeOfOwn_2 ?_
      rw [ht, if_pos (by omega), wb_eq (by omega) (by omega), Int.toNat_natCast, hl j (by omega)]
      rw [if_neg (fun e2 => by have := hu j (by omega) (by omega); omega), iw_k1 (by omega)]
      exact ih (j + 1) (by omega)
  exact key (q - p) p (by omega)
set_option maxRecDepth 20000 in
theorem X_mendfind_ok {d : Nat} {μ : Mem} {α : Al} {Q : AV → Mem → Prop} (hv : vX μ α) (hw : wf α) (h1 : mn_w α < α.1 0 1 → ∀ μ', (∀ c j, c ≠ 38 → c ≠ 39 → c ≠ 40 → μ' c j = μ c j) → Q (xI (-1)) μ') (h2 : ¬ mn_w α < α.1 0 1 → ∀ μ', (∀ c j, c ≠ 38 → c ≠ 39 → c ≠ 40 → μ' c j = μ c j) → (∀ p, p < α.1 0 1 → ¬ mn_l (α.1 0 1) (α.1 9) p p = p → μ' 38 (mn_n (α.1 0 1) (α.1 9) p) = (p : Int) ∧ μ' 39 (mn_n (α.1 0 1) (α.1 9) p) = ((mn_q (α.1 0 1) (mn_l (α.1 0 1) (α.1 9) p) p : Nat) : Int)) → Q (xI ((mn_n (α.1 0 1) (α.1 9) (α.1 0 1) : Nat) : Int)) μ') : GM (d + 1) 70 [xR 8] μ Q := by
  have hT := wf_T hw
  have hP := wf_P hw
  have hPI := PI_wf hw
  refine ge_Mend_find ?_
  have hc0 : ∀ c j, c ≠ 38 → c ≠ 39 → c ≠ 40 → xcpy μ 23 40 0 0 6 c j = μ c j := fun c j _ _ h => xc_o h
  have hl0 : ∀ j, j < α.1 0 1 → xcpy μ 23 40 0 0 6 40 j = ((α.1 9 j : Nat) : Int) := fun j hj => by rw [xc_i (by omega)]; exact vX_lie hv j hj
  have hv0 : vX (xcpy μ 23 40 0 0 6) α := vX_fr ⟨⟨xc_o (by decide), xc_o (by decide)⟩, fun c j hcj => xc_o (fun e => by subst e; revert hcj; decide)⟩ hv
  generalize xcpy μ 23 40 0 0 6 = ν at hc0 hl0 hv0
  have key : ∀ m p, p + m = α.1 0 1 → (∀ j, j < p → (α.1 1 (α.1 4 j) == 1 && !(α.1 9 j == j)) = false) → DW (d + 1) 70 11 [xR 8, xI (p : Int), xL 0, xL 0] ν Q := by
    intro m
    induction m with
    | zero =>
      intro p hp hz
      have hp' : p = α.1 0 1 := by omega
      subst hp'
      refine sg_Mend_find_11 ?_
      rw [vX_T hv0, if_neg (by omega)]
      refine sg_Mend_find_33 ?_
      have e : mn_w α = α.1 0 1 := sp_first_no _ hz
      have h3 := h2 (by omega)
      refine lp_up (fun p (x : Mem × AV) => DW (d + 1) 70 38 [xR 8, xI ((mn_n (α.1 0 1) (α.1 9) p : Nat) : Int), xI (p : Int), x.2] x.1 Q) (fun p x => (∀ c j, c ≠ 38 → c ≠ 39 → c ≠ 40 → x.1 c j = μ c j) ∧ (∀ j, j < α.1 0 1 → x.1 40 j = ((mn_l (α.1 0 1) (α.1 9) p j : Nat) : Int)) ∧ ∀ j, j < p → ¬ mn_l (α.1 0 1) (α.1 9) j j = j → x.1 38 (mn_n (α.1 0 1) (α.1 9) j) = (j : Int) ∧ x.1 39 (mn_n (α.1 0 1) (α.1 9) j) = ((mn_q (α.1 0 1) (mn_l (α.1 0 1) (α.1 9) j) j : Nat) : Int)) (α.1 0 1) ?_ ?_ (α.1 0 1) 0 (ν, xL 0) (by omega) ⟨hc0, hl0, fun j hj => absurd hj (Nat.not_lt_zero j)⟩
      · intro p x hp hI hn
        obtain ⟨hf, hm, hz⟩ := hI
        have hnl := mn_n_le (α.1 0 1) (α.1 9) p
        have hT2 : x.1 2 1 = ((α.1 0 1 : Nat) : Int) := (hf 2 1 (by decide) (by decide) (by decide)).trans (vX_T hv)
        refine sg_Mend_find_38 ?_
        rw [hT2, if_pos (by omega), wb_eq (by omega) (by omega), Int.toNat_natCast, hm p hp]
        have en : mn_n (α.1 0 1) (α.1 9) (p + 1) = mn_n (α.1 0 1) (α.1 9) p + (if mn_l (α.1 0 1) (α.1 9) p p = p then 0 else 1) := rfl
        have el : mn_l (α.1 0 1) (α.1 9) (p + 1) = mn_step (α.1 0 1) (mn_l (α.1 0 1) (α.1 9) p) p := rfl
        refine wi (fun c => ?_) (fun c => ?_)
        · have c' : mn_l (α.1 0 1) (α.1 9) p p = p := by omega
          rw [if_pos c'] at en
          have en2 : mn_n (α.1 0 1) (α.1 9) p = mn_n (α.1 0 1) (α.1 9) (p + 1) := by omega
          rw [iw_k1 (by omega), en2]
          refine hn x ⟨hf, ?_, ?_⟩
          · intro j hj
            rw [el]
            unfold mn_step
            rw [if_pos c']; exact hm j hj
          · intro j hj cj
            by_cases e : j = p
            · rw [e] at cj; exact absurd c' cj
            · exact hz j (by omega) cj
        · have c' : ¬ mn_l (α.1 0 1) (α.1 9) p p = p := by omega
          rw [if_neg c'] at en
          obtain ⟨q0, q1, q2, q3⟩ := mn_q_ok hPI hp c'
          refine X_placeOfOwn_ok hT hT2 hm q1 (by omega) q2 q3 ?_
          refine gI_mk ?_
          rw [wb_eq (by omega) (by omega), wb_eq (by omega) (by omega), wb_eq (by omega) (by omega), wb_eq (by omega) (by omega), wb_eq (by omega) (by omega), Int.toNat_natCast, Int.toNat_natCast, iw_k1 (by omega), iw_k1 (by omega), hm p hp, ← en]
          refine hn (_, xI ((mn_q (α.1 0 1) (mn_l (α.1 0 1) (α.1 9) p) p : Nat) : Int)) ⟨?_, ?_, ?_⟩
          · intro c j h38 h39 h40
            show xset _ _ _ _ c j = μ c j
            rw [xs_c h40, xs_c h40, xs_c h39, xs_c h38]; exact hf c j h38 h39 h40
          · intro j hj
            show xset _ _ _ _ 40 j = _
            rw [el, mn_step_n c']
            by_cases e1 : j = p
            · rw [e1, if_pos rfl]; exact xs_s
            · rw [if_neg e1, xs_j e1]
              by_cases e2 : j = mn_q (α.1 0 1) (mn_l (α.1 0 1) (α.1 9) p) p
              · rw [← e2, if_pos rfl]; exact xs_s
              · rw [if_neg e2, xs_j e2, xs_c (by decide), xs_c (by decide)]; exact hm j hj
          · intro j hj cj
            by_cases e : j = p
            · subst e
              refine ⟨?_, ?_⟩
              · exact xs_s (μ := x.1) (c := 38)
              · exact xs_s (μ := x.1) (c := 39)
            · have hlt := mn_n_lt (show j < p by omega) cj
              refine ⟨?_, ?_⟩
              · exact (xs_j (μ := x.1) (c := 38) (by omega)).trans (hz j (by omega) cj).1
              · exact (xs_j (μ := x.1) (c := 39) (by omega)).trans (hz j (by omega) cj).2
      · intro x hI
        obtain ⟨hf, hm, hz⟩ := hI
        refine sg_Mend_find_38 ?_
        rw [hf 2 1 (by decide) (by decide) (by decide), vX_T hv, if_neg (by omega)]
        exact h3 x.1 hf (fun p hp cp => hz p hp cp)
    | succ m ih =>
      intro p hp hz
      have hp' : p < α.1 0 1 := by omega
      have hk := wf_keep hw p hp'
      refine sg_Mend_find_11 ?_
      rw [vX_T hv0, if_pos (by omega), wb_eq (by omega) (by omega), Int.toNat_natCast, hl0 p hp', iw_k1 (by omega)]
      refine wi (fun c => ?_) (fun c => ?_)
      · refine ih (p + 1) (by omega) (fun j hj => ?_)
        by_cases e : j = p
        · rw [e]; simp [show α.1 9 p = p by omega]
        · exact hz j (by omega)
      · rw [wb_eq (by omega) (by omega), vX_keep hv0 p hp', wb_eq (by omega) (by omega), Int.toNat_natCast, vX_one hv0 _ hk]
        refine wi (fun c2 => ?_) (fun c2 => ?_)
        · have e : mn_w α = p := sp_first_hit _ hp' (by have e1 : α.1 1 (α.1 4 p) = 1 := by omega
                                                        have e2 : ¬ α.1 9 p = p := by omega
                                                        simp [e1, e2]) hz
          exact h1 (by omega) ν hc0
        · refine ih (p + 1) (by omega) (fun j hj => ?_)
          by_cases e : j = p
          · rw [e]
            have e1 : ¬ α.1 1 (α.1 4 p) = 1 := by omega
            simp [e1]
          · exact hz j (by omega)
  exact key (α.1 0 1) 0 (by omega) (fun j hj => absurd hj (Nat.not_lt_zero j))
set_option maxRecDepth 20000 in
theorem X_mend_ok {d : Nat} {i s : Int} {μ : Mem} {α : Al} {Q : AV → Mem → Prop} (hv : vX μ α) (hw : wf α) (h : ∀ μ', (∀ c j, c ≠ 38 → c ≠ 39 → c ≠ 40 → μ' c j = μ c j) → Q (xI (r_mend α i s)) μ') : GM (d + 2) 69 [xR 0, xI i, xI s] μ Q := by
  have hT := wf_T hw
  refine ge_X_mend ?_
  unfold r_mend at h
  have rf : ∀ c j, c ≠ 38 → c ≠ 39 → c ≠ 40 → μ c j = μ c j := fun _ _ _ _ _ => rfl
  refine wi (fun c => ?_) (fun c => ?_)
  · rw [if_pos c] at h; exact h μ rf
  rw [if_neg c] at h
  refine wi (fun c1 => ?_) (fun c1 => ?_)
  · rw [if_pos c1] at h; exact h μ rf
  rw [if_neg c1] at h
  refine wi (fun c2 => ?_) (fun c2 => ?_)
  · rw [if_pos c2] at h; exact h μ rf
  rw [if_neg c2] at h
  refine X_mendfind_ok hv hw (fun hb μ' hf => ?_) (fun hb μ' hf hp => ?_)
  · rw [if_pos hb] at h
    refine gI_mk ?_
    refine wi (fun c3 => ?_) (fun c3 => ?_)
    · exact h μ' hf
    · rw [if_neg (by omega)]; exact h μ' hf
  · rw [if_neg hb] at h
    refine gI_mk ?_
    refine wi (fun c3 => ?_) (fun c3 => ?_)
    · rw [if_pos c3] at h; exact h μ' hf
    rw [if_neg c3] at h
    obtain ⟨i, rfl⟩ := Int.eq_ofNat_of_zero_le (show 0 ≤ i by omega)
    have hnl := mn_n_le (α.1 0 1) (α.1 9) (α.1 0 1)
    refine wi (fun c4 => ?_) (fun c4 => ?_)
    · obtain ⟨p, hp1, hp2, hp3⟩ := mn_n_on (T := α.1 0 1) (l := α.1 9) (α.1 0 1) i (by omega)
      have hpp := hp p hp1 hp2
      rw [mn_first hp1 hp2 hp3] at h
      unfold mn_r at h
      rw [if_pos hp1] at h
      rw [hp3] at hpp
      rw [wb_eq (by omega) (by omega), wb_eq (by omega) (by omega), Int.toNat_natCast, hpp.1, hpp.2]
      refine wi (fun c5 => ?_) (fun c5 => ?_)
      · rw [if_pos c5] at h; exact h μ' hf
      · rw [if_neg c5] at h; exact h μ' hf
    · have e : sp_first (mn_f (α.1 0 1) (α.1 9) (i : Int)) (α.1 0 1) = α.1 0 1 := sp_first_no _ (fun j hj => mn_f_f (fun cj => by have := mn_n_lt hj cj; omega))
      rw [e] at h
      unfold mn_r at h
      rw [if_neg (Nat.lt_irrefl _)] at h
      exact h μ' hf
