/-! the class: odds, the next word, counts -/
theorem fW_refl (μ : Mem) : fW μ μ := fun _ _ _ _ _ _ _ => rfl
set_option maxRecDepth 20000 in
theorem X_withCharm_ok {d p : Nat} {μ : Mem} {α : Al} {Q : AV → Mem → Prop} (hv : vX μ α) (hw : wf α) (hG : vG μ α) (hp : p < α.1 0 1) (h : Q (xI ((CF α (gK α p) : Nat) : Int)) μ) : GM (d + 1) 101 [xR 10, xI (p : Int)] μ Q := by
  have hT := wf_T hw
  refine ge_Fits_withCharm ?_
  have hs := LY_sum hw hp (fun t => decide (0 < α.1 2 t))
  have hle : ∀ i, i < α.1 0 1 → (fun t => if decide (0 < α.1 2 t) = true then LY α p t else 0) i ≤ 720 := fun i _ => by
    have := LY_le hw p i
    show (if decide (0 < α.1 2 i) = true then LY α p i else 0) ≤ 720
    split <;> omega
  have key : ∀ m t, t + m = α.1 0 1 → DW (d + 1) 101 4 [xR 10, xI (p : Int), xI ((sm (fun t => if decide (0 < α.1 2 t) = true then LY α p t else 0) t : Nat) : Int), xI (t : Int)] μ Q := by
    intro m
    induction m with
    | zero =>
      intro t ht
      refine sg_Fits_withCharm_4 ?_
      rw [vX_T hv, if_neg (by omega), show t = α.1 0 1 by omega, hs]
      exact h
    | succ m ih =>
      intro t ht
      have hi := ih (t + 1) (by omega)
      have hb := sm_le t (fun i hi => hle i (by omega))
      have hb2 : t * 720 ≤ 6 * 720 := Nat.mul_le_mul_right _ (by omega)
      have hb3 := LY_le hw p t
      rw [sm] at hi
      refine sg_Fits_withCharm_4 ?_
      rw [vX_T hv, if_pos (by omega), wb_eq (by omega) (by omega), Int.toNat_natCast, vX_kind hv t (by omega), iw_66 (by omega) (by omega), wb_eq (by omega) (by omega), Int.toNat_natCast, hG.2.2.1 p t hp (by omega), iw_k1 (by omega), iw_ad (by omega)]
      refine wi (fun c => ?_) (fun c => ?_)
      · rw [if_neg (by rw [decide_eq_true_eq]; omega), Nat.add_zero] at hi
        exact hi
      · rw [if_pos (decide_eq_true (by omega))] at hi
        exact hi
  exact key (α.1 0 1) 0 (by omega)
theorem X_gcd_go {d g : Nat} {v0 v1 : AV} {μ : Mem} {Q : AV → Mem → Prop} (hg : 0 < g) (h : Q (xI (g : Int)) μ) : ∀ (n a b step : Nat) (v5 : AV), a < 1000 → b < 2 ^ n → n ≤ 10 → step + 2 * n ≤ 62 → Nat.gcd a b = g → DW (d + 1) 102 6 [v0, v1, xI (a : Int), xI (b : Int), xI (step : Int), v5] μ Q := by
  intro n
  have fin : ∀ (a step : Nat) (v5 : AV), step < 64 → Nat.gcd a 0 = g → DW (d + 1) 102 6 [v0, v1, xI (a : Int), xI 0, xI ((step : Nat) : Int), v5] μ Q := by
    intro a step v5 hs hga
    rw [Nat.gcd_zero_right] at hga
    refine sg_X_commonDivisor_6 ?_
    rw [if_pos (by omega), if_neg (by decide)]
    refine sg_X_commonDivisor_22 ?_
    rw [hga, show max (g : Int) 1 = (g : Int) by omega]
    exact h
  induction n with
  | zero =>
    intro a b step v5 ha hb hn hs hga
    have hb0 : b = 0 := by omega
    subst hb0
    exact fin a step v5 (by omega) hga
  | succ n ih =>
    intro a b step v5 ha hb hn hs hga
    have hb10 : b < 1024 := Nat.lt_of_lt_of_le hb (Nat.pow_le_pow_right (n := 2) (j := 10) (by decide) hn)
    by_cases c : b = 0
    · subst c
      exact fin a step v5 (by omega) hga
    · have hm := Nat.mod_lt a (show 0 < b by omega)
      refine sg_X_commonDivisor_6 ?_
      rw [if_pos (by omega), if_pos (by omega), wz_eq (by omega), xrem_nat, iw_k1 (by omega)]
      have hg1 : Nat.gcd b (a % b) = g := (gcd_step a b).trans hga
      by_cases c2 : a % b = 0
      · rw [c2] at hg1 ⊢
        exact fin b (step + 1) _ (by omega) hg1
      · have hm2 := Nat.mod_lt b (show 0 < a % b by omega)
        have hq : 0 < b / (a % b) := Nat.div_pos (by omega) (by omega)
        have hdm := Nat.div_add_mod b (a % b)
        have hmul : a % b * 1 ≤ a % b * (b / (a % b)) := Nat.mul_le_mul_left _ hq
        have hpw : 2 ^ (n + 1) = 2 * 2 ^ n := by rw [Nat.pow_succ, Nat.mul_comm]
        refine sg_X_commonDivisor_6 ?_
        rw [if_pos (by omega), if_pos (by omega), wz_eq (by omega), xrem_nat, iw_k1 (by omega)]
        have hab : a % b < 1000 := Nat.lt_of_le_of_lt (Nat.mod_le a b) ha
        exact ih (a % b) (b % (a % b)) (step + 1 + 1) _ hab (by omega) (by omega) (by omega) ((gcd_step b (a % b)).trans hg1)
theorem X_commonDivisor_ok {d a b : Nat} {μ : Mem} {Q : AV → Mem → Prop} (ha : a < 1000) (hb : b < 1000) (hb0 : 0 < b) (h : Q (xI ((Nat.gcd a b : Nat) : Int)) μ) : GM (d + 1) 102 [xI (a : Int), xI (b : Int)] μ Q := by
  refine ge_X_commonDivisor ?_
  exact X_gcd_go (Nat.gcd_pos_of_pos_right a hb0) h 10 a b 0 _ ha (by omega) (by omega) (by omega) rfl
theorem X_odds_ok {d : Nat} {p s : Int} {μ : Mem} {α : Al} {Q : AV → Mem → Prop} (hv : vX μ α) (hw : wf α) (h : ∀ μ', fW μ μ' → Q (xI (r_odds α p s)) μ') : GM (d + 5) 100 [xR 0, xI p, xI s] μ Q := by
  have hT := wf_T hw
  have hL := FT_le hw
  refine ge_X_odds ?_
  unfold r_odds at h
  rw [vX_T hv]
  refine wi (fun c0 => ?_) (fun c0 => ?_)
  · rw [if_pos c0] at h; exact h μ (fW_refl μ)
  rw [if_neg c0] at h
  refine wi (fun c1 => ?_) (fun c1 => ?_)
  · rw [if_pos c1] at h
    refine wi (fun c2 => ?_) (fun c2 => ?_)
    · rw [if_pos c2] at h; exact h μ (fW_refl μ)
    rw [if_neg c2] at h
    refine wi (fun c3 => ?_) (fun c3 => ?_)
    · rw [if_pos c3] at h; exact h μ (fW_refl μ)
    rw [if_neg c3] at h
    obtain ⟨p, rfl⟩ := Int.eq_ofNat_of_zero_le (show 0 ≤ p by omega)
    rw [Int.toNat_natCast] at h
    refine X_weigh_ok hv hw (fun μ' hf hv' hG => ?_)
    refine gV_mk ?_
    have hh := h μ' hf
    rw [hG.2.2.2]
    refine wi (fun c4 => ?_) (fun c4 => ?_)
    · rw [if_pos (by omega)] at hh; exact hh
    rw [if_neg (by omega)] at hh
    refine X_withCharm_ok hv' hw hG (by omega) ?_
    refine gI_mk ?_
    have hc := CF_le α (gK α p)
    rw [hG.2.2.2]
    refine X_commonDivisor_ok (by omega) (by omega) (by omega) ?_
    refine gI_mk ?_
    have hgp : 0 < Nat.gcd (CF α (gK α p)) (FT α).length := Nat.gcd_pos_of_pos_right _ (by omega)
    rw [wz_eq (by omega), wz_eq (by omega), hG.2.2.2, xdiv_nat (by omega), xdiv_nat (by omega)]
    refine wi (fun c5 => ?_) (fun c5 => ?_)
    · rw [if_pos c5] at hh; exact hh
    · rw [if_neg c5] at hh; exact hh
  · rw [if_neg c1] at h; exact h μ (fW_refl μ)
set_option maxRecDepth 20000 in
theorem X_leftAtMost_ok {d q : Nat} {μ : Mem} {α : Al} {Q : AV → Mem → Prop} (hv : vX μ α) (hw : wf α) (hG : vG μ α) (hq : q < 4 * α.1 0 1) (h : Q (xI ((lft α q : Nat) : Int)) μ) : GM (d + 2) 105 [xR 10, xI ((q / 4 : Nat) : Int), xI ((q % 4 : Nat) : Int)] μ Q := by
  have hT := wf_T hw
  have hL := FT_le hw
  have hp : q / 4 < α.1 0 1 := by omega
  refine ge_Fits_leftAtMost ?_
  have hs := LY_sum hw hp (fun t => decide (sp_works α t (q / 4) ((q % 4 : Nat) : Int) = 1))
  have hle : ∀ i, i < α.1 0 1 → (fun t => if decide (sp_works α t (q / 4) ((q % 4 : Nat) : Int) = 1) = true then LY α (q / 4) t else 0) i ≤ 720 := fun i _ => by
    have := LY_le hw (q / 4) i
    show (if decide (sp_works α i (q / 4) ((q % 4 : Nat) : Int) = 1) = true then LY α (q / 4) i else 0) ≤ 720
    split <;> omega
  have key : ∀ m t, t + m = α.1 0 1 → DW (d + 2) 105 4 [xR 10, xI ((q / 4 : Nat) : Int), xI ((q % 4 : Nat) : Int), xI ((sm (fun t => if decide (sp_works α t (q / 4) ((q % 4 : Nat) : Int) = 1) = true then LY α (q / 4) t else 0) t : Nat) : Int), xI (t : Int)] μ Q := by
    intro m
    induction m with
    | zero =>
      intro t ht
      refine sg_Fits_leftAtMost_4 ?_
      rw [vX_T hv, if_neg (by omega), show t = α.1 0 1 by omega, hs]
      refine sg_Fits_leftAtMost_30 ?_
      have hc := CF_le α (gW α q)
      have e : CF α (fun r => decide (sp_works α (rv (α.1 0 1) r (q / 4)) (q / 4) ((q % 4 : Nat) : Int) = 1)) = CF α (gW α q) := rfl
      rw [hG.2.2.2, e, iw_s2 hc (by omega)]
      unfold lft at h
      by_cases c : (FT α).length - CF α (gW α q) < CF α (gW α q)
      · rw [if_pos c] at h
        rw [show max ((CF α (gW α q) : Nat) : Int) (((FT α).length - CF α (gW α q) : Nat) : Int) = ((CF α (gW α q) : Nat) : Int) by omega]
        exact h
      · rw [if_neg c] at h
        rw [show max ((CF α (gW α q) : Nat) : Int) (((FT α).length - CF α (gW α q) : Nat) : Int) = (((FT α).length - CF α (gW α q) : Nat) : Int) by omega]
        exact h
    | succ m ih =>
      intro t ht
      have hi := ih (t + 1) (by omega)
      have hb := sm_le t (fun i hi => hle i (by omega))
      have hb2 : t * 720 ≤ 6 * 720 := Nat.mul_le_mul_right _ (by omega)
      have hb3 := LY_le hw (q / 4) t
      have h01 := sp_works01 α t (q / 4) ((q % 4 : Nat) : Int)
      rw [sm] at hi
      refine sg_Fits_leftAtMost_4 ?_
      rw [vX_T hv, if_pos (by omega), iw_66 (by omega) (by omega), iw_k1 (by omega)]
      refine X_works_ok hv hw (by omega) hp ?_
      refine gI_mk ?_
      rw [wb_eq (by omega) (by omega), Int.toNat_natCast, hG.2.2.1 _ t hp (by omega), iw_ad (by omega)]
      refine wi (fun c => ?_) (fun c => ?_)
      · rw [if_neg (by rw [decide_eq_true_eq]; omega), Nat.add_zero] at hi
        exact hi
      · rw [if_pos (decide_eq_true (by omega))] at hi
        exact hi
  exact key (α.1 0 1) 0 (by omega)
theorem nx_2 (α : Al) : ∀ n, (nx α n).2 = lft α (nx α n).1
  | 0 => rfl
  | n + 1 => by
    have := nx_2 α n
    rw [nx]
    split
    · rfl
    · exact this
set_option maxRecDepth 20000 in
theorem X_bestPair_ok {d : Nat} {μ : Mem} {α : Al} {Q : AV → Mem → Prop} (hv : vX μ α) (hw : wf α) (hG : vG μ α) (hT0 : 0 < α.1 0 1) (h : Q (xI (((nx α (4 * α.1 0 1 - 1)).1 : Nat) : Int)) μ) : GM (d + 3) 104 [xR 10] μ Q := by
  have hT := wf_T hw
  refine ge_Fits_bestPair ?_
  refine X_leftAtMost_ok (q := 0) hv hw hG (by omega) ?_
  refine gI_mk ?_
  have e4 : iw (((α.1 0 1 : Nat) : Int) * 4) = ((4 * α.1 0 1 : Nat) : Int) := by simp only [iw_def]; omega
  have key : ∀ m n v4, n + 1 + m = 4 * α.1 0 1 → DW (d + 3) 104 9 [xR 10, xI (((nx α n).1 : Nat) : Int), xI (((nx α n).2 : Nat) : Int), xI ((n + 1 : Nat) : Int), v4] μ Q := by
    intro m
    induction m with
    | zero =>
      intro n v4 hn
      refine sg_Fits_bestPair_9 ?_
      rw [vX_T hv, e4, if_neg (by omega)]
      rw [show 4 * α.1 0 1 - 1 = n by omega] at h
      exact h
    | succ m ih =>
      intro n v4 hn
      have hi := ih (n + 1) (xI ((lft α (n + 1) : Nat) : Int)) (by omega)
      refine sg_Fits_bestPair_9 ?_
      rw [vX_T hv, e4, if_pos (by omega), xdiv_4 (by omega), xrem_4, iw_k1 (by omega)]
      refine X_leftAtMost_ok hv hw hG (by omega) ?_
      refine gI_mk ?_
      have en : nx α (n + 1) = if lft α (n + 1) < (nx α n).2 then (n + 1, lft α (n + 1)) else nx α n := rfl
      refine wi (fun c => ?_) (fun c => ?_)
      · rw [en, if_pos (by omega)] at hi; exact hi
      · rw [en, if_neg (by omega)] at hi; exact hi
  exact key (4 * α.1 0 1 - 1) 0 _ (by omega)
theorem X_next_ok {d : Nat} {w : Int} {μ : Mem} {α : Al} {Q : AV → Mem → Prop} (hv : vX μ α) (hw : wf α) (h : ∀ μ', fW μ μ' → Q (xI (r_next α w)) μ') : GM (d + 5) 103 [xR 0, xI w] μ Q := by
  have hT := wf_T hw
  have hL := FT_le hw
  refine ge_X_next ?_
  unfold r_next at h
  refine wi (fun c0 => ?_) (fun c0 => ?_)
  · rw [if_pos c0] at h; exact h μ (fW_refl μ)
  rw [if_neg c0] at h
  refine wi (fun c1 => ?_) (fun c1 => ?_)
  · rw [if_pos c1] at h; exact h μ (fW_refl μ)
  rw [if_neg c1] at h
  refine X_weigh_ok hv hw (fun μ' hf hv' hG => ?_)
  refine gV_mk ?_
  have hh := h μ' hf
  rw [vX_T hv', hG.2.2.2]
  refine wi (fun c2 => ?_) (fun c2 => ?_)
  · rw [if_pos (by omega)] at hh; exact hh
  rw [if_neg (by omega)] at hh
  refine wi (fun c3 => ?_) (fun c3 => ?_)
  · have c3' : (FT α).length = 0 := by omega
    rw [if_pos c3'] at hh; exact hh
  have c3' : ¬ (FT α).length = 0 := by omega
  rw [if_neg c3'] at hh
  refine X_bestPair_ok hv' hw hG (by omega) ?_
  refine gI_mk ?_
  have hb := nx_le α (4 * α.1 0 1 - 1)
  rw [xdiv_4 (by omega), xrem_4]
  refine wi (fun c4 => ?_) (fun c4 => ?_)
  · rw [if_neg (by omega), if_pos c4] at hh; exact hh
  refine wi (fun c5 => ?_) (fun c5 => ?_)
  · rw [if_neg (by omega), if_neg c4] at hh; exact hh
  · rw [if_pos (by omega), nx_2] at hh
    refine X_leftAtMost_ok hv' hw hG (by omega) ?_
    exact hh
/-! counts -/
theorem arp_le (look : Nat → Nat) : ∀ p, arp look p ≤ fac p
  | 0 => Nat.le_refl 1
  | p + 1 => by
    rw [arp, fac, Nat.mul_comm (p + 1)]
    exact Nat.mul_le_mul (arp_le look p) (sp_cnt_le _ _)
set_option maxRecDepth 20000 in
theorem X_arr_ok {d : Nat} {μ : Mem} {α : Al} {Q : AV → Mem → Prop} (hv : vX μ α) (hw : wf α) (h : Q (xI ((AR α : Nat) : Int)) μ) : GM d 125 [xR 2] μ Q := by
  have hT := wf_T hw
  rw [AR_arp hw] at h
  refine ge_Told_arrangements ?_
  have key : ∀ m p v3 v4, p + m = α.1 0 1 → DW d 125 4 [xR 2, xI ((arp (α.1 3) p : Nat) : Int), xI (p : Int), v3, v4] μ Q := by
    intro m
    induction m with
    | zero =>
      intro p v3 v4 hp
      refine sg_Told_arrangements_4 ?_
      rw [vX_T hv, if_neg (by omega), show p = α.1 0 1 by omega]
      exact h
    | succ m ih =>
      intro p v3 v4 hp
      refine sg_Told_arrangements_4 ?_
      rw [vX_T hv, if_pos (by omega)]
      have inn : ∀ j q, q + j = p + 1 → DW d 125 13 [xR 2, xI ((arp (α.1 3) p : Nat) : Int), xI (p : Int), xI ((sp_cnt (fun q => α.1 3 q == α.1 3 p) q : Nat) : Int), xI (q : Int)] μ Q := by
        intro j
        induction j with
        | zero =>
          intro q hq
          refine sg_Told_arrangements_13 ?_
          rw [if_pos (by omega)]
          refine sg_Told_arrangements_29 ?_
          have e : arp (α.1 3) (p + 1) = arp (α.1 3) p * sp_cnt (fun q => α.1 3 q == α.1 3 p) (p + 1) := rfl
          have hl := arp_le (α.1 3) (p + 1)
          have hf := (fac_le (p + 1) (by omega)).2
          rw [show q = p + 1 by omega, ← Int.natCast_mul, ← e, iw_nn (by omega), iw_k1 (by omega)]
          exact ih (p + 1) _ _ (by omega)
        | succ j ihj =>
          intro q hq
          have hi := ihj (q + 1) (by omega)
          have hc := sp_cnt_le (fun q => α.1 3 q == α.1 3 p) q
          rw [sp_cnt] at hi
          refine sg_Told_arrangements_13 ?_
          rw [if_neg (by omega), wb_eq (by omega) (by omega), wb_eq (by omega) (by omega), Int.toNat_natCast, Int.toNat_natCast, vX_look hv q (by omega), vX_look hv p (by omega), iw_k1 (by omega), iw_k1 (by omega)]
          refine wi (fun c => ?_) (fun c => ?_)
          · rw [if_pos (beq_iff_eq.2 (by omega))] at hi; exact hi
          · rw [if_neg (by rw [beq_iff_eq]; omega)] at hi; exact hi
      exact inn (p + 1) 0 (by omega)
  exact key (α.1 0 1) 0 _ _ (by omega)
set_option maxRecDepth 20000 in
theorem X_atHome_ok {d : Nat} {μ : Mem} {α : Al} {Q : AV → Mem → Prop} (hv : vX μ α) (hw : wf α) (h : Q (xI ((sp_bits (fun p => α.1 9 p == p) (α.1 0 1) : Nat) : Int)) μ) : GM d 124 [xR 3] μ Q := by
  have hT := wf_T hw
  refine ge_Now_atHome ?_
  have key : ∀ m p, p + m = α.1 0 1 → DW d 124 4 [xR 3, xI ((sp_bits (fun p => α.1 9 p == p) p : Nat) : Int), xI (p : Int)] μ Q := by
    intro m
    induction m with
    | zero =>
      intro p hp
      refine sg_Now_atHome_4 ?_
      rw [vX_T hv, if_neg (by omega), show p = α.1 0 1 by omega]
      exact h
    | succ m ih =>
      intro p hp
      have hi := ih (p + 1) (by omega)
      refine sg_Now_atHome_4 ?_
      rw [vX_T hv, if_pos (by omega), wb_eq (by omega) (by omega), Int.toNat_natCast, vX_lie hv p (by omega), iw_k1 (by omega)]
      refine wi (fun c => ?_) (fun c => ?_)
      · rw [sp_bits_or (f := fun p => α.1 9 p == p) (by omega) (beq_iff_eq.2 (by omega))]; exact hi
      · rw [sp_bits_no (f := fun p => α.1 9 p == p) (by rw [beq_iff_eq]; omega)] at hi; exact hi
  exact key (α.1 0 1) 0 (by omega)
theorem X_count_ok {d : Nat} {w : Int} {μ : Mem} {α : Al} {Q : AV → Mem → Prop} (hv : vX μ α) (hw : wf α) (h : Q (xI (r_count α w)) μ) : GM (d + 1) 123 [xR 0, xI w] μ Q := by
  refine ge_X_count ?_
  rw [vX_P hv, vX_T hv, vX_N hv, vX_Ps hv, vX_Ch hv, vX_Kn hv, vX_S hv, vX_B hv]
  unfold r_count at h
  refine wi (fun c => ?_) (fun c => ?_)
  · rw [if_pos c] at h; exact h
  rw [if_neg c] at h
  refine wi (fun c => ?_) (fun c => ?_)
  · rw [if_pos c] at h; exact h
  rw [if_neg c] at h
  refine wi (fun c => ?_) (fun c => ?_)
  · rw [if_pos c] at h; exact h
  rw [if_neg c] at h
  refine wi (fun c => ?_) (fun c => ?_)
  · rw [if_pos c] at h; exact h
  rw [if_neg c] at h
  refine wi (fun c => ?_) (fun c => ?_)
  · rw [if_pos c] at h; exact h
  rw [if_neg c] at h
  refine wi (fun c => ?_) (fun c => ?_)
  · rw [if_pos c] at h; exact h
  rw [if_neg c] at h
  refine wi (fun c => ?_) (fun c => ?_)
  · rw [if_pos c] at h; exact X_atHome_ok hv hw h
  rw [if_neg c] at h
  refine wi (fun c => ?_) (fun c => ?_)
  · rw [if_pos c] at h; exact X_arr_ok hv hw h
  rw [if_neg c] at h
  refine wi (fun c => ?_) (fun c => ?_)
  · rw [if_pos c] at h; exact h
  rw [if_neg c] at h
  refine wi (fun c => ?_) (fun c => ?_)
  · rw [if_pos c] at h; exact h
  rw [if_neg c] at h
  exact h
