/-! odds, the next word, counts of the reference -/
theorem iw_s2 {a b : Nat} (h : b ≤ a) (ha : a < 2147483648) : iw ((a : Int) - (b : Int)) = ((a - b : Nat) : Int) := by simp only [iw_def]; omega
theorem xdiv_4 {a : Nat} (h : a < 2147483648) : xdiv (a : Int) 4 = ((a / 4 : Nat) : Int) := xdiv_nat (b := 4) h
theorem xrem_4 {a : Nat} : xrem (a : Int) 4 = ((a % 4 : Nat) : Int) := xrem_nat (b := 4)
theorem gcd_step (a b : Nat) : Nat.gcd b (a % b) = Nat.gcd a b := by rw [Nat.gcd_comm b, ← Nat.gcd_rec, Nat.gcd_comm]
def gK (α : Al) (p : Nat) : Nat → Bool := fun r => decide (0 < α.1 2 (rv (α.1 0 1) r p))
def r_odds (α : Al) (p s : Int) : Int := if p < 0 then -2 else if p < ((α.1 0 1 : Nat) : Int) then (if s < 0 then -3 else if 1 < s then -3 else if (FT α).length = 0 then -4 else if s = 0 then ((CF α (gK α p.toNat) / Nat.gcd (CF α (gK α p.toNat)) (FT α).length : Nat) : Int) else (((FT α).length / Nat.gcd (CF α (gK α p.toNat)) (FT α).length : Nat) : Int)) else -2
theorem M_odds_gcd {d up f : Nat} {s : Int} {v1 : AV} {μ : Mem} {Q : AV → Mem → Prop} (hf : μ 61 26 = (f : Int)) (hf0 : 0 < f) (hf1 : f < 1000) (hu : up < 1000) (h : Q (xI (if s = 0 then ((up / Nat.gcd up f : Nat) : Int) else ((f / Nat.gcd up f : Nat) : Int))) μ) : ∀ (b a : Nat) (v6 : AV), a < 1000 → b < 1000 → Nat.gcd a b = Nat.gcd up f → DW (d + 5) 184 56 [xR 61, v1, xI s, xI (up : Int), xI (a : Int), xI (b : Int), v6] μ Q := by
  intro b
  induction b using Nat.strongRecOn with
  | _ b ih =>
    intro a v6 ha hb hg
    refine sg_M_odds_56 ?_
    by_cases c : 0 < b
    · have hm := Nat.mod_lt a c
      rw [if_pos (by omega), wz_eq (by omega), xrem_nat]
      exact ih (a % b) hm b _ hb (by omega) ((gcd_step a b).trans hg)
    · have hb0 : b = 0 := by omega
      subst hb0
      rw [Nat.gcd_zero_right] at hg
      have hpos : 0 < Nat.gcd up f := Nat.gcd_pos_of_pos_right up hf0
      rw [if_neg (by decide)]
      refine sg_M_odds_68 ?_
      rw [wz_eq (by omega), wz_eq (by omega), hf, xdiv_nat (by omega), xdiv_nat (by omega), hg]
      refine wi (fun c => ?_) (fun c => ?_)
      · rw [if_pos c] at h; exact h
      · rw [if_neg c] at h; exact h
set_option maxRecDepth 20000 in
theorem M_odds_ok {d : Nat} {p s : Int} {μ : Mem} {α : Al} {Q : AV → Mem → Prop} (hv : vM μ α) (hw : wf α) (h : ∀ μ', vM μ' α → Q (xI (r_odds α p s)) μ') : GM (d + 6) 184 [xR 61, xI p, xI s] μ Q := by
  have hT := wf_T hw
  have hL := FT_le hw
  refine ge_M_odds ?_
  unfold r_odds at h
  rw [vM_T hv, iw_m1 (by omega)]
  refine wi (fun c0 => ?_) (fun c0 => ?_)
  · rw [if_pos c0] at h; exact h μ hv
  rw [if_neg c0] at h
  refine wi (fun c1 => ?_) (fun c1 => ?_)
  · rw [if_neg (by omega)] at h; exact h μ hv
  rw [if_pos (by omega)] at h
  refine wi (fun c2 => ?_) (fun c2 => ?_)
  · rw [if_pos c2] at h; exact h μ hv
  rw [if_neg c2] at h
  refine wi (fun c3 => ?_) (fun c3 => ?_)
  · rw [if_pos c3] at h; exact h μ hv
  rw [if_neg c3] at h
  obtain ⟨p, rfl⟩ := Int.eq_ofNat_of_zero_le (show 0 ≤ p by omega)
  rw [Int.toNat_natCast] at h
  have hp : p < α.1 0 1 := by omega
  refine M_layFitting_ok hv hw (fun μ1 hf1 hv1 hF1 => ?_)
  refine gV_mk ?_
  rw [hF1.1]
  refine wi (fun c4 => ?_) (fun c4 => ?_)
  · have c4' : (FT α).length = 0 := by omega
    rw [if_pos c4'] at h; exact h μ1 hv1
  have c4' : ¬ (FT α).length = 0 := by omega
  rw [if_neg c4'] at h
  refine lp_up (fun k (ν : Mem) => DW (d + 6) 184 24 [xR 61, xI (p : Int), xI s, xI ((cF α (gK α p) k : Nat) : Int), xI (k : Int), xL 0, xL 0] ν Q) (fun k ν => ∀ c j, c ≠ 71 → ν c j = μ1 c j) (FT α).length ?_ ?_ (FT α).length 0 μ1 (by omega) (fun _ _ _ => rfl)
  · intro k ν hk hf hn
    obtain ⟨r1, r2⟩ := FT_r hk
    have hF' := vF_71 hf hF1
    have hv' := vM_fr (fM_71 hf) hv1
    have hcl := cF_le α (gK α p) k
    refine sg_M_odds_24 ?_
    rw [hF'.1, if_pos (by omega), wb_eq (by omega) (by omega), Int.toNat_natCast, hF'.2 k hk]
    refine M_lay_ok hT (vM_T hv') r1 (fun m1 g1 g2 => ?_)
    refine gV_mk ?_
    have hr := rv_lt hT r1 hp
    have hv2 := vM_fr (fM_71 g1) hv'
    have fr : ∀ c j, c ≠ 71 → m1 c j = μ1 c j := fun c j hc => (g1 c j hc).trans (hf c j hc)
    rw [wb_eq (by omega) (by omega), Int.toNat_natCast, g2 p hp, iw_50 (by omega), wb_eq (by omega) (by omega), Int.toNat_natCast, vM_kind hv2 _ hr, iw_k1 (by omega), iw_k1 (by omega), iw_n0 (by omega)]
    have hh := hn m1 fr
    have e : cF α (gK α p) (k + 1) = cF α (gK α p) k + (if gK α p ((FT α).getD k 0) = true then 1 else 0) := rfl
    refine wi (fun c => ?_) (fun c => ?_)
    · rw [if_pos (show gK α p ((FT α).getD k 0) = true from decide_eq_true (by omega))] at e
      rw [e] at hh; exact hh
    · rw [if_neg (show ¬ gK α p ((FT α).getD k 0) = true from by unfold gK; rw [decide_eq_true_eq]; omega)] at e
      rw [e] at hh; exact hh
  · intro ν hf
    have hF' := vF_71 hf hF1
    have hv' := vM_fr (fM_71 hf) hv1
    refine sg_M_odds_24 ?_
    rw [hF'.1, if_neg (by omega)]
    refine sg_M_odds_50 ?_
    have hcl := cF_le α (gK α p) (FT α).length
    rw [hF'.1]
    refine M_odds_gcd (d := d + 1) hF'.1 (by omega) (by omega) (by omega) ?_ _ _ _ (by omega) (by omega) rfl
    have hh := h ν hv'
    exact hh
/-! the next word to try -/
def gW (α : Al) (q : Nat) : Nat → Bool := fun r => decide (sp_works α (rv (α.1 0 1) r (q / 4)) (q / 4) ((q % 4 : Nat) : Int) = 1)
def lft (α : Al) (q : Nat) : Nat := if (FT α).length - CF α (gW α q) < CF α (gW α q) then CF α (gW α q) else (FT α).length - CF α (gW α q)
def nx (α : Al) : Nat → Nat × Nat
  | 0 => (0, lft α 0)
  | n + 1 => if lft α (n + 1) < (nx α n).2 then (n + 1, lft α (n + 1)) else nx α n
theorem nx_le (α : Al) : ∀ n, (nx α n).1 ≤ n
  | 0 => Nat.le_refl 0
  | n + 1 => by
    have := nx_le α n
    rw [nx]
    split
    · exact Nat.le_refl _
    · omega
theorem CF_le (α : Al) (g : Nat → Bool) : CF α g ≤ (FT α).length := cF_le α g _
theorem lft_le (α : Al) (q : Nat) : lft α q ≤ (FT α).length := by
  have := CF_le α (gW α q)
  unfold lft
  split <;> omega
theorem nx_le2 (α : Al) : ∀ n, (nx α n).2 ≤ (FT α).length
  | 0 => lft_le α 0
  | n + 1 => by
    have := nx_le2 α n
    have := lft_le α (n + 1)
    rw [nx]
    split
    · assumption
    · assumption
def r_next (α : Al) (w : Int) : Int := if w < 0 then -3 else if 2 < w then -3 else if α.1 0 1 = 0 then -1 else if (FT α).length = 0 then -1 else if w = 2 then (((nx α (4 * α.1 0 1 - 1)).2 : Nat) : Int) else if w = 0 then (((nx α (4 * α.1 0 1 - 1)).1 / 4 : Nat) : Int) else (((nx α (4 * α.1 0 1 - 1)).1 % 4 : Nat) : Int)
set_option maxRecDepth 20000 in
theorem M_next_yes {d q : Nat} {l1 l2 l3 : Int} {v7 : AV} {μ1 : Mem} {α : Al} {Q : AV → Mem → Prop} (hv1 : vM μ1 α) (hw : wf α) (hF1 : vF μ1 α) (hq : q < 4 * α.1 0 1) {ν0 : Mem} (h0 : ∀ c j, c ≠ 71 → ν0 c j = μ1 c j) (h : ∀ ν, (∀ c j, c ≠ 71 → ν c j = μ1 c j) → DW (d + 6) 185 63 [xR 61, xI l1, xI l2, xI l3, xI (q : Int), xI ((CF α (gW α q) : Nat) : Int), xI (((FT α).length : Nat) : Int), v7] ν Q) : DW (d + 6) 185 29 [xR 61, xI l1, xI l2, xI l3, xI (q : Int), xI 0, xI 0, v7] ν0 Q := by
  have hT := wf_T hw
  have hL := FT_le hw
  have hq4 : q / 4 < α.1 0 1 := by omega
  refine lp_up (fun k (ν : Mem) => DW (d + 6) 185 29 [xR 61, xI l1, xI l2, xI l3, xI (q : Int), xI ((cF α (gW α q) k : Nat) : Int), xI (k : Int), v7] ν Q) (fun k ν => ∀ c j, c ≠ 71 → ν c j = μ1 c j) (FT α).length ?_ ?_ (FT α).length 0 ν0 (by omega) h0
  · intro k ν hk hf hn
    obtain ⟨r1, r2⟩ := FT_r hk
    have hF' := vF_71 hf hF1
    have hv' := vM_fr (fM_71 hf) hv1
    have hcl := cF_le α (gW α q) k
    refine sg_M_next_29 ?_
    rw [hF'.1, if_pos (by omega), wb_eq (by omega) (by omega), Int.toNat_natCast, hF'.2 k hk]
    refine M_lay_ok hT (vM_T hv') r1 (fun m1 g1 g2 => ?_)
    refine gV_mk ?_
    have hr := rv_lt hT r1 hq4
    have hv2 := vM_fr (fM_71 g1) hv'
    have fr : ∀ c j, c ≠ 71 → m1 c j = μ1 c j := fun c j hc => (g1 c j hc).trans (hf c j hc)
    rw [xdiv_4 (by omega), xrem_4, wb_eq (by omega) (by omega), Int.toNat_natCast, g2 _ hq4, iw_k1 (by omega), iw_k1 (by omega), iw_n0 (by omega)]
    refine M_works_ok hv2 hw hr hq4 ?_
    refine gI_mk ?_
    have hh := hn m1 fr
    have e : cF α (gW α q) (k + 1) = cF α (gW α q) k + (if gW α q ((FT α).getD k 0) = true then 1 else 0) := rfl
    have h01 := sp_works01 α (rv (α.1 0 1) ((FT α).getD k 0) (q / 4)) (q / 4) ((q % 4 : Nat) : Int)
    refine wi (fun c => ?_) (fun c => ?_)
    · rw [if_neg (show ¬ gW α q ((FT α).getD k 0) = true from by unfold gW; rw [decide_eq_true_eq]; omega)] at e
      rw [e] at hh; exact hh
    · rw [if_pos (show gW α q ((FT α).getD k 0) = true from decide_eq_true (by omega))] at e
      rw [e] at hh; exact hh
  · intro ν hf
    have hF' := vF_71 hf hF1
    refine sg_M_next_29 ?_
    rw [hF'.1, if_neg (by omega)]
    exact h ν hf
set_option maxRecDepth 20000 in
theorem M_next_ok {d : Nat} {w : Int} {μ : Mem} {α : Al} {Q : AV → Mem → Prop} (hv : vM μ α) (hw : wf α) (h : ∀ μ', vM μ' α → Q (xI (r_next α w)) μ') : GM (d + 6) 185 [xR 61, xI w] μ Q := by
  have hT := wf_T hw
  have hL := FT_le hw
  refine ge_M_next ?_
  unfold r_next at h
  refine wi (fun c0 => ?_) (fun c0 => ?_)
  · rw [if_pos c0] at h; exact h μ hv
  rw [if_neg c0] at h
  refine wi (fun c1 => ?_) (fun c1 => ?_)
  · rw [if_pos c1] at h; exact h μ hv
  rw [if_neg c1] at h
  refine M_layFitting_ok hv hw (fun μ1 hf1 hv1 hF1 => ?_)
  refine gV_mk ?_
  have e4 : iw (4 * ((α.1 0 1 : Nat) : Int)) = ((4 * α.1 0 1 : Nat) : Int) := by simp only [iw_def]; omega
  by_cases c2 : α.1 0 1 = 0
  · rw [if_pos c2] at h
    refine sg_M_next_15 ?_
    rw [vM_T hv1, e4, if_neg (by omega)]
    refine sg_M_next_101 ?_
    rw [if_pos rfl]
    exact h μ1 hv1
  rw [if_neg c2] at h
  by_cases c3 : (FT α).length = 0
  · rw [if_pos c3] at h
    refine sg_M_next_15 ?_
    rw [vM_T hv1, e4, if_pos (by omega), hF1.1, if_neg (by omega)]
    refine sg_M_next_101 ?_
    rw [if_pos rfl]
    exact h μ1 hv1
  rw [if_neg c3] at h
  have key : ∀ m n (ν : Mem) v5 v6 v7, n + 1 + m = 4 * α.1 0 1 → (∀ c j, c ≠ 71 → ν c j = μ1 c j) → DW (d + 6) 185 15 [xR 61, xI w, xI (((nx α n).1 : Nat) : Int), xI (((nx α n).2 : Nat) : Int), xI ((n + 1 : Nat) : Int), v5, v6, v7] ν Q := by
    intro m
    induction m with
    | zero =>
      intro n ν v5 v6 v7 hn hf
      have hv' := vM_fr (fM_71 hf) hv1
      have hb := nx_le α n
      refine sg_M_next_15 ?_
      rw [vM_T hv', e4, if_neg (by omega)]
      refine sg_M_next_101 ?_
      rw [if_neg (by omega), xdiv_4 (by omega), xrem_4]
      have hh := h ν hv'
      rw [show 4 * α.1 0 1 - 1 = n by omega] at hh
      refine wi (fun c => ?_) (fun c => ?_)
      · rw [if_pos c] at hh; exact hh
      rw [if_neg c] at hh
      refine wi (fun c => ?_) (fun c => ?_)
      · rw [if_pos c] at hh; exact hh
      · rw [if_neg c] at hh; exact hh
    | succ m ih =>
      intro n ν v5 v6 v7 hn hf
      have hv' := vM_fr (fM_71 hf) hv1
      have hF' := vF_71 hf hF1
      refine sg_M_next_15 ?_
      rw [vM_T hv', e4, if_pos (by omega), hF'.1, if_pos (by omega)]
      refine M_next_yes hv1 hw hF1 (by omega) hf (fun ν' hf' => ?_)
      have hF2 := vF_71 hf' hF1
      have hc := CF_le α (gW α (n + 1))
      have hnb := nx_le2 α n
      refine sg_M_next_63 ?_
      rw [hF2.1, iw_s2 hc (by omega), iw_k1 (by omega)]
      have en : nx α (n + 1) = if lft α (n + 1) < (nx α n).2 then (n + 1, lft α (n + 1)) else nx α n := rfl
      have hb := nx_le α n
      refine wi (fun c => ?_) (fun c => ?_)
      · have el : lft α (n + 1) = CF α (gW α (n + 1)) := by unfold lft; rw [if_pos (by omega)]
        rw [if_neg (by omega)]
        rw [el] at en
        refine wi (fun c4 => ?_) (fun c4 => ?_)
        · have := ih (n + 1) ν' (xI ((CF α (gW α (n + 1)) : Nat) : Int)) (xI ((CF α (gW α (n + 1)) : Nat) : Int)) (xI 1) (by omega) hf'
          rw [en, if_pos (by omega)] at this
          exact this
        · have := ih (n + 1) ν' (xI ((CF α (gW α (n + 1)) : Nat) : Int)) (xI ((CF α (gW α (n + 1)) : Nat) : Int)) (xI 0) (by omega) hf'
          rw [en, if_neg (by omega)] at this
          exact this
      · have el : lft α (n + 1) = (FT α).length - CF α (gW α (n + 1)) := by unfold lft; rw [if_neg (by omega)]
        rw [if_neg (by omega)]
        rw [el] at en
        refine wi (fun c4 => ?_) (fun c4 => ?_)
        · have := ih (n + 1) ν' (xI ((CF α (gW α (n + 1)) : Nat) : Int)) (xI (((FT α).length - CF α (gW α (n + 1)) : Nat) : Int)) (xI 1) (by omega) hf'
          rw [en, if_pos (by omega)] at this
          exact this
        · have := ih (n + 1) ν' (xI ((CF α (gW α (n + 1)) : Nat) : Int)) (xI (((FT α).length - CF α (gW α (n + 1)) : Nat) : Int)) (xI 0) (by omega) hf'
          rw [en, if_neg (by omega)] at this
          exact this
  refine sg_M_next_15 ?_
  rw [vM_T hv1, e4, if_pos (by omega), hF1.1, if_pos (by omega)]
  refine M_next_yes (q := 0) hv1 hw hF1 (by omega) (fun _ _ _ => rfl) (fun ν' hf' => ?_)
  have hF2 := vF_71 hf' hF1
  have hc := CF_le α (gW α 0)
  refine sg_M_next_63 ?_
  rw [hF2.1, iw_s2 hc (by omega)]
  refine wi (fun c => ?_) (fun c => ?_)
  · have el : lft α 0 = CF α (gW α 0) := by unfold lft; rw [if_pos (by omega)]
    rw [if_pos rfl]
    have := key (4 * α.1 0 1 - 1) 0 ν' (xI ((CF α (gW α 0) : Nat) : Int)) (xI ((CF α (gW α 0) : Nat) : Int)) (xI 1) (by omega) hf'
    rw [show nx α 0 = (0, lft α 0) from rfl, el] at this
    exact this
  · have el : lft α 0 = (FT α).length - CF α (gW α 0) := by unfold lft; rw [if_neg (by omega)]
    rw [if_pos rfl]
    have := key (4 * α.1 0 1 - 1) 0 ν' (xI ((CF α (gW α 0) : Nat) : Int)) (xI (((FT α).length - CF α (gW α 0) : Nat) : Int)) (xI 1) (by omega) hf'
    rw [show nx α 0 = (0, lft α 0) from rfl, el] at this
    exact this
/-! counts -/
def AR (α : Al) : Nat := sp_cnt (fun r => lawB α (rv (α.1 0 1) r)) (fac (α.1 0 1))
def r_count (α : Al) (w : Int) : Int := if w = 0 then ((α.1 0 0 : Nat) : Int) else if w = 1 then ((α.1 0 1 : Nat) : Int) else if w = 2 then ((α.1 0 2 : Nat) : Int) else if w = 3 then ((α.1 0 4 : Nat) : Int) else if w = 4 then α.2 0 0 else if w = 5 then ((α.1 0 5 : Nat) : Int) else if w = 6 then ((sp_bits (fun p => α.1 9 p == p) (α.1 0 1) : Nat) : Int) else if w = 7 then ((AR α : Nat) : Int) else if w = 8 then ((α.1 0 6 : Nat) : Int) else if w = 9 then ((α.1 0 3 : Nat) : Int) else -3
set_option maxRecDepth 20000 in
theorem M_count_7 {d : Nat} {μ : Mem} {α : Al} {v1 v2 : AV} {Q : AV → Mem → Prop} (hv : vM μ α) (hw : wf α) (h : ∀ μ', vM μ' α → Q (xI ((AR α : Nat) : Int)) μ') : DW (d + 2) 192 58 [xR 61, v1, v2, xI 0, xI 0] μ Q := by
  have hT := wf_T hw
  have hfc := fac_le _ hT
  refine lp_up (fun r (ν : Mem) => DW (d + 2) 192 58 [xR 61, v1, v2, xI ((sp_cnt (fun r => lawB α (rv (α.1 0 1) r)) r : Nat) : Int), xI (r : Int)] ν Q) (fun r ν => ∀ c j, c ≠ 71 → ν c j = μ c j) (fac (α.1 0 1)) ?_ ?_ (fac (α.1 0 1)) 0 μ (by omega) (fun _ _ _ => rfl)
  · intro r ν hr hf hn
    have hv' := vM_fr (fM_71 hf) hv
    have hcl := sp_cnt_le (fun r => lawB α (rv (α.1 0 1) r)) r
    refine sg_M_count_58 ?_
    refine M_rowMany_ok hT (vM_T hv') ?_
    refine gI_mk ?_
    rw [if_pos (by omega)]
    refine M_lay_ok hT (vM_T hv') hr (fun m3 g1 g2 => ?_)
    refine gV_mk ?_
    have hv3 := vM_fr (fM_71 g1) hv'
    refine M_isLawful_ok hv3 hw (fun p hp => rv_lt hT hr hp) g2 ?_
    refine gI_mk ?_
    rw [iw_k1 (by omega), iw_k1 (by omega), iw_n0 (by omega)]
    have hh := hn m3 (fun c j hc => (g1 c j hc).trans (hf c j hc))
    have e : sp_cnt (fun r => lawB α (rv (α.1 0 1) r)) (r + 1) = sp_cnt (fun r => lawB α (rv (α.1 0 1) r)) r + (if lawB α (rv (α.1 0 1) r) = true then 1 else 0) := rfl
    rw [e] at hh
    cases e1 : lawB α (rv (α.1 0 1) r) with
    | false =>
      rw [e1, if_neg (by decide)] at hh
      rw [if_pos (by rfl)]
      exact hh
    | true =>
      rw [e1, if_pos rfl] at hh
      rw [if_neg (by decide)]
      exact hh
  · intro ν hf
    have hv' := vM_fr (fM_71 hf) hv
    refine sg_M_count_58 ?_
    refine M_rowMany_ok hT (vM_T hv') ?_
    refine gI_mk ?_
    rw [if_neg (by omega)]
    exact h ν hv'
set_option maxRecDepth 20000 in
theorem M_count_ok {d : Nat} {w : Int} {μ : Mem} {α : Al} {Q : AV → Mem → Prop} (hv : vM μ α) (hw : wf α) (h : ∀ μ', vM μ' α → Q (xI (r_count α w)) μ') : GM (d + 2) 192 [xR 61, xI w] μ Q := by
  have hT := wf_T hw
  refine ge_M_count ?_
  have key : ∀ m p, p + m = α.1 0 1 → DW (d + 2) 192 6 [xR 61, xI w, xI ((sp_bits (fun p => α.1 9 p == p) p : Nat) : Int), xI 0, xI (p : Int)] μ Q := by
    intro m
    induction m with
    | zero =>
      intro p hp
      refine sg_M_count_6 ?_
      rw [vM_T hv, if_neg (by omega), show p = α.1 0 1 by omega]
      refine sg_M_count_27 ?_
      rw [vM_P hv, vM_T hv, vM_N hv, vM_Ps hv, vM_Ch hv, vM_Kn hv, vM_S hv, vM_B hv]
      unfold r_count at h
      refine wi (fun c => ?_) (fun c => ?_)
      · rw [if_pos c] at h; exact h μ hv
      rw [if_neg c] at h
      refine wi (fun c => ?_) (fun c => ?_)
      · rw [if_pos c] at h; exact h μ hv
      rw [if_neg c] at h
      refine wi (fun c => ?_) (fun c => ?_)
      · rw [if_pos c] at h; exact h μ hv
      rw [if_neg c] at h
      refine wi (fun c => ?_) (fun c => ?_)
      · rw [if_pos c] at h; exact h μ hv
      rw [if_neg c] at h
      refine wi (fun c => ?_) (fun c => ?_)
      · rw [if_pos c] at h; exact h μ hv
      rw [if_neg c] at h
      refine wi (fun c => ?_) (fun c => ?_)
      · rw [if_pos c] at h; exact h μ hv
      rw [if_neg c] at h
      refine wi (fun c => ?_) (fun c => ?_)
      · rw [if_pos c] at h; exact h μ hv
      rw [if_neg c] at h
      refine wi (fun c => ?_) (fun c => ?_)
      · rw [if_pos c] at h; exact M_count_7 hv hw h
      rw [if_neg c] at h
      refine wi (fun c => ?_) (fun c => ?_)
      · rw [if_pos c] at h; exact h μ hv
      rw [if_neg c] at h
      refine wi (fun c => ?_) (fun c => ?_)
      · rw [if_pos c] at h; exact h μ hv
      rw [if_neg c] at h
      exact h μ hv
    | succ m ih =>
      intro p hp
      have hp' : p < α.1 0 1 := by omega
      have hs := sp_bits64 (fun p => α.1 9 p == p) (show p ≤ 6 by omega)
      refine sg_M_count_6 ?_
      rw [vM_T hv, if_pos (by omega), wb_eq (by omega) (by omega), Int.toNat_natCast, vM_lie hv p hp', iw_k1 (by omega)]
      refine wi (fun c => ?_) (fun c => ?_)
      · rw [sp_bits_or (f := fun p => α.1 9 p == p) (by omega) (beq_iff_eq.2 (by omega))]
        exact ih (p + 1) (by omega)
      · have e := sp_bits_no (f := fun p => α.1 9 p == p) (n := p) (by rw [beq_iff_eq]; omega)
        rw [xior_0 (by omega), ← e]
        exact ih (p + 1) (by omega)
  exact key (α.1 0 1) 0 (by omega)
