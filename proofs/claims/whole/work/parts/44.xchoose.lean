/-! the class: choosing pairs -/
def vK (μ : Mem) (α : Al) (pre : List Nat) : Prop := ∀ i, 2 ^ pre.length ≤ i → i < 2 ^ (pre.length + 1) → μ 56 i = ((sp_bits (fun k => idx α k pre 1 == i) (FT α).length : Nat) : Int)
theorem x_shl2 {n : Nat} (h : n ≤ 4) : xshl 2 (n : Int) = ((2 ^ (n + 1) : Nat) : Int) := by
  have h16 : 2 ^ n ≤ 16 := Nat.pow_le_pow_right (n := 2) (j := 4) (by decide) h
  have h := xshl_nat (a := 2) (j := n) (by omega) (by omega)
  rw [Nat.pow_succ, Nat.mul_comm]
  exact h
set_option maxRecDepth 20000 in
theorem X_coarse_ok {d e : Nat} {pre : List Nat} {μ : Mem} {α : Al} {Q : AV → Mem → Prop} (hL : (FT α).length ≤ 16) (hp : pre.length ≤ 4) (hK : vK μ α pre) (h1 : cB α pre e → Q (xI 1) μ) (h0 : ¬ cB α pre e → Q (xI 0) μ) : GM (d + 1) 111 [xR 11, xI (pre.length : Int), xI ((2 ^ e : Nat) : Int)] μ Q := by
  have h16 : 2 ^ pre.length ≤ 16 := Nat.pow_le_pow_right (n := 2) (j := 4) (by decide) hp
  have h32 : 2 ^ (pre.length + 1) = 2 * 2 ^ pre.length := by rw [Nat.pow_succ, Nat.mul_comm]
  refine ge_Apart_isTooCoarse ?_
  rw [sp_one (by omega)]
  have kyz : ∀ (m i : Nat), i + m = 2 ^ (pre.length + 1) → 2 ^ pre.length ≤ i → (∀ i', 2 ^ pre.length ≤ i' → i' < i → ¬ 2 ^ e < sp_cnt (fun k => idx α k pre 1 == i') (FT α).length) → DW (d + 1) 111 4 [xR 11, xI (pre.length : Int), xI ((2 ^ e : Nat) : Int), xI (i : Int)] μ Q := by
    intro m
    induction m with
    | zero =>
      intro i hi h2 hz
      refine sg_Apart_isTooCoarse_4 ?_
      rw [x_shl2 hp, if_neg (by omega)]
      exact h0 (fun ⟨i', a1, a2, a3⟩ => hz i' a1 (by omega) a3)
    | succ m ih =>
      intro i hi h2 hz
      refine sg_Apart_isTooCoarse_4 ?_
      rw [x_shl2 hp, if_pos (by omega), wb_eq (by omega) (by omega), Int.toNat_natCast, hK i h2 (by omega), iw_k1 (by omega)]
      refine X_bitCount16_ok hL ?_
      refine gI_mk ?_
      refine wi (fun c => ?_) (fun c => ?_)
      · exact h1 ⟨i, h2, by omega, Int.ofNat_lt.1 c⟩
      · refine ih (i + 1) (by omega) (by omega) (fun i' a1 a2 => ?_)
        by_cases c2 : i' = i
        · rw [c2]; exact fun w => c (Int.ofNat_lt.2 w)
        · exact hz i' a1 (by omega)
  exact kyz (2 ^ pre.length) (2 ^ pre.length) (by omega) (Nat.le_refl _) (fun i' a1 a2 => absurd a2 (by omega))
theorem idx_snoc {α : Al} {k q : Nat} {pre : List Nat} : idx α k (pre ++ [q]) 1 = 2 * idx α k pre 1 + (if gx α q k then 1 else 0) := by
  rw [idx_app]; rfl
set_option maxRecDepth 20000 in
theorem X_split_ok {d q : Nat} {pre : List Nat} {μ : Mem} {α : Al} {Q : AV → Mem → Prop} (hL : (FT α).length ≤ 16) (hp : pre.length ≤ 3) (hK : vK μ α pre) (h : ∀ μ', (∀ c j, c ≠ 56 → μ' c j = μ c j) → (∀ i, i < 2 ^ (pre.length + 1) → μ' 56 i = μ 56 i) → vK μ' α (pre ++ [q]) → Q (xI 0) μ') : GM d 112 [xR 11, xI (pre.length : Int), xI ((sp_bits (gx α q) (FT α).length : Nat) : Int)] μ Q := by
  have h8 : 2 ^ pre.length ≤ 8 := Nat.pow_le_pow_right (n := 2) (j := 3) (by decide) hp
  have hpos : 0 < 2 ^ pre.length := Nat.pow_pos (by decide)
  have h32 : 2 ^ (pre.length + 1) = 2 * 2 ^ pre.length := by rw [Nat.pow_succ, Nat.mul_comm]
  have h33 : 2 ^ (pre.length + 1 + 1) = 2 * 2 ^ (pre.length + 1) := by rw [Nat.pow_succ, Nat.mul_comm]
  refine ge_Apart_split ?_
  rw [sp_one (by omega)]
  have kyz : ∀ (m i : Nat) (ν : Mem), i + m = 2 ^ (pre.length + 1) → 2 ^ pre.length ≤ i → (∀ c j, c ≠ 56 → ν c j = μ c j) → (∀ i', i' < 2 ^ (pre.length + 1) → ν 56 i' = μ 56 i') → (∀ i', 2 ^ (pre.length + 1) ≤ i' → i' < 2 * i → ν 56 i' = ((sp_bits (fun k => idx α k (pre ++ [q]) 1 == i') (FT α).length : Nat) : Int)) → DW d 112 4 [xR 11, xI (pre.length : Int), xI ((sp_bits (gx α q) (FT α).length : Nat) : Int), xI (i : Int)] ν Q := by
    intro m
    induction m with
    | zero =>
      intro i ν hi h2 f1 f2 hI
      refine sg_Apart_split_4 ?_
      rw [x_shl2 (by omega), if_neg (by omega)]
      refine h ν f1 f2 (fun i' a1 a2 => ?_)
      rw [List.length_append, List.length_singleton] at a1 a2
      exact hI i' a1 (by omega)
    | succ m ih =>
      intro i ν hi h2 f1 f2 hI
      have hb : sp_bits (fun k => idx α k pre 1 == i) (FT α).length < 65536 := bits_16 hL
      have e2 : iw (2 * (i : Int)) = ((2 * i : Nat) : Int) := by simp only [iw_def]; omega
      refine sg_Apart_split_4 ?_
      rw [x_shl2 (by omega), if_pos (by omega), e2, iw_k1 (by omega), iw_k1 (by omega), wb_eq (by omega) (by omega), wb_eq (by omega) (by omega), wb_eq (by omega) (by omega), wb_eq (by omega) (by omega), Int.toNat_natCast, Int.toNat_natCast, Int.toNat_natCast, xs_j (show i ≠ 2 * i by omega), f2 i (by omega), hK i h2 (by omega), x_andn16 hb, xand_nat (by omega), bits_and, bits_andn hL]
      refine ih (i + 1) _ (by omega) (by omega) (fun c j hc => by rw [xs_c hc, xs_c hc]; exact f1 c j hc) (fun i' hi' => by rw [xs_j (by omega), xs_j (by omega)]; exact f2 i' hi') (fun i' a1 a2 => ?_)
      by_cases c1 : i' = 2 * i + 1
      · rw [c1, xs_s, sp_bits_ext (fun k _ => ?_)]
        show (idx α k pre 1 == i && gx α q k) = (idx α k (pre ++ [q]) 1 == 2 * i + 1)
        rw [idx_snoc, Bool.eq_iff_iff, Bool.and_eq_true, beq_iff_eq, beq_iff_eq]
        cases gx α q k <;> simp <;> omega
      · rw [xs_j c1]
        by_cases c2 : i' = 2 * i
        · rw [c2, xs_s, sp_bits_ext (fun k _ => ?_)]
          show (idx α k pre 1 == i && !gx α q k) = (idx α k (pre ++ [q]) 1 == 2 * i)
          rw [idx_snoc, Bool.eq_iff_iff, Bool.and_eq_true, beq_iff_eq, beq_iff_eq]
          cases gx α q k <;> simp <;> omega
        · rw [xs_j c2]; exact hI i' a1 (by omega)
  exact kyz (2 ^ pre.length) (2 ^ pre.length) μ (by omega) (Nat.le_refl _) (fun _ _ _ => rfl) (fun _ _ => rfl) (fun i' a1 a2 => absurd a2 (by omega))
def fCh (n : Nat) (μ μ' : Mem) : Prop := (∀ c j, c ≠ 56 → c ≠ 58 → μ' c j = μ c j) ∧ (∀ i, i < 2 ^ (n + 1) → μ' 56 i = μ 56 i) ∧ (∀ j, j < n → μ' 58 j = μ 58 j)
theorem fCh_refl (n : Nat) (μ : Mem) : fCh n μ μ := ⟨fun _ _ _ _ => rfl, fun _ _ => rfl, fun _ _ => rfl⟩
theorem x_shs {n e : Nat} (h : n + e ≤ 4) : xshl 1 (iw (((n + e : Nat) : Int) - (n : Int))) = ((2 ^ e : Nat) : Int) := by
  rw [iw_s2 (by omega) (by omega), show n + e - n = e by omega, sp_one (by omega)]
set_option maxRecDepth 20000 in
theorem X_chooseP_ok {α : Al} (hw : wf α) (hL : (FT α).length ≤ 16) : ∀ (e d first : Nat) (pre : List Nat) (μ : Mem) (Q : AV → Mem → Prop), pre.length + e ≤ 4 → first ≤ 4 * α.1 0 1 → (∀ x, x ∈ pre → x < 4 * α.1 0 1) → μ 2 1 = ((α.1 0 1 : Nat) : Int) → (∀ q, q < 4 * α.1 0 1 → μ 55 q = ((sp_bits (gx α q) (FT α).length : Nat) : Int)) → vK μ α pre → (∀ j, j < pre.length → μ 58 j = ((pre.getD j 0 : Nat) : Int)) → (∀ μ', fCh pre.length μ μ' → srch (4 * α.1 0 1) (fun l => ptB α (bs l)) e first pre = none → Q (xI 0) μ') → (∀ μ' l, fCh pre.length μ μ' → srch (4 * α.1 0 1) (fun l => ptB α (bs l)) e first pre = some l → (∀ j, j < l.length → μ' 58 j = ((l.getD j 0 : Nat) : Int)) → Q (xI 1) μ') → GM (d + e + 2) 110 [xR 11, xI (pre.length : Int), xI (first : Int), xI ((pre.length + e : Nat) : Int)] μ Q := by
  have hT := wf_T hw
  intro e
  induction e with
  | zero =>
    intro d first pre μ Q hpe hf hm h21 h55 hK h58 hN hS
    refine ge_Apart_choose ?_
    rw [x_shs hpe]
    refine X_coarse_ok hL (by omega) hK (fun c => ?_) (fun c => ?_)
    · refine gI_mk ?_
      rw [if_neg (by decide)]
      exact hN μ (fCh_refl _ μ) (coarse hm c)
    · refine gI_mk ?_
      rw [if_pos rfl, if_neg (by omega)]
      have e1 : srch (4 * α.1 0 1) (fun l => ptB α (bs l)) 0 first pre = some pre := by
        show (if ptB α (bs pre) then some pre else none) = some pre
        rw [if_pos (fine hm c)]
      exact hS μ pre (fCh_refl _ μ) e1 h58
  | succ e ih =>
    intro d first pre μ Q hpe hf hm h21 h55 hK h58 hN hS
    have h8 : 2 ^ pre.length ≤ 8 := Nat.pow_le_pow_right (n := 2) (j := 3) (by decide) (by omega)
    have h32 : 2 ^ (pre.length + 1) = 2 * 2 ^ pre.length := by rw [Nat.pow_succ, Nat.mul_comm]
    have h33 : 2 ^ (pre.length + 1 + 1) = 2 * 2 ^ (pre.length + 1) := by rw [Nat.pow_succ, Nat.mul_comm]
    rw [show d + (e + 1) + 2 = (d + e + 2) + 1 by omega]
    refine ge_Apart_choose ?_
    rw [x_shs hpe]
    refine X_coarse_ok hL (by omega) hK (fun c => ?_) (fun c => ?_)
    · refine gI_mk ?_
      rw [if_neg (by decide)]
      exact hN μ (fCh_refl _ μ) (coarse hm c)
    · refine gI_mk ?_
      rw [if_pos rfl, if_pos (by omega), if_pos (by omega)]
      have kyz := lp_fq (m := 4 * α.1 0 1) (f := fun q => srch (4 * α.1 0 1) (fun l => ptB α (bs l)) e (q + 1) (pre ++ [q])) (Wh := fun q => ∀ (ν : Mem), fCh pre.length μ ν → DW ((d + e + 2) + 1) 110 21 [xR 11, xI (pre.length : Int), xI (first : Int), xI ((pre.length + (e + 1) : Nat) : Int), xI (q : Int)] ν Q) (Wx := ∀ ν, fCh pre.length μ ν → Q (xI 0) ν) (R := fun l => ∀ ν, fCh pre.length μ ν → (∀ j, j < l.length → ν 58 j = ((l.getD j 0 : Nat) : Int)) → Q (xI 1) ν) (fun q hq hs hn ν fν => ?_) (fun hx ν fν => ?_) (4 * α.1 0 1 - first) first (by omega) (fun l el ν fν hl => hS ν l fν el hl) (fun en ν fν => hN ν fν en)
      · exact kyz μ (fCh_refl _ μ)
      · refine sg_Apart_choose_21 ?_
        have e4 : iw (((α.1 0 1 : Nat) : Int) * 4) = ((4 * α.1 0 1 : Nat) : Int) := by rw [iw_id (by omega) (by omega)]; omega
        rw [fν.1 2 1 (by decide) (by decide), h21, e4, if_pos (by omega), wb_eq (by omega) (by omega), wb_eq (by omega) (by omega), Int.toNat_natCast, Int.toNat_natCast, fν.1 55 q (by decide) (by decide), h55 q hq, iw_k1 (by omega), iw_k1 (by omega)]
        have hKν : vK (xset ν 58 pre.length (q : Int)) α pre := fun i a1 a2 => by rw [xs_c (by decide), fν.2.1 i a2]; exact hK i a1 a2
        refine X_split_ok (q := q) hL (by omega) hKν (fun m1 f1 f2 hK1 => ?_)
        refine gV_mk ?_
        have el : (pre ++ [q]).length = pre.length + 1 := by rw [List.length_append]; rfl
        have fm : fCh pre.length μ m1 := ⟨fun c j a1 a2 => by rw [f1 c j a1, xs_c a2]; exact fν.1 c j a1 a2, fun i hi => by rw [f2 i hi, xs_c (by decide)]; exact fν.2.1 i hi, fun j hj => by rw [f1 58 j (by decide), xs_j (by omega)]; exact fν.2.2 j hj⟩
        have ihh := ih d (q + 1) (pre ++ [q]) m1 (gI (fun r3 m2 => if r3 = 0 then (DW ((d + e + 2) + 1) 110 21 [xR 11, xI (pre.length : Int), xI (first : Int), xI ((pre.length + (e + 1) : Nat) : Int), xI ((q + 1 : Nat) : Int)] m2 Q) else (Q (xI 1) m2))) (by rw [el]; omega) (by omega) (fun x hx => by
          rw [List.mem_append, List.mem_singleton] at hx
          rcases hx with hx | hx
          · exact hm x hx
          · omega) ((fm.1 2 1 (by decide) (by decide)).trans h21) (fun q' hq' => (fm.1 55 q' (by decide) (by decide)).trans (h55 q' hq')) hK1 (fun j hj => by
          rw [el] at hj
          by_cases c2 : j = pre.length
          · rw [c2, f1 58 _ (by decide), xs_s, getD_e]
          · rw [fm.2.2 j (by omega), h58 j (by omega), getD_l (by omega)]) ?_ ?_
        · rw [el, show pre.length + 1 + e = pre.length + (e + 1) by omega] at ihh
          exact ihh
        · intro m2 g2 en
          refine gI_mk ?_
          rw [if_pos rfl]
          rw [el] at g2
          exact hn en m2 ⟨fun c j a1 a2 => (g2.1 c j a1 a2).trans (fm.1 c j a1 a2), fun i hi => (g2.2.1 i (by omega)).trans (fm.2.1 i hi), fun j hj => (g2.2.2 j (by omega)).trans (fm.2.2 j hj)⟩
        · intro m2 l g2 es hl
          refine gI_mk ?_
          rw [if_neg (by decide)]
          rw [el] at g2
          exact hs l es m2 ⟨fun c j a1 a2 => (g2.1 c j a1 a2).trans (fm.1 c j a1 a2), fun i hi => (g2.2.1 i (by omega)).trans (fm.2.1 i hi), fun j hj => (g2.2.2 j (by omega)).trans (fm.2.2 j hj)⟩ hl
      · refine sg_Apart_choose_21 ?_
        have e4 : iw (((α.1 0 1 : Nat) : Int) * 4) = ((4 * α.1 0 1 : Nat) : Int) := by rw [iw_id (by omega) (by omega)]; omega
        rw [fν.1 2 1 (by decide) (by decide), h21, e4, if_neg (by omega)]
        exact hx ν fν
theorem X_fill55_ok {d : Nat} {μ : Mem} {Q : AV → Mem → Prop} (h : ∀ μ', (∀ c j, c ≠ 55 → μ' c j = μ c j) → (∀ j, j < 24 → μ' 55 j = 0) → Q (xI 0) μ') : GM d 95 [xR 55, xI 0] μ Q := by
  refine ge_JArrays_fill_55 ?_
  refine lp_up (fun i (ν : Mem) => DW d 95 5 [xR 55, xI 0, xI (i : Int), xI 24] ν Q) (fun i ν => (∀ c j, c ≠ 55 → ν c j = μ c j) ∧ ∀ j, j < i → ν 55 j = 0) 24 ?_ ?_ 24 0 μ rfl ⟨fun _ _ _ => rfl, fun j hj => absurd hj (Nat.not_lt_zero j)⟩
  · intro i ν hi hI hn
    refine sg_JArrays_fill_55_5 ?_
    rw [if_pos (by omega), wb_eq (by omega) (by omega), iw_k1 (by omega), Int.toNat_natCast]
    refine hn _ ⟨fun c j hc => by rw [xs_c hc]; exact hI.1 c j hc, fun j hj => ?_⟩
    by_cases c : j = i
    · rw [c]; exact xs_s
    · rw [xs_j c]; exact hI.2 j (by omega)
  · intro ν hI
    refine sg_JArrays_fill_55_5 ?_
    rw [if_neg (by omega)]
    exact h ν hI.1 hI.2
def fApW (μ μ' : Mem) : Prop := ∀ c j, c ≠ 10 → c ≠ 11 → (c < 51 ∨ 58 < c) → μ' c j = μ c j
theorem X_apfind_ok {d : Nat} {μ : Mem} {α : Al} {Q : AV → Mem → Prop} (hv : vX μ α) (hw : wf α) (hN : AP α = none → ∀ μ', fApW μ μ' → Q (xI (-1)) μ') (hS : ∀ l, AP α = some l → l.length ≤ 4 → ∀ μ', fApW μ μ' → (∀ j, j < l.length → μ' 58 j = ((l.getD j 0 : Nat) : Int)) → Q (xI ((l.length : Nat) : Int)) μ') : GM (d + 10) 107 [xR 11] μ Q := by
  have hT := wf_T hw
  have h64 := p2 hT
  have hpos : 0 < 2 ^ α.1 0 1 := Nat.pow_pos (by decide)
  refine ge_Apart_find ?_
  refine X_weigh_ok hv hw (fun m1 f1 hv1 hG1 => ?_)
  refine gV_mk ?_
  have g1 : fApW μ m1 := fun c j a1 a2 a3 => f1 c j a1 (by omega) (by omega) (by omega) (by omega)
  rw [hG1.2.2.2]
  refine wi (fun c0 => ?_) (fun c0 => ?_)
  · refine hN ?_ m1 g1
    refine fq_none 5 (fun q _ hq => ?_) (Nat.le_refl 5)
    unfold AP1
    have h16 : 2 ^ q ≤ 16 := Nat.pow_le_pow_right (n := 2) (j := 4) (by decide) (by omega)
    rw [if_pos (by omega)]
  have hL : (FT α).length ≤ 16 := by omega
  refine X_fill55_ok (fun m2 f2 z2 => ?_)
  refine gV_mk ?_
  have a2 : fAp m1 (xset m2 11 6 0) := fun c j b1 b2 => by rw [xs_c b1]; exact f2 c j (by omega)
  rw [show d + 5 + 4 = (d + (6 - α.1 0 1)) + α.1 0 1 + 3 by omega]
  refine X_gather_ok hw (α.1 0 1) _ 0 0 [] [] (xset m2 11 6 0) _ (by omega) rfl (vX_fr (fX_fAp a2) hv1) (vG_fAp a2 hG1) hpos rfl (fun i hi => absurd hi (Nat.not_lt_zero i)) ⟨xs_s, fun q hq => ?_⟩ ?_ (fun m3 f3 _ hW3 => ?_)
  · rw [xs_c (by decide), z2 q (by omega)]; rfl
  · rw [← FT_tl hw]
    show 0 + _ ≤ 16
    omega
  refine gV_mk ?_
  have eG : ([] ++ ((ex (α.1 0 1) (α.1 0 1) 0).filter (fitL (al α) 0)).map (fun l => [] ++ l) : List (List Nat)) = (FT α).map (rowL (α.1 0 1)) := by
    rw [← FT_rows hw, List.nil_append]
    show ((rws (α.1 0 1)).filter (fitL (al α) 0)).map (fun l => l) = _
    rw [List.map_id']
  rw [eG] at hW3
  have eL : ((FT α).map (rowL (α.1 0 1))).length = (FT α).length := List.length_map _
  have h11 := hW3.1
  rw [eL] at h11
  have e55 : ∀ q, q < 4 * α.1 0 1 → m3 55 q = ((sp_bits (gx α q) (FT α).length : Nat) : Int) := fun q hq => by
    rw [hW3.2 q hq]
    unfold wB
    rw [eL, sp_bits_ext (fun k hk => gL_gx q k hk)]
  have eb : ∀ n : Nat, n ≤ 16 → iw (xshl 1 (n : Int) - 1) = ((sp_bits (fun k => idx α k [] 1 == 1) n : Nat) : Int) := by
    intro n hn
    have h2 : 2 ^ n ≤ 65536 := Nat.pow_le_pow_right (n := 2) (j := 16) (by decide) hn
    have h3 : 0 < 2 ^ n := Nat.pow_pos (by decide)
    rw [sp_one (by omega), iw_s1 h3 (by omega)]
    congr 1
    clear hn h2 h3
    induction n with
    | zero => rfl
    | succ n ih =>
      have h3 : 0 < 2 ^ n := Nat.pow_pos (by decide)
      rw [sp_bits, ← ih, Nat.pow_succ]
      show _ = 2 ^ n - 1 + 2 ^ n
      omega
  rw [h11, eb _ hL]
  have fr : ∀ ν, (∀ c j, c ≠ 56 → c ≠ 58 → ν c j = (xset m3 56 1 ((sp_bits (fun k => idx α k [] 1 == 1) (FT α).length : Nat) : Int)) c j) → fApW μ ν := fun ν hν c j b1 b2 b3 => by
    rw [hν c j (by omega) (by omega), xs_c (by omega), f3 c j b2 (by omega), a2 c j b2 (by omega)]
    exact g1 c j b1 b2 b3
  have kyz := lp_fq (m := 5) (f := AP1 α) (Wh := fun n => ∀ ν, fCh 0 (xset m3 56 1 ((sp_bits (fun k => idx α k [] 1 == 1) (FT α).length : Nat) : Int)) ν → DW (d + 5 + 5) 107 33 [xR 11, xI (n : Int)] ν Q) (Wx := AP α = none) (R := fun l => AP α = some l) (fun q hq hs hn ν fν => ?_) (fun hx ν fν => ?_) 5 0 rfl (fun l e => e) (fun e => e)
  · exact kyz _ (fCh_refl 0 _)
  · refine sg_Apart_find_33 ?_
    rw [if_neg (by omega), iw_k1 (by omega)]
    have i1 : ν 2 1 = ((α.1 0 1 : Nat) : Int) := by
      rw [fν.1 2 1 (by decide) (by decide), xs_c (by decide), f3 2 1 (by decide) (by decide), a2 2 1 (by decide) (by decide)]
      exact vX_T hv1
    have ihh := X_chooseP_ok hw hL q (d + (7 - q)) 0 [] ν (gI (fun r2 m1 => if r2 = 0 then (DW (d + 5 + 5) 107 33 [xR 11, xI ((q + 1 : Nat) : Int)] m1 Q) else (Q (xI (q : Int)) m1))) (by show 0 + q ≤ 4; omega) (Nat.zero_le _) (fun x hx => by cases hx) i1 (fun q' hq' => by
      rw [fν.1 55 q' (by decide) (by decide), xs_c (by decide)]; exact e55 q' hq') (fun i b1 b2 => by
      have e1 : i = 1 := by
        rw [show ([] : List Nat).length = 0 from rfl] at b1 b2
        rw [Nat.pow_zero] at b1
        rw [show (2 : Nat) ^ (0 + 1) = 2 from rfl] at b2
        omega
      rw [e1, fν.2.1 1 (by decide), xs_s]) (fun j hj => absurd hj (Nat.not_lt_zero j)) (fun m4 g4 en => ?_) (fun m4 l g4 es hl => ?_)
    · rw [show d + (7 - q) + q + 2 = d + 5 + 4 by omega, show ([] : List Nat).length + q = q from Nat.zero_add q] at ihh
      exact ihh
    · refine gI_mk ?_
      rw [if_pos rfl]
      exact hn ((AP1_srch q).trans en) m4 ⟨fun c j b1 b2 => (g4.1 c j b1 b2).trans (fν.1 c j b1 b2), fun i hi => (g4.2.1 i hi).trans (fν.2.1 i hi), fun j hj => absurd hj (Nat.not_lt_zero j)⟩
    · refine gI_mk ?_
      rw [if_neg (by decide)]
      have eA : AP1 α q = some l := (AP1_srch q).trans es
      have hAP := hs l eA
      have hlen := (AP1_ok eA).1
      have := hS l hAP (by omega) m4 (fr m4 (fun c j b1 b2 => (g4.1 c j b1 b2).trans (fν.1 c j b1 b2))) hl
      rw [hlen] at this
      exact this
  · refine sg_Apart_find_33 ?_
    rw [if_pos (by decide)]
    exact hN hx ν (fr ν fν.1)
theorem X_apart_ok {d : Nat} {i : Int} {μ : Mem} {α : Al} {Q : AV → Mem → Prop} (hv : vX μ α) (hw : wf α) (h : ∀ μ', fApW μ μ' → Q (xI (r_apart α i)) μ') : GM (d + 11) 106 [xR 0, xI i] μ Q := by
  refine ge_X_apart ?_
  unfold r_apart at h
  refine wi (fun c0 => ?_) (fun c0 => ?_)
  · rw [if_pos c0] at h; exact h μ (fun _ _ _ _ _ => rfl)
  rw [if_neg c0] at h
  refine X_apfind_ok hv hw (fun e μ' f => ?_) (fun l e hl μ' f hr => ?_)
  · refine gI_mk ?_
    rw [e] at h
    have h' : Q (xI (-1)) μ' := h μ' f
    refine wi (fun c => h') (fun c => ?_)
    rw [if_neg (by omega)]
    exact h'
  · refine gI_mk ?_
    rw [e] at h
    have h' : Q (xI (if i = -1 then (l.length : Int) else ap_i l i.toNat)) μ' := h μ' f
    refine wi (fun c => ?_) (fun c => ?_)
    · rw [if_pos c] at h'; exact h'
    · rw [if_neg c] at h'
      obtain ⟨i, rfl⟩ := Int.eq_ofNat_of_zero_le (show 0 ≤ i by omega)
      rw [Int.toNat_natCast] at h'
      refine wi (fun c2 => ?_) (fun c2 => ?_)
      · have hi : i < l.length := Int.ofNat_lt.1 c2
        rw [wb_eq (by omega) (by omega), Int.toNat_natCast, hr i hi]
        have e2 : ap_i l i = ((l.getD i 0 : Nat) : Int) := by
          unfold ap_i
          rw [List.getD_eq_getElem?_getD, List.getElem?_eq_getElem hi]
          rfl
        rw [e2] at h'
        exact h'
      · have hi : ¬ i < l.length := fun w => c2 (Int.ofNat_lt.2 w)
        have e2 : ap_i l i = -1 := by unfold ap_i; rw [List.getElem?_eq_none (by omega)]
        rw [e2] at h'
        exact h'
