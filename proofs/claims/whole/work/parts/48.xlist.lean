/-! the class: all arrangements, where one stands, two of its places changed, does it fit -/
def fLi (μ μ' : Mem) : Prop := ∀ c j, (c ≠ 12 ∨ j ≠ 4) → c ≠ 59 → μ' c j = μ c j
theorem fLi_refl (μ : Mem) : fLi μ μ := fun _ _ _ _ => rfl
theorem fLi_t {μ ν κ : Mem} (h : fLi μ ν) (g : fLi ν κ) : fLi μ κ := fun c j h1 h2 => (g c j h1 h2).trans (h c j h1 h2)
def vLi (μ : Mem) (G : List Nat) : Prop := μ 12 4 = ((G.length : Nat) : Int) ∧ ∀ k, k < G.length → μ 59 k = ((G.getD k 0 : Nat) : Int)
theorem p8 {p : Nat} (hp : p < 6) : 8 ^ p ≤ 32768 := Nat.pow_le_pow_right (n := 8) (j := 5) (by decide) (by omega)
set_option maxRecDepth 20000 in
theorem X_list_ok {α : Al} (hw : wf α) : ∀ (n d p s x : Nat) (G : List Nat) (μ : Mem) (Q : AV → Mem → Prop), p + n = α.1 0 1 → vX μ α → s < 64 → x < 8 ^ p → vLi μ G → G.length + (ex (α.1 0 1) n s).countP (fitL (lk α) p) ≤ 720 → (∀ μ', fLi μ μ' → vLi μ' (G ++ ((ex (α.1 0 1) n s).filter (fitL (lk α) p)).map (fun l => pk l x)) → Q (xI 0) μ') → GM (d + n + 1) 115 [xR 12, xI (p : Int), xI (s : Int), xI (x : Int)] μ Q := by
  have hT := wf_T hw
  intro n
  induction n with
  | zero =>
    intro d p s x G μ Q hp hv hs hx hG hb h
    refine ge_Came_list ?_
    have e1 : (ex (α.1 0 1) 0 s).countP (fitL (lk α) p) = 1 := rfl
    rw [e1] at hb
    have e2 : ((ex (α.1 0 1) 0 s).filter (fitL (lk α) p)).map (fun l => pk l x) = [x] := rfl
    rw [e2] at h
    rw [vX_T hv, if_neg (by omega), hG.1, if_pos (by omega), wb_eq (by omega) (by omega), Int.toNat_natCast, iw_k1 (by omega)]
    refine h _ (fun c j h1 h2 => ?_) ⟨?_, fun k hk => ?_⟩
    · rw [xs_if, if_neg (by omega), xs_c h2]
    · rw [xs_s, List.length_append]; rfl
    · rw [List.length_append, List.length_singleton] at hk
      rw [xs_c (by decide)]
      by_cases c : k = G.length
      · rw [c, xs_s, getD_e]
      · rw [xs_j c, getD_l (by omega)]; exact hG.2 k (by omega)
  | succ n ih =>
    intro d p s x G μ Q hp hv hs hx hG hb h
    rw [show d + (n + 1) + 1 = (d + n + 1) + 1 by omega]
    refine ge_Came_list ?_
    rw [vX_T hv, if_pos (by omega)]
    have kyz : ∀ (m t : Nat) (ν : Mem), t + m = α.1 0 1 → fLi μ ν → vLi ν (G ++ ((ex_go s (ex (α.1 0 1) n) t).filter (fitL (lk α) p)).map (fun l => pk l x)) → DW ((d + n + 1) + 1) 115 24 [xR 12, xI (p : Int), xI (s : Int), xI (x : Int), xI (t : Int)] ν Q := by
      intro m
      induction m with
      | zero =>
        intro t ν ht f1 hG2
        refine sg_Came_list_24 ?_
        rw [f1 2 1 (by decide) (by decide), vX_T hv, if_neg (by omega)]
        rw [show t = α.1 0 1 by omega] at hG2
        exact h ν f1 hG2
      | succ m ihm =>
        intro t ν ht f1 hG2
        have htT : t < α.1 0 1 := by omega
        have hx8 := p8 (show p < 6 by omega)
        have ego : ex_go s (ex (α.1 0 1) n) (t + 1) = ex_go s (ex (α.1 0 1) n) t ++ (if s.testBit t then [] else (ex (α.1 0 1) n (s ||| 2 ^ t)).map (List.cons t)) := rfl
        have skip : (((if s.testBit t then [] else (ex (α.1 0 1) n (s ||| 2 ^ t)).map (List.cons t)) : List (List Nat)).filter (fitL (lk α) p) = []) → DW ((d + n + 1) + 1) 115 24 [xR 12, xI (p : Int), xI (s : Int), xI (x : Int), xI ((t + 1 : Nat) : Int)] ν Q := fun e7 => by
          refine ihm (t + 1) ν (by omega) f1 ?_
          rw [ego, List.filter_append, e7, List.append_nil]
          exact hG2
        refine sg_Came_list_24 ?_
        rw [f1 2 1 (by decide) (by decide), vX_T hv, if_pos (by omega), wb_eq (by omega) (by omega), wb_eq (by omega) (by omega), Int.toNat_natCast, Int.toNat_natCast, f1 18 t (Or.inl (by decide)) (by decide), f1 18 p (Or.inl (by decide)) (by decide), vX_look hv t htT, vX_look hv p (by omega), iw_1 (t := t) (by omega), iw_1 (t := p) (by omega)]
        refine wi (fun c1 => ?_) (fun c1 => ?_)
        · have c1' : lk α p t = true := by unfold lk; rw [beq_iff_eq]; omega
          refine wi (fun c2 => ?_) (fun c2 => ?_)
          · have c2' : s.testBit t = false := by
              rw [sp_bit (by omega) (by omega)] at c2
              cases e : s.testBit t with
              | false => rfl
              | true => rw [e] at c2; exact absurd c2 (by decide)
            rw [x_or hs (by omega), x_pk (by omega) (by omega)]
            have ef : ((ex (α.1 0 1) n (s ||| 2 ^ t)).map (List.cons t)).filter (fitL (lk α) p) = ((ex (α.1 0 1) n (s ||| 2 ^ t)).filter (fitL (lk α) (p + 1))).map (List.cons t) := by
              rw [List.filter_map]
              congr 1
              apply List.filter_congr
              intro l _
              show fitL (lk α) p (t :: l) = _
              rw [fitL, c1', Bool.true_and]
            refine ih d (p + 1) (s ||| 2 ^ t) (8 * x + t) _ ν _ (by omega) (vX_fr ⟨⟨f1 0 4 (by decide) (by decide), f1 1 1 (by decide) (by decide)⟩, fun c j q => ?_⟩ hv) (or64 hs (by omega)) (by rw [Nat.pow_succ]; omega) hG2 ?_ (fun μ' g1 hG3 => ?_)
            · have q2 : c ≠ 12 ∧ c ≠ 59 := by
                rw [Bool.or_eq_true, Bool.and_eq_true, Nat.ble_eq, Nat.ble_eq] at q
                rcases q with q | q
                · simp only [Bool.or_eq_true, beq_iff_eq] at q
                  omega
                · omega
              exact f1 c j (Or.inl q2.1) q2.2
            · have e1 := ex_go_cnt (fitL (lk α) p) s (ex (α.1 0 1) n) (t + 1)
              have e2 := ex_go_cnt (fitL (lk α) p) s (ex (α.1 0 1) n) (α.1 0 1)
              have e3 := sm_mono (f := fun t => if s.testBit t then 0 else (ex (α.1 0 1) n (s ||| 2 ^ t)).countP (fun l => fitL (lk α) p (t :: l))) (show t + 1 ≤ α.1 0 1 by omega)
              have e4 : (ex_go s (ex (α.1 0 1) n) (α.1 0 1)).countP (fitL (lk α) p) = (ex (α.1 0 1) (n + 1) s).countP (fitL (lk α) p) := rfl
              rw [ego, List.countP_append, c2', if_neg (by decide), List.countP_eq_length_filter (l := (ex (α.1 0 1) n (s ||| 2 ^ t)).map (List.cons t)), ef, List.length_map, ← List.countP_eq_length_filter] at e1
              rw [List.length_append, List.length_map, ← List.countP_eq_length_filter]
              omega
            · refine gV_mk ?_
              refine ihm (t + 1) μ' (by omega) (fLi_t f1 g1) ?_
              rw [ego, List.filter_append, List.map_append, c2', if_neg (by decide), ef, List.map_map, ← List.append_assoc]
              exact hG3
          · have c2' : s.testBit t = true := by
              rw [sp_bit (by omega) (by omega)] at c2
              cases e : s.testBit t with
              | true => rfl
              | false => rw [e] at c2; exact absurd rfl c2
            exact skip (by rw [if_pos c2']; rfl)
        · refine skip ?_
          by_cases c3 : s.testBit t = true
          · rw [if_pos c3]; rfl
          · rw [if_neg c3, List.filter_map]
            have c4 : lk α p t = false := by unfold lk; rw [beq_eq_false_iff_ne]; omega
            have e8 : (ex (α.1 0 1) n (s ||| 2 ^ t)).filter (fitL (lk α) p ∘ List.cons t) = [] := by
              rw [List.filter_eq_nil_iff]
              intro l _
              show ¬ fitL (lk α) p (t :: l) = true
              rw [fitL, c4, Bool.false_and]
              decide
            rw [e8]; rfl
    refine kyz (α.1 0 1) 0 μ (by omega) (fLi_refl μ) ?_
    show vLi μ (G ++ [])
    rw [List.append_nil]
    exact hG
/-- the arrangements stand there -/
def vWy (μ : Mem) (α : Al) : Prop := μ 12 4 = (((LW α).length : Nat) : Int) ∧ ∀ k, k < (LW α).length → μ 59 k = ((wy α k : Nat) : Int)
theorem vWy_of {μ : Mem} {α : Al} (hw : wf α) (h : vLi μ ([] ++ ((ex (α.1 0 1) (α.1 0 1) 0).filter (fitL (lk α) 0)).map (fun l => pk l 0))) : vWy μ α := by
  have hT := wf_T hw
  have e : ([] ++ ((ex (α.1 0 1) (α.1 0 1) 0).filter (fitL (lk α) 0)).map (fun l => pk l 0) : List Nat) = WL α := by
    rw [List.nil_append, WL_eq hT]; rfl
  rw [e] at h
  refine ⟨by rw [h.1, WL_len], fun k hk => ?_⟩
  rw [h.2 k (by rw [WL_len]; exact hk), List.getD_eq_getElem?_getD, List.getElem?_eq_getElem (by rw [WL_len]; exact hk), WL_get hk]
  rfl
set_option maxRecDepth 20000 in
theorem X_indexOf_ok {d k : Nat} {μ : Mem} {α : Al} {Q : AV → Mem → Prop} (hw : wf α) (hW : vWy μ α) (hk : k < (LW α).length) (h : Q (xI (k : Int)) μ) : GM d 121 [xR 12, xI ((wy α k : Nat) : Int)] μ Q := by
  have hT := wf_T hw
  have hL := LW_le hT
  refine ge_Came_indexOf ?_
  rw [hW.1, iw_s1 (by omega) (by omega)]
  have kyz : ∀ (m low high st : Nat) (v5 : AV), low ≤ k → k ≤ high → high < (LW α).length → high - low < 2 ^ m → st + m ≤ 12 → DW d 121 9 [xR 12, xI ((wy α k : Nat) : Int), xI (low : Int), xI (high : Int), xI (st : Int), v5] μ Q := by
    intro m
    induction m with
    | zero =>
      intro low high st v5 h1 h2 h3 h4 h5
      rw [Nat.pow_zero] at h4
      refine sg_Came_indexOf_9 ?_
      rw [if_neg (show ¬ (low : Int) < (high : Int) by omega), ite_self, show low = k by omega]
      exact h
    | succ m ih =>
      intro low high st v5 h1 h2 h3 h4 h5
      rw [Nat.pow_succ] at h4
      refine sg_Came_indexOf_9 ?_
      rw [if_pos (by omega)]
      refine wi (fun c => ?_) (fun c => ?_)
      · have em : xdiv (iw ((low : Int) + (high : Int))) 2 = (((low + high) / 2 : Nat) : Int) := by
          rw [iw_ad (by omega)]
          exact xdiv_nat (b := 2) (by omega)
        have hmid : (low + high) / 2 < (LW α).length := by omega
        rw [em, wb_eq (by omega) (by omega), Int.toNat_natCast, hW.2 _ hmid, iw_k1 (n := (low + high) / 2) (by omega), iw_k1 (n := st) (by omega)]
        refine wi (fun c2 => ?_) (fun c2 => ?_)
        · have c3 : (low + high) / 2 < k := by
            rcases Nat.lt_trichotomy ((low + high) / 2) k with q | q | q
            · exact q
            · rw [q] at c2; omega
            · have := wy_lt hT q hmid; omega
          exact ih _ _ _ _ (by omega) h2 h3 (by omega) (by omega)
        · have c3 : k ≤ (low + high) / 2 := by
            rcases Nat.lt_trichotomy ((low + high) / 2) k with q | q | q
            · have := wy_lt hT q hk; omega
            · omega
            · omega
          exact ih _ _ _ _ h1 c3 hmid (by omega) (by omega)
      · rw [show low = k by omega]
        exact h
  exact kyz 10 0 ((LW α).length - 1) 0 _ (Nat.zero_le _) (by omega) (by omega) (by rw [show (2 : Nat) ^ 10 = 1024 from rfl]; omega) (by omega)
theorem X_exchanged_ok {d r a b : Nat} {μ : Mem} {α : Al} {Q : AV → Mem → Prop} (hw : wf α) (h21 : μ 2 1 = ((α.1 0 1 : Nat) : Int)) (hr : r < fac (α.1 0 1)) (hab : a < b) (hb : b < α.1 0 1) (h : Q (xI ((pk (rowL (α.1 0 1) (swr (α.1 0 1) r a b)) 0 : Nat) : Int)) μ) : GM (d + 1) 119 [xR 12, xI ((pk (rowL (α.1 0 1) r) 0 : Nat) : Int), xI (a : Int), xI (b : Int)] μ Q := by
  have hT := wf_T hw
  refine ge_Came_exchanged ?_
  rw [h21, x_exN hT (pk_bd hT hr) (by omega) hb, exN_ok hT hr hab hb]
  exact h
theorem X_isFit_ok {d r : Nat} {μ : Mem} {α : Al} {Q : AV → Mem → Prop} (hw : wf α) (h21 : μ 2 1 = ((α.1 0 1 : Nat) : Int)) (hA : vA μ α) (hr : r < fac (α.1 0 1)) (h : Q (xI (b01 (fitB α (rv (α.1 0 1) r)))) μ) : GM (d + 1) 122 [xR 12, xI ((pk (rowL (α.1 0 1) r) 0 : Nat) : Int)] μ Q := by
  have hT := wf_T hw
  have hpk := pk_bd hT hr
  rw [fitB_al hw] at h
  refine ge_Came_isFit ?_
  have kyz : ∀ (m p : Nat) (v3 : AV), p + m = α.1 0 1 → (∀ i, i < p → al α i (rv (α.1 0 1) r i) = true) → DW (d + 1) 122 2 [xR 12, xI ((pk (rowL (α.1 0 1) r) 0 : Nat) : Int), xI (p : Int), v3] μ Q := by
    intro m
    induction m with
    | zero =>
      intro p v3 hp hz
      refine sg_Came_isFit_2 ?_
      rw [h21, if_neg (by omega)]
      have e : sp_all (fun p => al α p (rv (α.1 0 1) r p)) (α.1 0 1) = true := sp_all_iff.2 (fun i hi => hz i (by omega))
      rw [e] at h
      exact h
    | succ m ih =>
      intro p v3 hp hz
      have hpT : p < α.1 0 1 := by omega
      have hrv := rv_lt hT hr hpT
      have e7 := xand_nat (a := pk (rowL (α.1 0 1) r) 0 / 2 ^ (3 * (α.1 0 1 - 1 - p))) (b := 7) (Nat.lt_of_le_of_lt (Nat.div_le_self _ _) (by omega))
      rw [show ((7 : Nat) : Int) = 7 from rfl, pk_dg hT hr hpT] at e7
      refine sg_Came_isFit_2 ?_
      rw [h21, if_pos (by omega), iw_sh hT hpT, wb_eq (by omega) (by omega), Int.toNat_natCast, hA p hpT, xshr_nat (a := pk (rowL (α.1 0 1) r) 0) (by omega) (by omega), e7, iw_k1 (by omega)]
      have hs := sp_bits64 (al α p) hT
      refine wi (fun c => ?_) (fun c => ?_)
      · rw [sp_bit (by omega) (by omega), sp_bits_tb, decide_eq_true hrv, Bool.true_and] at c
        have c2 : al α p (rv (α.1 0 1) r p) = false := by
          cases e : al α p (rv (α.1 0 1) r p) with
          | false => rfl
          | true => rw [e] at c; exact absurd c (by decide)
        have e : sp_all (fun p => al α p (rv (α.1 0 1) r p)) (α.1 0 1) = false := sp_all_no hpT c2
        rw [e] at h
        exact h
      · rw [sp_bit (by omega) (by omega), sp_bits_tb, decide_eq_true hrv, Bool.true_and] at c
        have c2 : al α p (rv (α.1 0 1) r p) = true := by
          cases e : al α p (rv (α.1 0 1) r p) with
          | true => rfl
          | false => rw [e] at c; exact absurd rfl c
        refine ih (p + 1) _ (by omega) (fun i hi => ?_)
        by_cases e : i = p
        · rw [e]; exact c2
        · exact hz i (by omega)
  exact kyz (α.1 0 1) 0 _ (by omega) (fun i hi => absurd hi (Nat.not_lt_zero i))
