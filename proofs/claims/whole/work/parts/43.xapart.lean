/-! the class: what tells all apart -/
def fAp (μ μ' : Mem) : Prop := ∀ c j, c ≠ 11 → (c < 55 ∨ 58 < c) → μ' c j = μ c j
theorem fAp_refl (μ : Mem) : fAp μ μ := fun _ _ _ _ => rfl
theorem fAp_t {μ ν κ : Mem} (h : fAp μ ν) (g : fAp ν κ) : fAp μ κ := fun c j h1 h2 => (g c j h1 h2).trans (h c j h1 h2)
theorem fX_fAp {μ μ' : Mem} (h : fAp μ μ') : fX μ μ' := ⟨⟨h 0 4 (by decide) (by decide), h 1 1 (by decide) (by decide)⟩, fun c j q => by
  have q2 : c ≠ 11 ∧ c < 55 := by
    rw [Bool.or_eq_true, Bool.and_eq_true, Nat.ble_eq, Nat.ble_eq] at q
    rcases q with q | q
    · simp only [Bool.or_eq_true, beq_iff_eq] at q
      omega
    · omega
  exact h c j q2.1 (Or.inl q2.2)⟩
theorem vG_fAp {μ μ' : Mem} {α : Al} (h : fAp μ μ') (g : vG μ α) : vG μ' α := ⟨fun p hp => (h 51 p (by decide) (by decide)).trans (g.1 p hp), fun s h1 h2 => (h 53 s (by decide) (by decide)).trans (g.2.1 s h1 h2), fun p t hp ht => (h 54 _ (by decide) (by decide)).trans (g.2.2.1 p t hp ht), (h 10 7 (by decide) (by decide)).trans g.2.2.2⟩
theorem iw_44 {p u : Nat} (hp : p < 100) (hu : u < 100) : iw (iw ((p : Int) * 4) + (u : Int)) = ((4 * p + u : Nat) : Int) := by simp only [iw_def]; omega
def wu (α : Al) (g : Nat) (l : List Nat) (w : Nat → Nat) (q : Nat) : Nat := if gL α q l then w q ||| 2 ^ g else w q
set_option maxRecDepth 20000 in
theorem X_note_ok {d g : Nat} {l : List Nat} {w : Nat → Nat} {μ : Mem} {α : Al} {Q : AV → Mem → Prop} (hv : vX μ α) (hw : wf α) (hl : ∀ p, p < α.1 0 1 → μ 57 p = ((l.getD p 0 : Nat) : Int) ∧ l.getD p 0 < α.1 0 1) (hg : μ 11 6 = (g : Int)) (hg16 : g < 16) (hW : ∀ q, q < 4 * α.1 0 1 → μ 55 q = ((w q : Nat) : Int) ∧ w q < 65536) (h : ∀ μ', (∀ c j, c ≠ 55 → μ' c j = μ c j) → (∀ q, q < 4 * α.1 0 1 → μ' 55 q = ((wu α g l w q : Nat) : Int)) → Q (xI 0) μ') : GM (d + 2) 109 [xR 11] μ Q := by
  have hT := wf_T hw
  refine ge_Apart_noteAnswers ?_
  have key : ∀ m p (ν : Mem) v2, p + m = α.1 0 1 → (∀ c j, c ≠ 55 → ν c j = μ c j) → (∀ q, q < 4 * α.1 0 1 → ν 55 q = (((if q < 4 * p then wu α g l w q else w q) : Nat) : Int)) → DW (d + 2) 109 2 [xR 11, xI (p : Int), v2] ν Q := by
    intro m
    induction m with
    | zero =>
      intro p ν v2 hp hf hI
      refine sg_Apart_noteAnswers_2 ?_
      rw [hf 2 1 (by decide), vX_T hv, if_neg (by omega)]
      exact h ν hf (fun q hq => by rw [hI q hq, if_pos (by omega)])
    | succ m ih =>
      intro p ν v2 hp hf hI
      refine sg_Apart_noteAnswers_2 ?_
      rw [hf 2 1 (by decide), vX_T hv, if_pos (by omega)]
      have inn : ∀ n u (κ : Mem), u + n = 4 → (∀ c j, c ≠ 55 → κ c j = μ c j) → (∀ q, q < 4 * α.1 0 1 → κ 55 q = (((if q < 4 * p + u then wu α g l w q else w q) : Nat) : Int)) → DW (d + 2) 109 10 [xR 11, xI (p : Int), xI (u : Int)] κ Q := by
        intro n
        induction n with
        | zero =>
          intro u κ hu hf hI
          refine sg_Apart_noteAnswers_10 ?_
          rw [if_neg (by omega)]
          refine sg_Apart_noteAnswers_41 ?_
          rw [iw_k1 (by omega)]
          refine ih (p + 1) κ _ (by omega) hf (fun q hq => ?_)
          rw [hI q hq, show 4 * p + u = 4 * (p + 1) by omega]
        | succ n ihn =>
          intro u κ hu hf hI
          have hl' := hl p (by omega)
          have hvκ : vX κ α := vX_fr (fX_fAp (fun c j _ h2 => hf c j (by omega))) hv
          have ei := iw_44 (p := p) (u := u) (by omega) (by omega)
          have q4 : (4 * p + u) / 4 = p := by omega
          have qm : (4 * p + u) % 4 = u := by omega
          have eg : gL α (4 * p + u) l = decide (sp_works α (l.getD p 0) p (u : Int) = 1) := by unfold gL; rw [q4, qm]
          have hWq := hW (4 * p + u) (by omega)
          have hp2 : 2 ^ g ≤ 2 ^ 15 := Nat.pow_le_pow_right (n := 2) (by decide) (by omega)
          refine sg_Apart_noteAnswers_10 ?_
          rw [if_pos (by omega), wb_eq (by omega) (by omega), Int.toNat_natCast, hf 57 p (by decide), hl'.1, iw_k1 (by omega), ei]
          refine X_works_ok hvκ hw hl'.2 (by omega) ?_
          refine gI_mk ?_
          refine wi (fun c => ?_) (fun c => ?_)
          · refine ihn (u + 1) κ (by omega) hf (fun q hq => ?_)
            rw [hI q hq]
            by_cases c2 : q = 4 * p + u
            · subst c2
              rw [if_neg (by omega), if_pos (by omega)]
              unfold wu
              rw [eg, c, if_neg (by decide)]
            · by_cases c3 : q < 4 * p + u
              · rw [if_pos c3, if_pos (by omega)]
              · rw [if_neg c3, if_neg (by omega)]
          · have h01 := sp_works01 α (l.getD p 0) p (u : Int)
            rw [wb_eq (by omega) (by omega), wb_eq (by omega) (by omega), Int.toNat_natCast, hI _ (by omega), if_neg (Nat.lt_irrefl _), hf 11 6 (by decide), hg, sp_one (by omega), xior_nat (by omega) (by omega)]
            refine ihn (u + 1) _ (by omega) (fun c j hc => by rw [xs_c hc]; exact hf c j hc) (fun q hq => ?_)
            by_cases c2 : q = 4 * p + u
            · subst c2
              rw [xs_s, if_pos (by omega)]
              unfold wu
              rw [eg, decide_eq_true (by omega), if_pos rfl]
            · rw [xs_j c2, hI q hq]
              by_cases c3 : q < 4 * p + u
              · rw [if_pos c3, if_pos (by omega)]
              · rw [if_neg c3, if_neg (by omega)]
      exact inn 4 0 ν (by omega) hf hI
  exact key (α.1 0 1) 0 μ _ (by omega) (fun _ _ _ => rfl) (fun q hq => by rw [if_neg (by omega)]; exact (hW q hq).1)
def vW (μ : Mem) (α : Al) (G : List (List Nat)) : Prop := μ 11 6 = ((G.length : Nat) : Int) ∧ ∀ q, q < 4 * α.1 0 1 → μ 55 q = ((wB α G q : Nat) : Int)
theorem vW_fr {μ μ' : Mem} {α : Al} {G : List (List Nat)} (h1 : μ' 11 6 = μ 11 6) (h2 : ∀ q, μ' 55 q = μ 55 q) (h : vW μ α G) : vW μ' α G := ⟨h1.trans h.1, fun q hq => (h2 q).trans (h.2 q hq)⟩
theorem filter_nil_of {β : Type} {P : β → Bool} {l : List β} (h : l.countP P = 0) : l.filter P = [] := by
  apply List.eq_nil_of_length_eq_zero
  rw [← List.countP_eq_length_filter]
  exact h
set_option maxRecDepth 20000 in
theorem X_gather_ok {α : Al} (hw : wf α) : ∀ (n d p s : Nat) (pre : List Nat) (G : List (List Nat)) (μ : Mem) (Q : AV → Mem → Prop), p + n = α.1 0 1 → pre.length = p → vX μ α → vG μ α → s < 2 ^ α.1 0 1 → pop s = p → (∀ i, i < p → μ 57 i = ((pre.getD i 0 : Nat) : Int) ∧ pre.getD i 0 < α.1 0 1) → vW μ α G → G.length + tl (α.1 0 1) (al α) n s ≤ 16 → (∀ μ', fAp μ μ' → (∀ i, i < p → μ' 57 i = μ 57 i) → vW μ' α (G ++ ((ex (α.1 0 1) n s).filter (fitL (al α) p)).map (fun l => pre ++ l)) → Q (xI 0) μ') → GM (d + n + 3) 108 [xR 11, xI (p : Int), xI (s : Int)] μ Q := by
  have hT := wf_T hw
  have h64 := p2 hT
  intro n
  induction n with
  | zero =>
    intro d p s pre G μ Q hp hlen hv hG hs hpop hl hW hb h
    refine ge_Apart_gather ?_
    have e53 := hG.2.1 s (Nat.zero_le s) hs
    rw [wb_eq (by omega) (by omega), Int.toNat_natCast, e53, hpop, show α.1 0 1 - p = 0 by omega]
    have e1 : tl (α.1 0 1) (al α) 0 s = 1 := rfl
    rw [e1] at hb ⊢
    rw [if_neg (by decide), hW.1, if_pos (by omega), vX_T hv, if_neg (by omega)]
    refine X_note_ok (g := G.length) (l := pre) (w := wB α G) hv hw (fun i hi => hl i (by omega)) hW.1 (by omega) (fun q hq => ⟨hW.2 q hq, bits_16 (by omega)⟩) (fun μ' f1 hW' => ?_)
    refine gV_mk ?_
    have e2 : ((ex (α.1 0 1) 0 s).filter (fitL (al α) p)).map (fun l => pre ++ l) = [pre] := by
      show ([[]].filter (fitL (al α) p)).map (fun l => pre ++ l) = [pre]
      show [pre ++ []] = [pre]
      rw [List.append_nil]
    rw [e2] at h
    refine h _ (fun c j h1 h2 => ?_) (fun i hi => ?_) ⟨?_, fun q hq => ?_⟩
    · rw [xs_c h1]; exact f1 c j (by omega)
    · rw [xs_c (by decide)]; exact f1 57 i (by decide)
    · rw [xs_s, f1 11 6 (by decide), hW.1, iw_k1 (by omega), List.length_append]; rfl
    · rw [xs_c (by decide), hW' q hq, wB_add]; rfl
  | succ n ih =>
    intro d p s pre G μ Q hp hlen hv hG hs hpop hl hW hb h
    rw [show d + (n + 1) + 3 = (d + n + 3) + 1 by omega]
    refine ge_Apart_gather ?_
    have e53 := hG.2.1 s (Nat.zero_le s) hs
    rw [wb_eq (by omega) (by omega), Int.toNat_natCast, e53, hpop, show α.1 0 1 - p = n + 1 by omega]
    have ecnt := tl_cnt (al α) (n + 1) s (show n + 1 ≤ α.1 0 1 by omega)
    rw [show α.1 0 1 - (n + 1) = p by omega] at ecnt
    refine wi (fun c => ?_) (fun c => ?_)
    · have e0 : (ex (α.1 0 1) (n + 1) s).filter (fitL (al α) p) = [] := filter_nil_of (by omega)
      rw [e0, List.map_nil, List.append_nil] at h
      exact h μ (fAp_refl μ) (fun _ _ => rfl) hW
    have hA := hG.1 p (by omega)
    have hA64 := sp_bits64 (al α p) hT
    rw [hW.1, if_pos (by omega), vX_T hv, if_pos (by omega), wb_eq (by omega) (by omega), Int.toNat_natCast, hA, x_andn _ hA64 s (by omega)]
    have here64 : sp_bits (al α p) (α.1 0 1) &&& (63 ^^^ s) < 64 := Nat.lt_of_le_of_lt Nat.and_le_left hA64
    have key : ∀ m t (ν : Mem), t + m = α.1 0 1 → fAp μ ν → (∀ i, i < p → ν 57 i = μ 57 i) → vW ν α (G ++ ((ex_go s (ex (α.1 0 1) n) t).filter (fitL (al α) p)).map (fun l => pre ++ l)) → DW ((d + n + 3) + 1) 108 37 [xR 11, xI (p : Int), xI (s : Int), xI ((sp_bits (al α p) (α.1 0 1) &&& (63 ^^^ s) : Nat) : Int), xI (t : Int)] ν Q := by
      intro m
      induction m with
      | zero =>
        intro t ν ht f1 f2 hW2
        refine sg_Apart_gather_37 ?_
        rw [f1 2 1 (by decide) (by decide), vX_T hv, if_neg (by omega)]
        rw [show t = α.1 0 1 by omega] at hW2
        exact h ν f1 f2 hW2
      | succ m ihm =>
        intro t ν ht f1 f2 hW2
        have htT : t < α.1 0 1 := by omega
        refine sg_Apart_gather_37 ?_
        rw [f1 2 1 (by decide) (by decide), vX_T hv, if_pos (by omega), iw_k1 (by omega)]
        have ego : ex_go s (ex (α.1 0 1) n) (t + 1) = ex_go s (ex (α.1 0 1) n) t ++ (if s.testBit t then [] else (ex (α.1 0 1) n (s ||| 2 ^ t)).map (List.cons t)) := rfl
        refine wi (fun c2 => ?_) (fun c2 => ?_)
        · rw [sp_bit1 (by omega) (by omega), tb_andn (by omega), sp_bits_tb, decide_eq_true htT, Bool.true_and, Bool.and_eq_true, Bool.not_eq_true'] at c2
          have ck := (pop_chk s (by omega) t (by omega)).2 c2.2
          have hs2 := (bit_lt _ (show α.1 0 1 < 7 by omega) s hs t htT).1
          rw [wb_eq (by omega) (by omega), Int.toNat_natCast, iw_k1 (by omega), x_or (by omega) (by omega)]
          have fx : fAp μ (xset ν 57 p (t : Int)) := fun c j h1 h2 => by rw [xs_c (by omega)]; exact f1 c j h1 h2
          have ef : ((ex (α.1 0 1) n (s ||| 2 ^ t)).map (List.cons t)).filter (fitL (al α) p) = ((ex (α.1 0 1) n (s ||| 2 ^ t)).filter (fitL (al α) (p + 1))).map (List.cons t) := by
            rw [List.filter_map]
            congr 1
            apply List.filter_congr
            intro l _
            show fitL (al α) p (t :: l) = _
            rw [fitL, c2.1, Bool.true_and]
          refine ih d (p + 1) (s ||| 2 ^ t) (pre ++ [t]) _ (xset ν 57 p (t : Int)) _ (by omega) (by rw [List.length_append, hlen]; rfl) (vX_fr (fX_fAp fx) hv) (vG_fAp fx hG) hs2 (by omega) (fun i hi => ?_) (vW_fr (xs_c (by decide)) (fun q => xs_c (by decide)) hW2) ?_ (fun μ' g1 g2 hW3 => ?_)
          · by_cases c3 : i = p
            · rw [c3, xs_s]
              have : (pre ++ [t]).getD p 0 = t := by rw [← hlen]; exact getD_e
              rw [this]
              exact ⟨rfl, htT⟩
            · rw [xs_j c3, getD_l (by omega), f2 i (by omega)]
              exact hl i (by omega)
          · have e1 := ex_go_cnt (fitL (al α) p) s (ex (α.1 0 1) n) (t + 1)
            have e2 := ex_go_cnt (fitL (al α) p) s (ex (α.1 0 1) n) (α.1 0 1)
            have e3 := sm_mono (f := fun t => if s.testBit t then 0 else (ex (α.1 0 1) n (s ||| 2 ^ t)).countP (fun l => fitL (al α) p (t :: l))) (show t + 1 ≤ α.1 0 1 by omega)
            have e4 : (ex_go s (ex (α.1 0 1) n) (α.1 0 1)).countP (fitL (al α) p) = tl (α.1 0 1) (al α) (n + 1) s := ecnt
            rw [ego, List.countP_append, c2.2, if_neg (by decide), List.countP_eq_length_filter (l := (ex (α.1 0 1) n (s ||| 2 ^ t)).map (List.cons t)), ef, List.length_map, ← List.countP_eq_length_filter] at e1
            have e5 := tl_cnt (al α) n (s ||| 2 ^ t) (show n ≤ α.1 0 1 by omega)
            rw [show α.1 0 1 - n = p + 1 by omega] at e5
            rw [List.length_append, List.length_map, ← List.countP_eq_length_filter]
            omega
          · refine gV_mk ?_
            refine ihm (t + 1) μ' (by omega) (fAp_t fx g1) (fun i hi => ?_) ?_
            · rw [g2 i (by omega), xs_j (by omega)]; exact f2 i hi
            · rw [ego, List.filter_append, List.map_append, c2.2, if_neg (by decide), ef, List.map_map, ← List.append_assoc]
              have e6 : (fun l => pre ++ l) ∘ List.cons t = fun l => (pre ++ [t]) ++ l := by
                funext l
                show pre ++ t :: l = pre ++ [t] ++ l
                rw [List.append_assoc]; rfl
              rw [e6]
              exact hW3
        · rw [sp_bit1 (by omega) (by omega), tb_andn (by omega), sp_bits_tb, decide_eq_true htT, Bool.true_and] at c2
          rw [iw_k1 (by omega)]
          refine ihm (t + 1) ν (by omega) f1 f2 ?_
          have e7 : ((if s.testBit t then [] else (ex (α.1 0 1) n (s ||| 2 ^ t)).map (List.cons t)) : List (List Nat)).filter (fitL (al α) p) = [] := by
            by_cases c3 : s.testBit t = true
            · rw [if_pos c3]; rfl
            · rw [if_neg c3, List.filter_map]
              have c4 : al α p t = false := by
                cases e : al α p t with
                | false => rfl
                | true => exact absurd (by rw [e, Bool.not_eq_true _ |>.mp c3]; rfl) c2
              have e8 : (ex (α.1 0 1) n (s ||| 2 ^ t)).filter (fitL (al α) p ∘ List.cons t) = [] := by
                rw [List.filter_eq_nil_iff]
                intro l _
                show ¬ fitL (al α) p (t :: l) = true
                rw [fitL, c4, Bool.false_and]
                decide
              rw [e8]; rfl
          rw [ego, List.filter_append, e7, List.append_nil]
          exact hW2
    refine key (α.1 0 1) 0 μ (by omega) (fAp_refl μ) (fun _ _ => rfl) ?_
    show vW μ α (G ++ [])
    rw [List.append_nil]
    exact hW
