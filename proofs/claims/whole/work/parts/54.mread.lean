/-! the reference: lines, the whole text -/
theorem cw {α : Al} {f w : Nat} {x : Int} (hw : w < 11) (e10 : x = tv α f) (h : x = ((WC w : Nat) : Int)) : wx α f = w := wx_is hw ((tv_sp hw).1 (e10.symm.trans h))
theorem cw_n {α : Al} {f w : Nat} {x : Int} (hw : w < 11) (e10 : x = tv α f) (h : x ≠ ((WC w : Nat) : Int)) : spB α f w = false := by
  cases e : spB α f w with
  | false => rfl
  | true => exact absurd (e10.trans ((tv_sp hw).2 e)) h
def cdM (α : Al) (f : Nat) : Int := if wx α f < 11 then ((wm (wx α f) : Nat) : Int) else -1
theorem cdM_w {α : Al} {f w : Nat} (hw : w < 11) (h : wx α f = w) : cdM α f = ((wm w : Nat) : Int) := by unfold cdM; rw [h, if_pos hw]
set_option maxRecDepth 20000 in
theorem M_code {d f p : Nat} {m1 : Mem} {α : Al} {Q : AV → Mem → Prop} (hp : p < 70) (e10 : m1 61 10 = tv α f) (h : ∀ v2 v3, DW (d + 4) 131 95 [xR 61, xI (p : Int), v2, v3] (xset m1 66 p (cdM α f)) Q) : if xcmp (m1 61 10) 4137608 = 0 then (DW (d + 4) 131 46 [xR 61, xI (p : Int), xI 0, xL 0] m1 Q) else (if xcmp (m1 61 10) 8935714008 = 0 then (DW (d + 4) 131 46 [xR 61, xI (p : Int), xI 1, xL 0] m1 Q) else (if xcmp (m1 61 10) 175122720 = 0 then (DW (d + 4) 131 46 [xR 61, xI (p : Int), xI 2, xL 0] m1 Q) else (if xcmp (m1 61 10) 168932 = 0 then (DW (d + 4) 131 46 [xR 61, xI (p : Int), xI 3, xL 0] m1 Q) else (if xcmp (m1 61 10) 94377 = 0 then (DW (d + 4) 131 46 [xR 61, xI (p : Int), xI 4, xL 0] m1 Q) else (if xcmp (m1 61 10) 407354 = 0 then (DW (d + 4) 131 46 [xR 61, xI (p : Int), xI 5, xL 0] m1 Q) else (DW (d + 4) 131 46 [xR 61, xI (p : Int), xI (-1), xL 0] m1 Q)))))) := by
  have ka : ∀ (a : Nat) (b : Int), (a : Int) = cdM α f → DW (d + 4) 131 84 [xR 61, xI (p : Int), xI (a : Int), xI b] m1 Q := by
    intro a b e
    refine sg_M_isLine_84 ?_
    rw [if_neg (by omega), wb_eq (by omega) (by omega), Int.toNat_natCast, e]
    exact h _ _
  have kb : ∀ (b : Int), b = cdM α f → DW (d + 4) 131 84 [xR 61, xI (p : Int), xI (-1), xI b] m1 Q := by
    intro b e
    refine sg_M_isLine_84 ?_
    rw [if_pos rfl, wb_eq (by omega) (by omega), Int.toNat_natCast, e]
    exact h _ _
  have k46 : ∀ (a w : Nat) (v3 : AV), w < 11 → wm w = a → wx α f = w → DW (d + 4) 131 46 [xR 61, xI (p : Int), xI (a : Int), v3] m1 Q := by
    intro a w v3 hw ea ew
    have e : (a : Int) = cdM α f := by rw [cdM_w hw ew, ea]
    refine sg_M_isLine_46 ?_
    refine wi (fun _ => ka a _ e) (fun _ => wi (fun _ => ka a _ e) (fun _ => wi (fun _ => ka a _ e) (fun _ => wi (fun _ => ka a _ e) (fun _ => wi (fun _ => ka a _ e) (fun _ => ka a _ e)))))
  refine wi (fun c => ?_) (fun c1 => ?_)
  · exact k46 0 1 _ (by decide) rfl (cw (by decide) e10 (xcmp_e c))
  refine wi (fun c => ?_) (fun c2 => ?_)
  · exact k46 1 2 _ (by decide) rfl (cw (by decide) e10 (xcmp_e c))
  refine wi (fun c => ?_) (fun c3 => ?_)
  · exact k46 2 3 _ (by decide) rfl (cw (by decide) e10 (xcmp_e c))
  refine wi (fun c => ?_) (fun c4 => ?_)
  · exact k46 3 4 _ (by decide) rfl (cw (by decide) e10 (xcmp_e c))
  refine wi (fun c => ?_) (fun c5 => ?_)
  · exact k46 4 5 _ (by decide) rfl (cw (by decide) e10 (xcmp_e c))
  refine wi (fun c => ?_) (fun c6 => ?_)
  · exact k46 5 6 _ (by decide) rfl (cw (by decide) e10 (xcmp_e c))
  have hb : ∀ (b w : Nat), w < 11 → wm w = b → wx α f = w → DW (d + 4) 131 84 [xR 61, xI (p : Int), xI (-1), xI (b : Int)] m1 Q := fun b w hw eb ew => kb b (by rw [cdM_w hw ew, eb])
  refine sg_M_isLine_46 ?_
  refine wi (fun c => ?_) (fun c7 => ?_)
  · exact hb 6 7 (by decide) rfl (cw (by decide) e10 (xcmp_e c))
  refine wi (fun c => ?_) (fun c8 => ?_)
  · exact hb 7 8 (by decide) rfl (cw (by decide) e10 (xcmp_e c))
  refine wi (fun c => ?_) (fun c0 => ?_)
  · exact hb 8 0 (by decide) rfl (cw (by decide) e10 (xcmp_e c))
  refine wi (fun c => ?_) (fun c9 => ?_)
  · exact hb 9 9 (by decide) rfl (cw (by decide) e10 (xcmp_e c))
  refine wi (fun c => ?_) (fun c10 => ?_)
  · exact hb 10 10 (by decide) rfl (cw (by decide) e10 (xcmp_e c))
  refine kb (-1) ?_
  have e : wx α f = 11 := wx_no (fun w hw => by
    rcases (show w = 0 ∨ w = 1 ∨ w = 2 ∨ w = 3 ∨ w = 4 ∨ w = 5 ∨ w = 6 ∨ w = 7 ∨ w = 8 ∨ w = 9 ∨ w = 10 by omega) with e | e | e | e | e | e | e | e | e | e | e <;> subst e
    · exact cw_n (by decide) e10 (xcmp_n c0)
    · exact cw_n (by decide) e10 (xcmp_n c1)
    · exact cw_n (by decide) e10 (xcmp_n c2)
    · exact cw_n (by decide) e10 (xcmp_n c3)
    · exact cw_n (by decide) e10 (xcmp_n c4)
    · exact cw_n (by decide) e10 (xcmp_n c5)
    · exact cw_n (by decide) e10 (xcmp_n c6)
    · exact cw_n (by decide) e10 (xcmp_n c7)
    · exact cw_n (by decide) e10 (xcmp_n c8)
    · exact cw_n (by decide) e10 (xcmp_n c9)
    · exact cw_n (by decide) e10 (xcmp_n c10))
  unfold cdM
  rw [e, if_neg (by decide)]
theorem wx_le (α : Al) (f : Nat) : wx α f ≤ 11 := by
  have : ∀ k w, wxg α f k w ≤ w + k := by
    intro k
    induction k with
    | zero => intro w; exact Nat.le_refl _
    | succ k ih =>
      intro w
      rw [wxg]
      have := ih (w + 1)
      split <;> omega
  exact this 11 0
theorem pl_11 {α : Al} {s : St3} {i : Nat} (h : ¬ wx α (bl α i) < 11) : pl α s i = .inl (bl α i) := by unfold pl; rw [if_neg h]
theorem pl_no {α : Al} {s : St3} {i w : Nat} (e : wx α (bl α i) = w) (h : roomB w s = false) : pl α s i = .inl (bl α i) := by
  unfold pl
  rw [e, h]
  split <;> rfl
theorem pl_f {α : Al} {s : St3} {i w f : Nat} (e : wx α (bl α i) = w) (hw : w < 11) (h : roomB w s = true) (hp : pns α (bnd w s.1 s.2.1) (te α (bl α i)) = .inl f) : pl α s i = .inl f := by
  unfold pl
  rw [e, if_pos hw, h, if_pos rfl, hp]
theorem pl_t {α : Al} {s : St3} {i w : Nat} {x : List Nat × Nat} (e : wx α (bl α i) = w) (hw : w < 11) (h : roomB w s = true) (hp : pns α (bnd w s.1 s.2.1) (te α (bl α i)) = .inr x) : pl α s i = .inr ((w, x.1), x.2) := by
  unfold pl
  rw [e, if_pos hw, h, if_pos rfl, hp]
theorem lnM_0 {μ : Mem} {k w : Nat} (h : μ 66 (5 * k) = ((wm w : Nat) : Int)) (hw : ¬ (5 ≤ w ∧ w ≤ 8)) : lnM μ k (w, []) := ⟨h, fun j hj => by rw [if_neg hw] at hj; exact absurd hj (Nat.not_lt_zero j)⟩
set_option maxRecDepth 20000 in
theorem M_isLine_ok {d k i P T N : Nat} {μ : Mem} {α : Al} {Q : AV → Mem → Prop} (ht : tM μ α) (hi : i ≤ α.1 0 3) (h8 : μ 61 8 = (i : Int)) (hk : k < 14) (hP : P ≤ 5) (hT : T ≤ 6) (hN : N ≤ 6) (hc : cnM μ (P, T, N)) (h0 : ∀ f, pl α (P, T, N) i = .inl f → ∀ μ', fL5 (5 * k) μ μ' → μ' 61 13 = ((f : Nat) : Int) → Q (xI 0) μ') (h1 : ∀ x, pl α (P, T, N) i = .inr x → ∀ μ', fL5 (5 * k) μ μ' → μ' 61 8 = ((x.2 : Nat) : Int) → cnM μ' (grw x.1.1 (P, T, N)) → lnM μ' k x.1 → Q (xI 1) μ') : GM (d + 4) 131 [xR 61, xI ((5 * k : Nat) : Int)] μ Q := by
  have hb := bl_bd hi
  have hte := te_bd hb.2
  refine ge_M_isLine ?_
  refine M_next_tok ht hi h8 (fun m1 f1 e8 e9 e10 _ => ?_)
  refine gV_mk ?_
  refine M_code (p := 5 * k) (by omega) e10 (fun v2 v3 => ?_)
  generalize hν : xset m1 66 (5 * k) (cdM α (bl α i)) = ν
  have fν : fL5 (5 * k) μ ν := fun c j a1 a2 => by rw [← hν, xs_if, if_neg (by omega)]; exact f1 c j (by omega)
  have cν : cnM ν (P, T, N) := ⟨by rw [← hν, xs_c (by decide), f1 61 15 (by decide)]; exact hc.1, by rw [← hν, xs_c (by decide), f1 61 16 (by decide)]; exact hc.2.1, by rw [← hν, xs_c (by decide), f1 61 17 (by decide)]; exact hc.2.2⟩
  have g8 : ν 61 8 = ((te α (bl α i) : Nat) : Int) := by rw [← hν, xs_c (by decide)]; exact e8
  have g9 : ν 61 9 = ((bl α i : Nat) : Int) := by rw [← hν, xs_c (by decide)]; exact e9
  have g66 : ν 66 (5 * k) = cdM α (bl α i) := by rw [← hν, xs_s]
  have tν := tM_fL5 fν ht
  have c15 : ν 61 15 = (P : Int) := cν.1
  have c16 : ν 61 16 = (T : Int) := cν.2.1
  have c17 : ν 61 17 = (N : Int) := cν.2.2
  have fail : pl α (P, T, N) i = .inl (bl α i) → Q (xI 0) (xset ν 61 13 (ν 61 9)) := fun e => h0 _ e _ (fun c j a1 a2 => by rw [xs_if, if_neg (by omega)]; exact fν c j a1 a2) (by rw [xs_s]; exact g9)
  have person : ∀ w, 1 ≤ w → w ≤ 4 → wx α (bl α i) = w → GM (d + 3) 133 [xR 61] ν (gI (fun r m => wb r 2 (Q (xI r) m))) := by
    intro w w1 w4 ew
    have eg : ν 66 (5 * k) = ((wm w : Nat) : Int) := by rw [g66]; exact cdM_w (by omega) ew
    have er : roomB w (P, T, N) = decide (P < 5) := by unfold roomB; rw [if_neg (by omega), if_pos (by omega)]
    have eb : bnd w P T = [] := by rcases (show w = 1 ∨ w = 2 ∨ w = 3 ∨ w = 4 by omega) with e | e | e | e <;> subst e <;> rfl
    refine ge_M_isPersonLine ?_
    rw [c15, iw_k1 (by omega)]
    refine wi (fun c => ?_) (fun c => ?_)
    · refine gI_mk ?_
      rw [wb_eq (by decide) (by decide)]
      exact fail (pl_no ew (by rw [er, decide_eq_false (by omega)]))
    · refine gI_mk ?_
      rw [wb_eq (by decide) (by decide)]
      refine h1 ((w, []), te α (bl α i)) (pl_t ew (by omega) (by rw [er, decide_eq_true (by omega)]) (by rw [eb]; rfl)) _ (fun c j a1 a2 => by rw [xs_if, if_neg (by omega)]; exact fν c j a1 a2) (by rw [xs_j (by decide)]; exact g8) ?_ (lnM_0 (by rw [xs_c (by decide)]; exact eg) (by omega))
      have eq : grw w (P, T, N) = (P + 1, T, N) := by unfold grw; rw [if_neg (by omega), if_pos (by omega)]
      show cnM _ (grw w (P, T, N))
      rw [eq]
      exact ⟨xs_s, by rw [xs_j (by decide)]; exact c16, by rw [xs_j (by decide)]; exact c17⟩
  have thing : ∀ w, 5 ≤ w → w ≤ 8 → wx α (bl α i) = w → GM (d + 3) 135 [xR 61, xI ((5 * k : Nat) : Int)] ν (gI (fun r m => wb r 2 (Q (xI r) m))) := by
    intro w w5 w8 ew
    have em : wm w = w - 1 := by rcases (show w = 5 ∨ w = 6 ∨ w = 7 ∨ w = 8 by omega) with e | e | e | e <;> subst e <;> rfl
    have eg : ν 66 (5 * k) = ((w - 1 : Nat) : Int) := by rw [g66, cdM_w (by omega) ew, em]
    have er : roomB w (P, T, N) = decide (T < 6) := by unfold roomB; rw [if_neg (by omega), if_neg (by omega), if_pos (by omega)]
    refine M_isThing_ok tν hte.2 g8 hk w5 w8 hP hT cν eg (fun e6 μ' f' e13 => ?_) (fun e6 f ef μ' f' e13 => ?_) (fun e6 x ex μ' f' q8 qc q66 q4 => ?_)
    · refine gI_mk ?_
      rw [wb_eq (by decide) (by decide)]
      refine h0 _ (pl_no ew (by rw [er, decide_eq_false (by omega)])) μ' (fun c j a1 a2 => (f' c j a1 a2).trans (fν c j a1 a2)) (by rw [e13]; exact g9)
    · refine gI_mk ?_
      rw [wb_eq (by decide) (by decide)]
      exact h0 _ (pl_f ew (by omega) (by rw [er, decide_eq_true e6]) ef) μ' (fun c j a1 a2 => (f' c j a1 a2).trans (fν c j a1 a2)) e13
    · refine gI_mk ?_
      rw [wb_eq (by decide) (by decide)]
      refine h1 _ (pl_t ew (by omega) (by rw [er, decide_eq_true e6]) ex) μ' (fun c j a1 a2 => (f' c j a1 a2).trans (fν c j a1 a2)) q8 ?_ ⟨by rw [q66, em], fun j hj => ?_⟩
      · have eq : grw w (P, T, N) = (P, T + 1, N) := by unfold grw; rw [if_neg (by omega), if_neg (by omega), if_pos (by omega)]
        show cnM _ (grw w (P, T, N))
        rw [eq]
        exact qc
      · rw [if_pos ⟨w5, w8⟩] at hj
        exact q4 j hj
  refine sg_M_isLine_95 ?_
  rw [wb_eq (by omega) (by omega), Int.toNat_natCast, g66, iw_k1 (n := 5 * k) (by omega), iw_k2 (n := 5 * k) (by omega)]
  have hle := wx_le α (bl α i)
  rcases (show wx α (bl α i) = 0 ∨ wx α (bl α i) = 1 ∨ wx α (bl α i) = 2 ∨ wx α (bl α i) = 3 ∨ wx α (bl α i) = 4 ∨ wx α (bl α i) = 5 ∨ wx α (bl α i) = 6 ∨ wx α (bl α i) = 7 ∨ wx α (bl α i) = 8 ∨ wx α (bl α i) = 9 ∨ wx α (bl α i) = 10 ∨ wx α (bl α i) = 11 by omega) with ew | ew | ew | ew | ew | ew | ew | ew | ew | ew | ew | ew
  · rw [cdM_w (w := 0) (by decide) ew, show ((wm 0 : Nat) : Int) = 8 from rfl, if_neg (by decide), if_neg (by decide), if_neg (by decide), if_neg (by decide), if_neg (by decide), if_neg (by decide), if_neg (by decide), if_neg (by decide), if_pos rfl]
    refine h1 ((0, []), te α (bl α i)) (pl_t ew (by decide) rfl rfl) _ (fun c j a1 a2 => by rw [xs_if, if_neg (by omega), xs_if, if_neg (by omega), xs_if, if_neg (by omega)]; exact fν c j a1 a2) (by rw [xs_j (by decide), xs_j (by decide), xs_j (by decide)]; exact g8) ?_ (lnM_0 (by rw [xs_c (by decide), xs_c (by decide), xs_c (by decide), g66]; exact cdM_w (by decide) ew) (by decide))
    exact ⟨by rw [xs_j (by decide), xs_j (by decide), xs_s]; rfl, by rw [xs_j (by decide), xs_s]; rfl, by rw [xs_s]; rfl⟩
  · rw [cdM_w (w := 1) (by decide) ew, show ((wm 1 : Nat) : Int) = 0 from rfl, if_pos rfl]
    exact person 1 (by decide) (by decide) ew
  · rw [cdM_w (w := 2) (by decide) ew, show ((wm 2 : Nat) : Int) = 1 from rfl, if_neg (by decide), if_pos rfl]
    exact person 2 (by decide) (by decide) ew
  · rw [cdM_w (w := 3) (by decide) ew, show ((wm 3 : Nat) : Int) = 2 from rfl, if_neg (by decide), if_neg (by decide), if_pos rfl]
    exact person 3 (by decide) (by decide) ew
  · rw [cdM_w (w := 4) (by decide) ew, show ((wm 4 : Nat) : Int) = 3 from rfl, if_neg (by decide), if_neg (by decide), if_neg (by decide), if_pos rfl]
    exact person 4 (by decide) (by decide) ew
  · rw [cdM_w (w := 5) (by decide) ew, show ((wm 5 : Nat) : Int) = 4 from rfl, if_neg (by decide), if_neg (by decide), if_neg (by decide), if_neg (by decide), if_pos rfl]
    exact thing 5 (by decide) (by decide) ew
  · rw [cdM_w (w := 6) (by decide) ew, show ((wm 6 : Nat) : Int) = 5 from rfl, if_neg (by decide), if_neg (by decide), if_neg (by decide), if_neg (by decide), if_neg (by decide), if_pos rfl]
    exact thing 6 (by decide) (by decide) ew
  · rw [cdM_w (w := 7) (by decide) ew, show ((wm 7 : Nat) : Int) = 6 from rfl, if_neg (by decide), if_neg (by decide), if_neg (by decide), if_neg (by decide), if_neg (by decide), if_neg (by decide), if_pos rfl]
    exact thing 7 (by decide) (by decide) ew
  · rw [cdM_w (w := 8) (by decide) ew, show ((wm 8 : Nat) : Int) = 7 from rfl, if_neg (by decide), if_neg (by decide), if_neg (by decide), if_neg (by decide), if_neg (by decide), if_neg (by decide), if_neg (by decide), if_pos rfl]
    exact thing 8 (by decide) (by decide) ew
  · rw [cdM_w (w := 9) (by decide) ew, show ((wm 9 : Nat) : Int) = 9 from rfl, if_neg (by decide), if_neg (by decide), if_neg (by decide), if_neg (by decide), if_neg (by decide), if_neg (by decide), if_neg (by decide), if_neg (by decide), if_neg (by decide), if_pos rfl]
    refine ge_M_isNightLine ?_
    have h32 : 2 ^ P ≤ 32 := Nat.pow_le_pow_right (n := 2) (j := 5) (by decide) hP
    have er : roomB 9 (P, T, N) = decide (N < 6) := rfl
    rw [c17, c15, iw_k1 (n := N) (by omega), iw_k1 (n := 5 * k) (by omega)]
    refine wi (fun c => ?_) (fun c => ?_)
    · refine gI_mk ?_
      rw [wb_eq (by decide) (by decide)]
      exact fail (pl_no ew (by rw [er, decide_eq_false (by omega)]))
    have er' : roomB 9 (P, T, N) = true := by rw [er, decide_eq_true (by omega)]
    have fx : fL5 (5 * k) μ (xset ν 61 17 ((N + 1 : Nat) : Int)) := fun c j a1 a2 => by rw [xs_if, if_neg (by omega)]; exact fν c j a1 a2
    refine M_isNumber_ok (w := 5 * k + 1) (b := 2 ^ P) (tM_fL5 fx ht) hte.2 (by rw [xs_j (by decide)]; exact g8) rfl (by omega) (by rw [sp_one (by omega), iw_m1 (by omega)]) (fun q m2 f2 e13 => ?_) (fun q m2 f2 e82 e66 => ?_)
    · refine gI_mk ?_
      rw [wb_eq (by decide) (by decide)]
      refine gI_mk ?_
      rw [wb_eq (by decide) (by decide)]
      exact h0 _ (pl_f ew (by decide) er' (by show pns α [2 ^ P] _ = _; rw [pns, q]; rfl)) m2 (fL5_N fx f2 (by omega) (by omega)) e13
    · refine gI_mk ?_
      rw [wb_eq (by decide) (by decide)]
      refine gI_mk ?_
      rw [wb_eq (by decide) (by decide)]
      refine h1 _ (pl_t ew (by decide) er' (by show pns α [2 ^ P] _ = _; rw [pns, q]; rfl)) m2 (fL5_N fx f2 (by omega) (by omega)) e82 ?_ ⟨?_, fun j hj => ?_⟩
      · exact ⟨by rw [f2 61 15 (by decide) (Or.inl (by decide)), xs_j (by decide)]; exact c15, by rw [f2 61 16 (by decide) (Or.inl (by decide)), xs_j (by decide)]; exact c16, by rw [f2 61 17 (by decide) (Or.inl (by decide)), xs_s]; rfl⟩
      · rw [f2 66 _ (by omega) (by omega), xs_c (by decide), g66]; exact cdM_w (w := 9) (by decide) ew
      · have hj' : j < 1 := hj
        rw [show j = 0 by omega]
        exact e66
  · rw [cdM_w (w := 10) (by decide) ew, show ((wm 10 : Nat) : Int) = 10 from rfl, if_neg (by decide), if_neg (by decide), if_neg (by decide), if_neg (by decide), if_neg (by decide), if_neg (by decide), if_neg (by decide), if_neg (by decide), if_neg (by decide), if_neg (by decide), if_pos rfl]
    have er' : roomB 10 (P, T, N) = true := rfl
    refine M_isNumber_ok (w := 5 * k + 1) (b := T) tν hte.2 g8 rfl (by omega) (by rw [c16, iw_id (by omega) (by omega)]) (fun q m2 f2 e13 => ?_) (fun q m2 f2 e82 e66 => ?_)
    · refine gI_mk ?_
      rw [if_pos rfl]
      exact h0 _ (pl_f ew (by decide) er' (by show pns α [T, 10] _ = _; rw [pns, q]; rfl)) m2 (fL5_N fν f2 (by omega) (by omega)) e13
    · refine gI_mk ?_
      rw [if_neg (by decide)]
      have hb2 := bl_bd hte.2
      have ht2 := te_bd hb2.2
      have f2' := fL5_N fν f2 (by omega) (by omega)
      refine M_isNumber_ok (w := 5 * k + 2) (b := 10) (tM_fL5 f2' ht) ht2.2 e82 rfl (by omega) (by decide) (fun q2 m3 f3 e13 => ?_) (fun q2 m3 f3 e83 e663 => ?_)
      · refine gI_mk ?_
        rw [if_pos rfl]
        exact h0 _ (pl_f ew (by decide) er' (by show pns α [T, 10] _ = _; rw [pns, q, if_pos rfl, pns, q2]; rfl)) m3 (fL5_N f2' f3 (by omega) (by omega)) e13
      · refine gI_mk ?_
        rw [if_neg (by decide)]
        refine h1 _ (pl_t ew (by decide) er' (by show pns α [T, 10] _ = _; rw [pns, q, if_pos rfl, pns, q2]; rfl)) m3 (fL5_N f2' f3 (by omega) (by omega)) e83 ?_ ⟨?_, fun j hj => ?_⟩
        · exact cnM_N f3 (cnM_N f2 cν)
        · rw [f3 66 _ (by omega) (by omega), f2 66 _ (by omega) (by omega), g66]; exact cdM_w (w := 10) (by decide) ew
        · have hj' : j < 2 := hj
          rcases (show j = 0 ∨ j = 1 by omega) with e | e <;> subst e
          · rw [f3 66 _ (by omega) (by omega)]; exact e66
          · exact e663
  · have e11 : cdM α (bl α i) = -1 := by unfold cdM; rw [ew, if_neg (by decide)]
    rw [e11, if_neg (by decide), if_neg (by decide), if_neg (by decide), if_neg (by decide), if_neg (by decide), if_neg (by decide), if_neg (by decide), if_neg (by decide), if_neg (by decide), if_neg (by decide), if_neg (by decide)]
    exact fail (pl_11 (by omega))
