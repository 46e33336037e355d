/-! the class: lines, the whole text -/
def cnX (μ : Mem) (s : St3) : Prop := μ 1 7 = ((s.1 : Nat) : Int) ∧ μ 1 8 = ((s.2.1 : Nat) : Int) ∧ μ 1 9 = ((s.2.2 : Nat) : Int)
set_option maxRecDepth 20000 in
theorem X_rnsW {d k w i P T : Nat} {μ : Mem} {α : Al} {K : Int → Mem → Prop} (hw : w < 11) (ht : tX μ α) (hi : i ≤ α.1 0 3) (h6 : μ 1 6 = (i : Int)) (hk : k < 14) (hP : P ≤ 5) (c7 : μ 1 7 = (P : Int)) (c8 : μ 1 8 = (T : Int)) (h0 : ∀ f, pns α (bnd w P T) i = .inl f → ∀ μ', fXN k μ μ' → μ' 1 5 = ((f : Nat) : Int) → K 0 μ') (h1 : ∀ x, pns α (bnd w P T) i = .inr x → ∀ μ', fXN k μ μ' → μ' 1 6 = ((x.2 : Nat) : Int) → (∀ j, j < x.1.length → μ' 15 (4 * k + j) = ((x.1.getD j 0 : Nat) : Int)) → K 1 μ') : if (w : Int) = 5 then GM (d + 5) 22 [xR 1, xI (k : Int), xR 111] μ (gI K) else if (w : Int) = 6 then GM (d + 5) 22 [xR 1, xI (k : Int), xR 112] μ (gI K) else if (w : Int) = 7 then GM (d + 5) 22 [xR 1, xI (k : Int), xR 113] μ (gI K) else if (w : Int) = 8 then GM (d + 5) 22 [xR 1, xI (k : Int), xR 112] μ (gI K) else if (w : Int) = 9 then GM (d + 5) 22 [xR 1, xI (k : Int), xR 114] μ (gI K) else if (w : Int) = 10 then GM (d + 5) 22 [xR 1, xI (k : Int), xR 115] μ (gI K) else GM (d + 5) 22 [xR 1, xI (k : Int), xR 116] μ (gI K) := by
  rcases (show w = 0 ∨ w = 1 ∨ w = 2 ∨ w = 3 ∨ w = 4 ∨ w = 5 ∨ w = 6 ∨ w = 7 ∨ w = 8 ∨ w = 9 ∨ w = 10 by omega) with e | e | e | e | e | e | e | e | e | e | e <;> subst e
  · rw [if_neg (by decide), if_neg (by decide), if_neg (by decide), if_neg (by decide), if_neg (by decide), if_neg (by decide)]
    exact X_rns_116 (d := d + 1) (P := P) (T := T) ht hi h6 hk hP c7 c8 (fun f ef μ' f' e5 => gI_mk (h0 f ef μ' f' e5)) (fun x ex μ' f' e6 er => gI_mk (h1 x ex μ' f' e6 er))
  · rw [if_neg (by decide), if_neg (by decide), if_neg (by decide), if_neg (by decide), if_neg (by decide), if_neg (by decide)]
    exact X_rns_116 (d := d + 1) (P := P) (T := T) ht hi h6 hk hP c7 c8 (fun f ef μ' f' e5 => gI_mk (h0 f ef μ' f' e5)) (fun x ex μ' f' e6 er => gI_mk (h1 x ex μ' f' e6 er))
  · rw [if_neg (by decide), if_neg (by decide), if_neg (by decide), if_neg (by decide), if_neg (by decide), if_neg (by decide)]
    exact X_rns_116 (d := d + 1) (P := P) (T := T) ht hi h6 hk hP c7 c8 (fun f ef μ' f' e5 => gI_mk (h0 f ef μ' f' e5)) (fun x ex μ' f' e6 er => gI_mk (h1 x ex μ' f' e6 er))
  · rw [if_neg (by decide), if_neg (by decide), if_neg (by decide), if_neg (by decide), if_neg (by decide), if_neg (by decide)]
    exact X_rns_116 (d := d + 1) (P := P) (T := T) ht hi h6 hk hP c7 c8 (fun f ef μ' f' e5 => gI_mk (h0 f ef μ' f' e5)) (fun x ex μ' f' e6 er => gI_mk (h1 x ex μ' f' e6 er))
  · rw [if_neg (by decide), if_neg (by decide), if_neg (by decide), if_neg (by decide), if_neg (by decide), if_neg (by decide)]
    exact X_rns_116 (d := d + 1) (P := P) (T := T) ht hi h6 hk hP c7 c8 (fun f ef μ' f' e5 => gI_mk (h0 f ef μ' f' e5)) (fun x ex μ' f' e6 er => gI_mk (h1 x ex μ' f' e6 er))
  · rw [if_pos (by decide)]
    exact X_rns_111 (d := d + 1) (P := P) (T := T) ht hi h6 hk hP c7 c8 (fun f ef μ' f' e5 => gI_mk (h0 f ef μ' f' e5)) (fun x ex μ' f' e6 er => gI_mk (h1 x ex μ' f' e6 er))
  · rw [if_neg (by decide), if_pos (by decide)]
    exact X_rns_112 (d := d + 1) (P := P) (T := T) ht hi h6 hk hP c7 c8 (fun f ef μ' f' e5 => gI_mk (h0 f ef μ' f' e5)) (fun x ex μ' f' e6 er => gI_mk (h1 x ex μ' f' e6 er))
  · rw [if_neg (by decide), if_neg (by decide), if_pos (by decide)]
    exact X_rns_113 (d := d + 1) (P := P) (T := T) ht hi h6 hk hP c7 c8 (fun f ef μ' f' e5 => gI_mk (h0 f ef μ' f' e5)) (fun x ex μ' f' e6 er => gI_mk (h1 x ex μ' f' e6 er))
  · rw [if_neg (by decide), if_neg (by decide), if_neg (by decide), if_pos (by decide)]
    exact X_rns_112 (d := d + 1) (P := P) (T := T) ht hi h6 hk hP c7 c8 (fun f ef μ' f' e5 => gI_mk (h0 f ef μ' f' e5)) (fun x ex μ' f' e6 er => gI_mk (h1 x ex μ' f' e6 er))
  · rw [if_neg (by decide), if_neg (by decide), if_neg (by decide), if_neg (by decide), if_pos (by decide)]
    exact X_rns_114 (d := d + 1) (P := P) (T := T) ht hi h6 hk hP c7 c8 (fun f ef μ' f' e5 => gI_mk (h0 f ef μ' f' e5)) (fun x ex μ' f' e6 er => gI_mk (h1 x ex μ' f' e6 er))
  · rw [if_neg (by decide), if_neg (by decide), if_neg (by decide), if_neg (by decide), if_neg (by decide), if_pos (by decide)]
    exact X_rns_115 (d := d + 1) (P := P) (T := T) ht hi h6 hk hP c7 c8 (fun f ef μ' f' e5 => gI_mk (h0 f ef μ' f' e5)) (fun x ex μ' f' e6 er => gI_mk (h1 x ex μ' f' e6 er))
set_option maxRecDepth 20000 in
theorem X_hasRoom_ok {d w : Nat} {s : St3} {μ : Mem} {Q : AV → Mem → Prop} (hw : w < 11) (hc : cnX μ s) (h : Q (xI (b01 (roomB w s))) μ) : GM (d + 1) 18 [xR 1, xI (w : Int)] μ Q := by
  obtain ⟨c7, c8, c9⟩ := hc
  refine ge_Text_hasRoom ?_
  rw [c7, c8, c9]
  rcases (show w = 0 ∨ w = 1 ∨ w = 2 ∨ w = 3 ∨ w = 4 ∨ w = 5 ∨ w = 6 ∨ w = 7 ∨ w = 8 ∨ w = 9 ∨ w = 10 by omega) with e | e | e | e | e | e | e | e | e | e | e <;> subst e
  · rw [if_pos (by decide), if_pos (by decide), if_neg (by decide)]
    exact h
  · rw [if_neg (by decide), if_neg (by decide)]
    refine wi (fun c => ?_) (fun c => ?_)
    · have e : roomB 1 s = true := decide_eq_true (show s.1 < 5 by omega)
      rw [e] at h; exact h
    · have e : roomB 1 s = false := decide_eq_false (show ¬ s.1 < 5 by omega)
      rw [e] at h; exact h
  · rw [if_neg (by decide), if_neg (by decide)]
    refine wi (fun c => ?_) (fun c => ?_)
    · have e : roomB 2 s = true := decide_eq_true (show s.1 < 5 by omega)
      rw [e] at h; exact h
    · have e : roomB 2 s = false := decide_eq_false (show ¬ s.1 < 5 by omega)
      rw [e] at h; exact h
  · rw [if_neg (by decide), if_neg (by decide)]
    refine wi (fun c => ?_) (fun c => ?_)
    · have e : roomB 3 s = true := decide_eq_true (show s.1 < 5 by omega)
      rw [e] at h; exact h
    · have e : roomB 3 s = false := decide_eq_false (show ¬ s.1 < 5 by omega)
      rw [e] at h; exact h
  · rw [if_neg (by decide), if_neg (by decide)]
    refine wi (fun c => ?_) (fun c => ?_)
    · have e : roomB 4 s = true := decide_eq_true (show s.1 < 5 by omega)
      rw [e] at h; exact h
    · have e : roomB 4 s = false := decide_eq_false (show ¬ s.1 < 5 by omega)
      rw [e] at h; exact h
  · rw [if_neg (by decide), if_pos (by decide), if_neg (by decide), if_neg (by decide)]
    refine wi (fun c => ?_) (fun c => ?_)
    · have e : roomB 5 s = true := decide_eq_true (show s.2.1 < 6 by omega)
      rw [e] at h; exact h
    · have e : roomB 5 s = false := decide_eq_false (show ¬ s.2.1 < 6 by omega)
      rw [e] at h; exact h
  · rw [if_neg (by decide), if_pos (by decide), if_neg (by decide), if_neg (by decide)]
    refine wi (fun c => ?_) (fun c => ?_)
    · have e : roomB 6 s = true := decide_eq_true (show s.2.1 < 6 by omega)
      rw [e] at h; exact h
    · have e : roomB 6 s = false := decide_eq_false (show ¬ s.2.1 < 6 by omega)
      rw [e] at h; exact h
  · rw [if_neg (by decide), if_pos (by decide), if_neg (by decide), if_neg (by decide)]
    refine wi (fun c => ?_) (fun c => ?_)
    · have e : roomB 7 s = true := decide_eq_true (show s.2.1 < 6 by omega)
      rw [e] at h; exact h
    · have e : roomB 7 s = false := decide_eq_false (show ¬ s.2.1 < 6 by omega)
      rw [e] at h; exact h
  · rw [if_neg (by decide), if_pos (by decide), if_neg (by decide), if_neg (by decide)]
    refine wi (fun c => ?_) (fun c => ?_)
    · have e : roomB 8 s = true := decide_eq_true (show s.2.1 < 6 by omega)
      rw [e] at h; exact h
    · have e : roomB 8 s = false := decide_eq_false (show ¬ s.2.1 < 6 by omega)
      rw [e] at h; exact h
  · rw [if_neg (by decide), if_pos (by decide), if_neg (by decide), if_pos (by decide), if_pos (by decide)]
    refine wi (fun c => ?_) (fun c => ?_)
    · have e : roomB 9 s = true := decide_eq_true (show s.2.2 < 6 by omega)
      rw [e] at h; exact h
    · have e : roomB 9 s = false := decide_eq_false (show ¬ s.2.2 < 6 by omega)
      rw [e] at h; exact h
  · rw [if_neg (by decide), if_pos (by decide), if_neg (by decide), if_pos (by decide), if_neg (by decide)]
    exact h
set_option maxRecDepth 20000 in
theorem X_grow_ok {d w : Nat} {s : St3} {μ : Mem} {Q : AV → Mem → Prop} (hw : w < 11) (b1 : s.1 ≤ 5) (b2 : s.2.1 ≤ 6) (b3 : s.2.2 ≤ 6) (hc : cnX μ s) (h : ∀ μ', (∀ c j, (c ≠ 1 ∨ (j < 7 ∨ 9 < j)) → μ' c j = μ c j) → cnX μ' (grw w s) → Q (xI 0) μ') : GM (d + 1) 25 [xR 1, xI (w : Int)] μ Q := by
  obtain ⟨c7, c8, c9⟩ := hc
  refine ge_Text_grow ?_
  rw [c7, c8, c9, iw_k1 (n := s.1) (by omega), iw_k1 (n := s.2.1) (by omega), iw_k1 (n := s.2.2) (by omega)]
  rcases (show w = 0 ∨ w = 1 ∨ w = 2 ∨ w = 3 ∨ w = 4 ∨ w = 5 ∨ w = 6 ∨ w = 7 ∨ w = 8 ∨ w = 9 ∨ w = 10 by omega) with e | e | e | e | e | e | e | e | e | e | e <;> subst e
  · rw [if_pos (by decide)]
    exact h _ (fun c j a => by rw [xs_if, if_neg (by omega), xs_if, if_neg (by omega), xs_if, if_neg (by omega)]) ⟨by rw [xs_j (by decide), xs_j (by decide), xs_s]; rfl, by rw [xs_j (by decide), xs_s]; rfl, by rw [xs_s]; rfl⟩
  · rw [if_neg (by decide), if_neg (by decide), if_neg (by decide)]
    exact h _ (fun c j a => by rw [xs_if, if_neg (by omega)]) ⟨xs_s, by rw [xs_j (by decide)]; exact c8, by rw [xs_j (by decide)]; exact c9⟩
  · rw [if_neg (by decide), if_neg (by decide), if_neg (by decide)]
    exact h _ (fun c j a => by rw [xs_if, if_neg (by omega)]) ⟨xs_s, by rw [xs_j (by decide)]; exact c8, by rw [xs_j (by decide)]; exact c9⟩
  · rw [if_neg (by decide), if_neg (by decide), if_neg (by decide)]
    exact h _ (fun c j a => by rw [xs_if, if_neg (by omega)]) ⟨xs_s, by rw [xs_j (by decide)]; exact c8, by rw [xs_j (by decide)]; exact c9⟩
  · rw [if_neg (by decide), if_neg (by decide), if_neg (by decide)]
    exact h _ (fun c j a => by rw [xs_if, if_neg (by omega)]) ⟨xs_s, by rw [xs_j (by decide)]; exact c8, by rw [xs_j (by decide)]; exact c9⟩
  · rw [if_neg (by decide), if_neg (by decide), if_pos (by decide), if_neg (by decide), if_neg (by decide)]
    exact h _ (fun c j a => by rw [xs_if, if_neg (by omega)]) ⟨by rw [xs_j (by decide)]; exact c7, xs_s, by rw [xs_j (by decide)]; exact c9⟩
  · rw [if_neg (by decide), if_neg (by decide), if_pos (by decide), if_neg (by decide), if_neg (by decide)]
    exact h _ (fun c j a => by rw [xs_if, if_neg (by omega)]) ⟨by rw [xs_j (by decide)]; exact c7, xs_s, by rw [xs_j (by decide)]; exact c9⟩
  · rw [if_neg (by decide), if_neg (by decide), if_pos (by decide), if_neg (by decide), if_neg (by decide)]
    exact h _ (fun c j a => by rw [xs_if, if_neg (by omega)]) ⟨by rw [xs_j (by decide)]; exact c7, xs_s, by rw [xs_j (by decide)]; exact c9⟩
  · rw [if_neg (by decide), if_neg (by decide), if_pos (by decide), if_neg (by decide), if_neg (by decide)]
    exact h _ (fun c j a => by rw [xs_if, if_neg (by omega)]) ⟨by rw [xs_j (by decide)]; exact c7, xs_s, by rw [xs_j (by decide)]; exact c9⟩
  · rw [if_neg (by decide), if_neg (by decide), if_pos (by decide), if_neg (by decide), if_pos (by decide), if_pos (by decide)]
    exact h _ (fun c j a => by rw [xs_if, if_neg (by omega)]) ⟨by rw [xs_j (by decide)]; exact c7, by rw [xs_j (by decide)]; exact c8, xs_s⟩
  · rw [if_neg (by decide), if_neg (by decide), if_pos (by decide), if_neg (by decide), if_pos (by decide), if_neg (by decide)]
    exact h _ (fun c j a => rfl) ⟨c7, c8, c9⟩
def lnX (μ : Mem) (k : Nat) (x : Nat × List Nat) : Prop := μ 14 k = ((x.1 : Nat) : Int) ∧ ∀ j, j < x.2.length → μ 15 (4 * k + j) = ((x.2.getD j 0 : Nat) : Int)
def lsX (μ : Mem) (ls : List (Nat × List Nat)) : Prop := ∀ k, k < ls.length → lnX μ k (ls.getD k (0, []))
def fXR (μ μ' : Mem) : Prop := ∀ c j, (c ≠ 1 ∨ (j < 4 ∨ 9 < j)) → c ≠ 14 → c ≠ 15 → μ' c j = μ c j
set_option maxRecDepth 20000 in
theorem X_read_st {d m i : Nat} {s : St3} {v1 v2 v3 v5 : AV} {acc : List (Nat × List Nat)} {μ ν : Mem} {α : Al} {Q : AV → Mem → Prop} (ht : tX μ α) (h0 : ∀ f μ', RD α = .inl f → fXR μ μ' → Q (xI ((f : Nat) : Int)) μ') (h1 : ∀ ls μ', RD α = .inr ls → fXR μ μ' → μ' 1 4 = ((ls.length : Nat) : Int) → lsX μ' ls → Q (xI (-1)) μ') (hm : acc.length + (m + 1) = 14) (hi : i ≤ α.1 0 3) (b1 : s.1 ≤ 5) (b2 : s.2.1 ≤ 6) (b3 : s.2.2 ≤ 6) (hR : RD α = rdg α (m + 1) s i acc) (hf : fXR μ ν) (h6 : ν 1 6 = (i : Int)) (hc : cnX ν s) (hls : lsX ν acc) (hl4 : ∀ k, k < acc.length → (acc.getD k (0, [])).2.length ≤ 4) (hn : ∀ (x : (Nat × List Nat) × Nat) (κ : Mem) (v5 : AV), okL s x.1 → x.2 ≤ α.1 0 3 → m ≠ 0 → RD α = rdg α m (grw x.1.1 s) (te α (bl α x.2)) (acc ++ [x.1]) → fXR μ κ → κ 1 6 = ((te α (bl α x.2) : Nat) : Int) → cnX κ (grw x.1.1 s) → lsX κ (acc ++ [x.1]) → DW (d + 6) 4 17 [xR 1, v1, v2, v3, xI ((acc.length + 1 : Nat) : Int), v5] κ Q) : DW (d + 6) 4 17 [xR 1, v1, v2, v3, xI ((acc.length : Nat) : Int), v5] ν Q := by
  have tν : tX ν α := tX_of (hf 1 1 (by decide) (by decide) (by decide)) (fun j => hf 13 j (Or.inl (by decide)) (by decide) (by decide)) ht
  have hb0 := bl_bd hi
  have ht0 := te_bd hb0.2
  refine sg_Text_read_17 ?_
  rw [if_pos (by omega)]
  refine X_step_ok tν hi h6 (fun m1 f1 e5 e6 => ?_)
  refine gV_mk ?_
  have g1 : fXR μ m1 := fun c j a1 a2 a3 => (f1 c j (by omega)).trans (hf c j a1 a2 a3)
  have c1 : cnX m1 s := ⟨(f1 1 7 (by decide)).trans hc.1, (f1 1 8 (by decide)).trans hc.2.1, (f1 1 9 (by decide)).trans hc.2.2⟩
  refine X_wordHere_ok ⟨tX_fS f1 tν, hb0.2, e5, e6⟩ ?_
  refine gI_mk ?_
  obtain ⟨w, ew⟩ : ∃ w, wx α (bl α i) = w := ⟨_, rfl⟩
  rw [ew]
  by_cases c11 : w < 11
  · rw [if_pos c11, if_neg (by omega)]
    refine X_hasRoom_ok c11 c1 ?_
    refine gI_mk ?_
    cases er : roomB w s with
    | false =>
      rw [show b01 false = 0 from rfl, if_pos rfl, e5]
      exact h0 _ m1 (by rw [hR]; exact rdg_f (pl_no ew er)) g1
    | true =>
      rw [show b01 true = 1 from rfl, if_neg (by decide), wb_eq (by omega) (by omega), Int.toNat_natCast, iw_k1 (n := acc.length) (by omega)]
      have tx1 : tX (xset m1 14 acc.length (w : Int)) α := tX_of (by rw [xs_c (by decide)]) (fun j => by rw [xs_c (by decide)]) (tX_fS f1 tν)
      refine X_rnsW (K := fun r m => if r = 0 then (Q (xI (m 1 5)) m) else (GM (d + 5) 25 [xR 1, xI (w : Int)] m (gV (fun m32 => GM (d + 5) 5 [xR 1] (xset m32 1 4 ((acc.length + 1 : Nat) : Int)) (gV (fun m33 => if m33 1 5 < m33 1 1 then (wb (m33 1 5) 160 (if m33 13 (m33 1 5).toNat = 59 then (DW (d + 6) 4 17 [xR 1, v1, v2, v3, xI ((acc.length + 1 : Nat) : Int), xI (w : Int)] m33 Q) else (Q (xI (m33 1 5)) m33))) else (Q (xI (-1)) m33))))))) (P := s.1) (T := s.2.1) c11 tx1 ht0.2 (by rw [xs_c (by decide)]; exact e6) (by omega) b1 (by rw [xs_c (by decide)]; exact c1.1) (by rw [xs_c (by decide)]; exact c1.2.1) (fun f ef μ' f' q5 => ?_) (fun y ey m2 f2 q6 qr => ?_)
      · show if (0 : Int) = 0 then _ else _
        rw [if_pos rfl, q5]
        refine h0 f μ' (by rw [hR]; exact rdg_f (pl_f ew c11 er ef)) (fun c j a1 a2 a3 => ?_)
        rw [f' c j (by omega) (Or.inl a3), xs_c a2]
        exact g1 c j a1 a2 a3
      · show if (1 : Int) = 0 then _ else _
        rw [if_neg (by decide)]
        have ex : pl α s i = .inr ((w, y.1), y.2) := pl_t ew c11 er ey
        obtain ⟨ok, hx2⟩ := pl_ok hi ex
        have ok : okL s (w, y.1) := ok
        have hx2 : y.2 ≤ α.1 0 3 := hx2
        have hx4 : y.1.length ≤ 4 := okL_len ok
        have hR2 := hR.trans (rdg_s ex)
        have c2 : cnX m2 s := ⟨by rw [f2 1 7 (by decide) (Or.inl (by decide)), xs_c (by decide)]; exact c1.1, by rw [f2 1 8 (by decide) (Or.inl (by decide)), xs_c (by decide)]; exact c1.2.1, by rw [f2 1 9 (by decide) (Or.inl (by decide)), xs_c (by decide)]; exact c1.2.2⟩
        refine X_grow_ok c11 b1 b2 b3 c2 (fun m3 f3 c3 => ?_)
        refine gV_mk ?_
        have tx4 : tX (xset m3 1 4 ((acc.length + 1 : Nat) : Int)) α := tX_of (by rw [xs_j (by decide), f3 1 1 (by decide), f2 1 1 (by decide) (Or.inl (by decide)), xs_c (by decide)]) (fun j => by rw [xs_c (by decide), f3 13 j (Or.inl (by decide)), f2 13 j (Or.inl (by decide)) (Or.inl (by decide)), xs_c (by decide)]) (tX_fS f1 tν)
        refine X_step_ok tx4 hx2 (by rw [xs_j (by decide), f3 1 6 (by decide)]; exact q6) (fun m4 f4 r5 r6 => ?_)
        refine gV_mk ?_
        have hb := bl_bd hx2
        have hte := te_bd hb.2
        have g4 : fXR μ m4 := fun c j a1 a2 a3 => by
          rw [f4 c j (by omega), xs_if, if_neg (by omega), f3 c j (by omega), f2 c j (by omega) (Or.inl a3), xs_c a2]
          exact g1 c j a1 a2 a3
        have t4 : tX m4 α := tX_fS f4 tx4
        have h160 := ht.2.2
        have el : (acc ++ [(w, y.1)]).length = acc.length + 1 := by rw [List.length_append]; rfl
        have i14 : ∀ q, m4 14 q = (xset m1 14 acc.length (w : Int)) 14 q := fun q => by rw [f4 14 q (Or.inl (by decide)), xs_c (by decide), f3 14 q (Or.inl (by decide)), f2 14 q (Or.inl (by decide)) (Or.inl (by decide))]
        have i15 : ∀ q, m4 15 q = m2 15 q := fun q => by rw [f4 15 q (Or.inl (by decide)), xs_c (by decide), f3 15 q (Or.inl (by decide))]
        have ils : lsX m4 (acc ++ [(w, y.1)]) := fun k hk => by
          rw [el] at hk
          by_cases c : k = acc.length
          · rw [c, getD_e]
            exact ⟨by rw [i14, xs_s], fun j hj => by rw [i15]; exact qr j hj⟩
          · rw [getD_l (by omega)]
            have hk4 := hl4 k (by omega)
            obtain ⟨l1, l2⟩ := hls k (by omega)
            refine ⟨by rw [i14, xs_j c, f1 14 k (Or.inl (by decide))]; exact l1, fun j hj => ?_⟩
            rw [i15, f2 15 _ (Or.inl (by decide)) (by omega), xs_c (by decide), f1 15 _ (Or.inl (by decide))]
            exact l2 j hj
        have i14' : m4 1 4 = ((acc.length + 1 : Nat) : Int) := by rw [f4 1 4 (by decide), xs_s]
        have c4 : cnX m4 (grw w s) := ⟨by rw [f4 1 7 (by decide), xs_j (by decide)]; exact c3.1, by rw [f4 1 8 (by decide), xs_j (by decide)]; exact c3.2.1, by rw [f4 1 9 (by decide), xs_j (by decide)]; exact c3.2.2⟩
        rw [r5, t4.1]
        refine wi (fun q1 => ?_) (fun q1 => ?_)
        · have q1' : bl α y.2 < α.1 0 3 := by omega
          rw [wb_eq (by omega) (by omega), Int.toNat_natCast, t4.2.1 _ q1']
          have hR3 := hR2
          rw [if_pos q1'] at hR3
          refine wi (fun q2 => ?_) (fun q2 => ?_)
          · rw [if_pos (show α.1 8 (bl α y.2) = 59 by omega)] at hR3
            by_cases m0 : m = 0
            · rw [if_pos m0] at hR3
              refine sg_Text_read_17 ?_
              rw [if_neg (by omega), r5]
              exact h0 _ m4 hR3 g4
            · rw [if_neg m0] at hR3
              exact hn ((w, y.1), y.2) m4 _ ok hx2 m0 hR3 g4 r6 c4 ils
          · rw [if_neg (show ¬ α.1 8 (bl α y.2) = 59 by omega)] at hR3
            exact h0 _ m4 hR3 g4
        · have hR3 := hR2
          rw [if_neg (show ¬ bl α y.2 < α.1 0 3 by omega)] at hR3
          exact h1 _ m4 hR3 g4 (by rw [i14', el]) ils
  · rw [if_neg c11, if_pos rfl, e5]
    exact h0 _ m1 (by rw [hR]; exact rdg_f (pl_11 (by omega))) g1
theorem X_read_go {d : Nat} {v1 v2 v3 : AV} {μ : Mem} {α : Al} {Q : AV → Mem → Prop} (ht : tX μ α) (h0 : ∀ f μ', RD α = .inl f → fXR μ μ' → Q (xI ((f : Nat) : Int)) μ') (h1 : ∀ ls μ', RD α = .inr ls → fXR μ μ' → μ' 1 4 = ((ls.length : Nat) : Int) → lsX μ' ls → Q (xI (-1)) μ') : ∀ (m i : Nat) (s : St3) (acc : List (Nat × List Nat)) (ν : Mem) (v5 : AV), acc.length + (m + 1) = 14 → i ≤ α.1 0 3 → s.1 ≤ 5 → s.2.1 ≤ 6 → s.2.2 ≤ 6 → RD α = rdg α (m + 1) s i acc → fXR μ ν → ν 1 6 = (i : Int) → cnX ν s → lsX ν acc → (∀ k, k < acc.length → (acc.getD k (0, [])).2.length ≤ 4) → DW (d + 6) 4 17 [xR 1, v1, v2, v3, xI ((acc.length : Nat) : Int), v5] ν Q := by
  intro m
  induction m with
  | zero =>
    intro i s acc ν v5 hm hi b1 b2 b3 hR hf h6 hc hls hl4
    exact X_read_st ht h0 h1 hm hi b1 b2 b3 hR hf h6 hc hls hl4 (fun x κ v5 _ _ q => absurd rfl q)
  | succ m ih =>
    intro i s acc ν v5 hm hi b1 b2 b3 hR hf h6 hc hls hl4
    refine X_read_st ht h0 h1 hm hi b1 b2 b3 hR hf h6 hc hls hl4 (fun x κ v5 ok hx2 _ hR' hf' h6' hc' hls' => ?_)
    have hb := bl_bd hx2
    have hte := te_bd hb.2
    have gb := grw_bd ok.2.1 b1 b2 b3
    have el : (acc ++ [x.1]).length = acc.length + 1 := by rw [List.length_append]; rfl
    have ihh := ih _ _ (acc ++ [x.1]) κ v5 (by omega) hte.2 gb.1 gb.2.1 gb.2.2 hR' hf' h6' hc' hls' (fun k hk => by
      rw [el] at hk
      by_cases c : k = acc.length
      · rw [c, getD_e]; exact okL_len ok
      · rw [getD_l (by omega)]; exact hl4 k (by omega))
    rw [el] at ihh
    exact ihh
theorem tX_vX {μ : Mem} {α : Al} (hv : vX μ α) (hw : wf α) : tX μ α := ⟨vX_B hv, vX_text hv, wf_B hw⟩
theorem X_read_ok {d : Nat} {μ : Mem} {α : Al} {Q : AV → Mem → Prop} (hv : vX μ α) (hw : wf α) (h0 : ∀ f μ', RD α = .inl f → fXR μ μ' → Q (xI ((f : Nat) : Int)) μ') (h1 : ∀ ls μ', RD α = .inr ls → fXR μ μ' → μ' 1 4 = ((ls.length : Nat) : Int) → lsX μ' ls → Q (xI (-1)) μ') : GM (d + 6) 4 [xR 1, xI (μ 2 0), xI (μ 2 1), xI (μ 2 2)] μ Q := by
  refine ge_Text_read ?_
  refine X_read_go (tX_vX hv hw) h0 h1 13 0 (α.1 0 0, α.1 0 1, α.1 0 2) [] _ _ rfl (Nat.zero_le _) (wf_P hw) (wf_T hw) (wf_N hw) rfl (fun c j a1 a2 a3 => ?_) xs_s ⟨?_, ?_, ?_⟩ (fun k hk => absurd hk (Nat.not_lt_zero k)) (fun k hk => absurd hk (Nat.not_lt_zero k))
  · rw [xs_if, if_neg (by omega), xs_if, if_neg (by omega), xs_if, if_neg (by omega), xs_if, if_neg (by omega), xs_if, if_neg (by omega)]
  · rw [xs_j (by decide), xs_j (by decide), xs_j (by decide), xs_j (by decide), xs_s]; exact vX_P hv
  · rw [xs_j (by decide), xs_j (by decide), xs_j (by decide), xs_s]; exact vX_T hv
  · rw [xs_j (by decide), xs_j (by decide), xs_s]; exact vX_N hv
theorem fX_fXR {μ μ' : Mem} (h : fXR μ μ') : fX μ μ' := ⟨⟨h 0 4 (by decide) (by decide) (by decide), h 1 1 (by decide) (by decide) (by decide)⟩, fun c j q => by
  have q2 : c ≠ 1 ∧ c ≠ 14 ∧ c ≠ 15 := by
    rw [Bool.or_eq_true, Bool.and_eq_true, Nat.ble_eq, Nat.ble_eq] at q
    rcases q with q | q
    · simp only [Bool.or_eq_true, beq_iff_eq] at q
      omega
    · omega
  exact h c j (Or.inl q2.1) q2.2.1 q2.2.2⟩
theorem X_fault_ok {d : Nat} {μ : Mem} {α : Al} {Q : AV → Mem → Prop} (hv : vX μ α) (hw : wf α) (h : ∀ μ', fXR μ μ' → Q (xI (r_fault α)) μ') : GM (d + 7) 3 [xR 0] μ Q := by
  refine ge_X_fault ?_
  refine X_read_ok hv hw (fun f μ' e f' => ?_) (fun ls μ' e f' _ _ => ?_)
  · refine gI_mk ?_
    rw [← r_fault_l e]
    exact h μ' f'
  · refine gI_mk ?_
    rw [← r_fault_r e]
    exact h μ' f'
