theorem ax_cd_out {c : Nat} (h : 75 ≤ c) : ax_cd c = (9, 0, []) := by
  unfold ax_cd
  rw [List.getD_eq_getElem?_getD, List.getElem?_eq_none (by have : ax_cdL.length = 75 := by decide +kernel
                                                            omega)]
  rfl
/-- what the table of cells is known for -/
def ax_cdok (c : Nat) : Bool := match ax_cd c with
  | (0, ci, ks) => match ax_cl[ci]? with
    | some q => (List.range ks.length).all (fun j => match ks[j]? with
      | some 0 => decide ((q.2.1 j).2.2.1 = "I")
      | some 1 => decide ((q.2.1 j).2.2.1 = "J")
      | some (g + 2) => Nat.blt g 75
      | none => true)
    | none => false
  | (3, n, ks) => Nat.beq n ks.length && ks.all (fun g => Nat.blt g 75) && Nat.blt n 2147483648
  | (_, n, _) => Nat.blt n 2147483648
theorem ax_cdokA : (List.range 75).all ax_cdok = true := by decide +kernel
theorem ax_cdokE (c : Nat) : ax_cdok c = true := by
  rcases Nat.lt_or_ge c 75 with h | h
  · exact List.all_eq_true.mp ax_cdokA c (List.mem_range.mpr h)
  · unfold ax_cdok; rw [ax_cd_out h]; rfl
theorem ax_kd {r ci j kd : Nat} {ks : List Nat} {q : vw_C} (h : ax_cd r = (0, ci, ks)) (hq : ax_cl[ci]? = some q) (hk : ks[j]? = some kd) : (kd = 0 → (q.2.1 j).2.2.1 = "I") ∧ (kd = 1 → (q.2.1 j).2.2.1 = "J") ∧ (∀ g, kd = g + 2 → g < 75) := by
  have h1 := ax_cdokE r
  unfold ax_cdok at h1
  rw [h] at h1
  simp only [hq] at h1
  have h2 := List.all_eq_true.mp h1 j (List.mem_range.mpr (List.getElem?_eq_some_iff.mp hk).1)
  rw [hk] at h2
  refine ⟨fun e => ?_, fun e => ?_, fun g e => ?_⟩
  · subst e; simpa using h2
  · subst e; simpa using h2
  · subst e; exact ax_blt h2
theorem ax_arr_n {tg r n : Nat} {ks : List Nat} (h : ax_cd r = (tg, n, ks)) (ht : tg ≠ 0) : n < 2147483648 := by
  have h1 := ax_cdokE r
  unfold ax_cdok at h1
  rw [h] at h1
  split at h1
  · next hh => cases hh; exact absurd rfl ht
  · next hh => cases hh; simp only [Bool.and_eq_true] at h1; exact ax_blt h1.2
  · next hh => cases hh; exact ax_blt h1
theorem ax_cE0 {q : (Nat → Nat) × Value} {tc : Nat → ClassId} {μ : Mem} {i ci : Nat} {ks : List Nat} (h : ax_cd i = (0, ci, ks)) : ax_cE q tc μ i = .inr (ci, (List.range ks.length).map (fun j => ax_fv q μ i j (ks.getD j 0))) := by simp only [ax_cE, h]
theorem ax_cE1 {q : (Nat → Nat) × Value} {tc : Nat → ClassId} {μ : Mem} {i n : Nat} {ks : List Nat} (h : ax_cd i = (1, n, ks)) : ax_cE q tc μ i = .inl (tc 0, n, .inl (fun j => Int32.ofInt (μ i j))) := by simp only [ax_cE, h]
theorem ax_cE2 {q : (Nat → Nat) × Value} {tc : Nat → ClassId} {μ : Mem} {i n : Nat} {ks : List Nat} (h : ax_cd i = (2, n, ks)) : ax_cE q tc μ i = .inl (tc 1, n, .inl (fun j => Int32.ofInt (μ i j))) := by simp only [ax_cE, h]
theorem ax_cE3 {q : (Nat → Nat) × Value} {tc : Nat → ClassId} {μ : Mem} {i n : Nat} {ks : List Nat} (h : ax_cd i = (3, n, ks)) : ax_cE q tc μ i = .inl (tc 2, n, .inr (.inr (.inr (.inr (fun j => (ks[j]?).map q.1))))) := by simp only [ax_cE, h]
theorem ax_cE4 {q : (Nat → Nat) × Value} {tc : Nat → ClassId} {μ : Mem} {i n : Nat} {ks : List Nat} (h : ax_cd i = (4, n, ks)) : ax_cE q tc μ i = .inl (tc 3, n, .inr (.inr (.inr (.inr (fun j => if j < n then some (q.1 (i + 1 + j)) else none))))) := by simp only [ax_cE, h]
def ax_kv (μ : Mem) (r c kd : Nat) : AV := match kd with
  | 0 => xI (μ r c)
  | 1 => xL (μ r c)
  | g + 2 => xR g
theorem ax_kv_rv {q : (Nat → Nat) × Value} {μ : Mem} {r c kd : Nat} (h : ∀ g, kd = g + 2 → g < 75) : ax_rv q (ax_kv μ r c kd) = ax_fv q μ r c kd := by
  match kd, h with
  | 0, _ => rfl
  | 1, _ => rfl
  | g + 2, h => exact ax_rvR (by have := h g rfl; omega)
theorem ax_kv_ok {μ : Mem} {r ci c kd : Nat} {ks : List Nat} (hμ : ax_okm μ) (h : ax_cd r = (0, ci, ks)) (hk : ks[c]? = some kd) : ax_okv (ax_kv μ r c kd) := by
  have h1 := hμ r c
  rw [ax_lk_fld h hk] at h1
  match kd, h1 with
  | 0, h1 => exact h1
  | 1, h1 => exact h1
  | g + 2, _ => trivial
theorem ax_fs_get {q : (Nat → Nat) × Value} {μ : Mem} {r c kd : Nat} {ks : List Nat} (hk : ks[c]? = some kd) : ((List.range ks.length).map (fun j => ax_fv q μ r j (ks.getD j 0)))[c]? = some (ax_fv q μ r c kd) := by
  rw [List.getElem?_map, List.getElem?_range (List.getElem?_eq_some_iff.mp hk).1]
  show some (ax_fv q μ r c (ks.getD c 0)) = _
  rw [List.getD_eq_getElem?_getD, hk]
  rfl
theorem ax_s44 {d k i : Nat} {L st : List AV} {μ : Mem} {Q : AV → Mem → Prop} {a b c : Nat} {z : Int} {t : List (Int × Nat)} {r kd : Nat} (hop : ax_ok k i (44, a, b, c, z, t) = true) (hf : ax_fld k r b c = some kd) (h : ax_SW d k (i + 1) L (ax_kv μ r c kd :: st) μ Q) : ax_SW d k i L (xR r :: st) μ Q := by
  intro l D tc q p e s m args below meth cd A H locs ls C hP hD hS hl hL hst hμ
  have C0 := C
  obtain ⟨hk, hx, hb, hr, hml, hown, hts, hlk, hK, hKC, hA⟩ := C
  obtain ⟨hin, ks, hcd, hks⟩ := ax_fld_e hf
  obtain ⟨hr1, hr2⟩ := ax_inS_e hin
  obtain ⟨cq, hcq, hlen⟩ := ax_cd_cl r b ks hcd
  simp only [ax_ok, Bool.and_eq_true] at hop
  obtain ⟨hq, hop⟩ := hop
  obtain ⟨hd, hpc⟩ := ax_bs_dq hq
  have hkd := ax_kd hcd hcq hks
  have h9 := h l D tc q p e s m args below meth cd A H locs ls C0 hP hD hS hl hL (ax_cc (ax_kv_ok hμ hcd hks) (ax_c2 hst).2) hμ
  rw [hpc, List.map_cons, ax_kv_rv hkd.2.2] at h9
  have hr75 : r < 75 := by
    rcases Nat.lt_or_ge r 75 with w | w
    · exact w
    · rw [ax_cd_out w] at hcd; cases hcd
  rw [List.map_cons, ax_rvR (show r ≠ 150 by omega)]
  have he := ax_wd_get (q := q) (tc := tc) (μ := μ) hr1 hr2
  rw [ax_cE0 hcd] at he
  obtain ⟨C9, T9, N9⟩ := cq
  split at hop
  · cases hcq
  · rw [hcq] at hop
    simp only [Bool.and_eq_true] at hop
    exact va_get hx hb (ax_wsm hts) (ax_cl_ok hcq).1 hown hK hP (r - (ax_sd k).1) he hcq c (ax_blt hop.1) (ax_wsm hts _ (ax_inM hop.2)) (fun _ h9 => h9) (ax_fs_get hks) hd h9
theorem ax_s44v {d k i : Nat} {L st : List AV} {μ : Mem} {Q : AV → Mem → Prop} {a : Nat} {z : Int} {t : List (Int × Nat)} {r : Nat} (hop : ax_ok k i (44, a, 50, 0, z, t) = true) (hr0 : ax_str r = true) (h : ax_SW d k (i + 1) L (xR (r + 20) :: st) μ Q) : ax_SW d k i L (xR r :: st) μ Q := by
  intro l D tc q p e s m args below meth cd A H locs ls C hP hD hS hl hL hst hμ
  have C0 := C
  obtain ⟨hk, hx, hb, hr, hml, hown, hts, hlk, hK, hKC, hA⟩ := C
  simp only [ax_ok, Bool.and_eq_true] at hop
  obtain ⟨hq, hop⟩ := hop
  obtain ⟨hd, hpc⟩ := ax_bs_dq hq
  simp only [ax_str, Bool.and_eq_true] at hr0
  have r1 := Nat.le_of_ble_eq_true hr0.1
  have r2 := ax_blt hr0.2
  have h9 := h l D tc q p e s m args below meth cd A H locs ls C0 hP hD hS hl hL (ax_cc trivial (ax_c2 hst).2) hμ
  rw [hpc, List.map_cons, ax_rvR (show r + 20 ≠ 150 by omega)] at h9
  rw [List.map_cons, ax_rvR (show r ≠ 150 by omega)]
  have hE := (hKC.1.1 (r - 100) (by omega)).2.2.1
  simp only [show 100 + (r - 100) = r by omega, show 120 + (r - 100) = r + 20 by omega] at hE
  exact vk_getf hx hb hE hS hown (ax_wsm hts _ (ax_inM hop)) (fun _ h9 => h9) hd h9
theorem ax_s44c {d k i : Nat} {L st : List AV} {μ : Mem} {Q : AV → Mem → Prop} {a : Nat} {z : Int} {t : List (Int × Nat)} {r : Nat} (hop : ax_ok k i (44, a, 50, 1, z, t) = true) (hr0 : ax_str r = true) (h : ax_SW d k (i + 1) L (xI 0 :: st) μ Q) : ax_SW d k i L (xR r :: st) μ Q := by
  intro l D tc q p e s m args below meth cd A H locs ls C hP hD hS hl hL hst hμ
  have C0 := C
  obtain ⟨hk, hx, hb, hr, hml, hown, hts, hlk, hK, hKC, hA⟩ := C
  simp only [ax_ok, Bool.and_eq_true] at hop
  obtain ⟨hq, hop⟩ := hop
  obtain ⟨hd, hpc⟩ := ax_bs_dq hq
  simp only [ax_str, Bool.and_eq_true] at hr0
  have r1 := Nat.le_of_ble_eq_true hr0.1
  have r2 := ax_blt hr0.2
  have h9 := h l D tc q p e s m args below meth cd A H locs ls C0 hP hD hS hl hL (ax_cc ax_r0 (ax_c2 hst).2) hμ
  rw [hpc] at h9
  rw [List.map_cons, ax_rvR (show r ≠ 150 by omega)]
  have hE := (hKC.1.1 (r - 100) (by omega)).2.1
  simp only [show 100 + (r - 100) = r by omega] at hE
  exact vk_getf hx hb hE hS hown (ax_wsm hts _ (ax_inM hop)) (fun _ h9 => h9) hd h9
theorem ax_fs_set {q : (Nat → Nat) × Value} {μ : Mem} {r c kd : Nat} {x : Int} {ks : List Nat} {v : Value} (hk : ks[c]? = some kd) (hv : v = ax_fv q (xset μ r c x) r c kd) : ((List.range ks.length).map (fun j => ax_fv q μ r j (ks.getD j 0))).set c v = (List.range ks.length).map (fun j => ax_fv q (xset μ r c x) r j (ks.getD j 0)) := by
  apply List.ext_getElem?
  intro j
  have hc : c < ks.length := (List.getElem?_eq_some_iff.mp hk).1
  by_cases e : j = c
  · subst e
    rw [List.getElem?_set_self (by rw [List.length_map, List.length_range]; exact hc), List.getElem?_map, List.getElem?_range hc, hv]
    show _ = some (ax_fv q (xset μ r j x) r j (ks.getD j 0))
    rw [List.getD_eq_getElem?_getD, hk]
    rfl
  · rw [List.getElem?_set_ne (fun z => e z.symm), List.getElem?_map, List.getElem?_map]
    by_cases hl : j < ks.length
    · rw [List.getElem?_range hl]
      show some (ax_fv q μ r j (ks.getD j 0)) = some (ax_fv q (xset μ r c x) r j (ks.getD j 0))
      have e2 : xset μ r c x r j = μ r j := by unfold xset; rw [if_neg (fun w => e w.2)]
      unfold ax_fv
      rw [e2]
    · rw [List.getElem?_eq_none (by rw [List.length_range]; omega)]
      rfl
theorem ax_xset_o {μ : Mem} {r j : Nat} {x : Int} (i' : Nat) (h : i' ≠ r) (j' : Nat) : xset μ r j x i' j' = μ i' j' := by unfold xset; rw [if_neg (fun w => h w.1)]
theorem ax_xset_s {μ : Mem} {r j : Nat} {x : Int} : xset μ r j x r j = x := by unfold xset; rw [if_pos ⟨rfl, rfl⟩]
theorem ax_s45 {d k i : Nat} {L st : List AV} {μ : Mem} {Q : AV → Mem → Prop} {a b c : Nat} {z : Int} {t : List (Int × Nat)} {r : Nat} {x : Int} (hop : ax_ok k i (45, a, b, c, z, t) = true) (hf : ax_fld k r b c = some 0) (h : ax_SW d k (i + 1) L st (xset μ r c x) Q) : ax_SW d k i L (xI x :: xR r :: st) μ Q := by
  intro l D tc q p e s m args below meth cd A H locs ls C hP hD hS hl hL hst hμ
  have C0 := C
  obtain ⟨hk, hx, hb, hr, hml, hown, hts, hlk, hK, hKC, hA⟩ := C
  obtain ⟨hin, ks, hcd, hks⟩ := ax_fld_e hf
  obtain ⟨hr1, hr2⟩ := ax_inS_e hin
  obtain ⟨cq, hcq, hlen⟩ := ax_cd_cl r b ks hcd
  simp only [ax_ok, Bool.and_eq_true] at hop
  obtain ⟨hq, hop⟩ := hop
  obtain ⟨hd, hpc⟩ := ax_bs_dq hq
  have hkd := ax_kd hcd hcq hks
  have hr75 : r < 75 := by
    rcases Nat.lt_or_ge r 75 with w | w
    · exact w
    · rw [ax_cd_out w] at hcd; cases hcd
  have hxr : ax_r32 x := (ax_c2 hst).1
  have hμ' : ax_okm (xset μ r c x) := ax_xset_ok hμ (by rw [ax_lk_fld hcd hks]; exact hxr)
  rw [List.map_cons, List.map_cons, ax_rvR (show r ≠ 150 by omega)]
  have he := ax_wd_get (q := q) (tc := tc) (μ := μ) hr1 hr2
  rw [ax_cE0 hcd] at he
  obtain ⟨C9, T9, N9⟩ := cq
  rw [hcq] at hop
  simp only [Bool.and_eq_true, Bool.not_eq_true', Bool.or_eq_true, decide_eq_true_eq] at hop
  have hde : (T9 c).2.2.1 = "I" := hkd.1 rfl
  refine va_put (ty := .int) hx hb (ax_wsm hts) (ax_cl_ok hcq).1 _ (ax_cl_ok hcq).2.1 (ax_cl_ok hcq).2.2 hown hK hP hD hS (r - (ax_sd k).1) he hcq c (ax_blt hop.1.1.1) (ax_wsm hts _ (ax_inM hop.1.1.2)) (fun _ h9 => h9) hop.1.2 (by rw [hde]; decide +kernel) rfl rfl (by rw [List.length_map, List.length_range]; exact (List.getElem?_eq_some_iff.mp hks).1) hd (fun H1 locs1 hP1 hD1 hS1 => ?_)
  have ew := ax_wd_set (q := q) (tc := tc) (μ := μ) (μ' := xset μ r c x) (e := .inr (b, ((List.range ks.length).map (fun j => ax_fv q μ r j (ks.getD j 0))).set c (.int (Int32.ofInt x)))) hr1 hr2 (by rw [ax_cE0 hcd, ax_fs_set hks]; show _ = ax_fv q (xset μ r c x) r c 0; unfold ax_fv; rw [ax_xset_s]) (ax_xset_o)
  rw [← hpc]
  exact h l D tc q p e s m args below meth cd A H1 locs1 ls C0 (ew ▸ hP1) (ew ▸ hD1) hS1 hl hL (ax_c2 (ax_c2 hst).2).2 hμ'
theorem ax_s45l {d k i : Nat} {L st : List AV} {μ : Mem} {Q : AV → Mem → Prop} {a b c : Nat} {z : Int} {t : List (Int × Nat)} {r : Nat} {x : Int} (hop : ax_ok k i (45, a, b, c, z, t) = true) (hf : ax_fld k r b c = some 1) (h : ax_SW d k (i + 1) L st (xset μ r c x) Q) : ax_SW d k i L (xL x :: xR r :: st) μ Q := by
  intro l D tc q p e s m args below meth cd A H locs ls C hP hD hS hl hL hst hμ
  have C0 := C
  obtain ⟨hk, hx, hb, hr, hml, hown, hts, hlk, hK, hKC, hA⟩ := C
  obtain ⟨hin, ks, hcd, hks⟩ := ax_fld_e hf
  obtain ⟨hr1, hr2⟩ := ax_inS_e hin
  obtain ⟨cq, hcq, hlen⟩ := ax_cd_cl r b ks hcd
  simp only [ax_ok, Bool.and_eq_true] at hop
  obtain ⟨hq, hop⟩ := hop
  obtain ⟨hd, hpc⟩ := ax_bs_dq hq
  have hkd := ax_kd hcd hcq hks
  have hr75 : r < 75 := by
    rcases Nat.lt_or_ge r 75 with w | w
    · exact w
    · rw [ax_cd_out w] at hcd; cases hcd
  have hxr : ax_r64 x := (ax_c2 hst).1
  have hμ' : ax_okm (xset μ r c x) := ax_xset_ok hμ (by rw [ax_lk_fld hcd hks]; exact hxr)
  rw [List.map_cons, List.map_cons, ax_rvR (show r ≠ 150 by omega)]
  have he := ax_wd_get (q := q) (tc := tc) (μ := μ) hr1 hr2
  rw [ax_cE0 hcd] at he
  obtain ⟨C9, T9, N9⟩ := cq
  rw [hcq] at hop
  simp only [Bool.and_eq_true, Bool.not_eq_true', Bool.or_eq_true, decide_eq_true_eq] at hop
  have hde : (T9 c).2.2.1 = "J" := hkd.2.1 rfl
  refine va_put (ty := .long) hx hb (ax_wsm hts) (ax_cl_ok hcq).1 _ (ax_cl_ok hcq).2.1 (ax_cl_ok hcq).2.2 hown hK hP hD hS (r - (ax_sd k).1) he hcq c (ax_blt hop.1.1.1) (ax_wsm hts _ (ax_inM hop.1.1.2)) (fun _ h9 => h9) hop.1.2 (by rw [hde]; decide +kernel) rfl rfl (by rw [List.length_map, List.length_range]; exact (List.getElem?_eq_some_iff.mp hks).1) hd (fun H1 locs1 hP1 hD1 hS1 => ?_)
  have ew := ax_wd_set (q := q) (tc := tc) (μ := μ) (μ' := xset μ r c x) (e := .inr (b, ((List.range ks.length).map (fun j => ax_fv q μ r j (ks.getD j 0))).set c (.long (Int64.ofInt x)))) hr1 hr2 (by rw [ax_cE0 hcd, ax_fs_set hks]; show _ = ax_fv q (xset μ r c x) r c 1; unfold ax_fv; rw [ax_xset_s]) (ax_xset_o)
  rw [← hpc]
  exact h l D tc q p e s m args below meth cd A H1 locs1 ls C0 (ew ▸ hP1) (ew ▸ hD1) hS1 hl hL (ax_c2 (ax_c2 hst).2).2 hμ'
theorem ax_s46a {d k i : Nat} {L st : List AV} {μ : Mem} {Q : AV → Mem → Prop} {a c : Nat} {z : Int} {t : List (Int × Nat)} (hop : ax_ok k i (46, a, 0, c, z, t) = true) (h : ax_SW d k (i + 1) L (xI 1 :: st) μ Q) : ax_SW d k i L st μ Q := by
  intro l D tc q p e s m args below meth cd A H locs ls C hP hD hS hl hL hst hμ
  have C0 := C
  obtain ⟨hk, hx, hb, hr, hml, hown, hts, hlk, hK, hKC, hA⟩ := C
  simp only [ax_ok, Bool.and_eq_true] at hop
  obtain ⟨hq, hop⟩ := hop
  obtain ⟨hd, hpc⟩ := ax_bs_dq hq
  have h9 := h l D tc q p e s m args below meth cd A H locs ls C0 hP hD hS hl hL (ax_cc ⟨by decide, by decide⟩ hst) hμ
  rw [hpc] at h9
  exact va_gets hx hb hKC.2.2.1 hS hown (ax_wsm hts _ (ax_inM hop)) (fun _ h9 => h9) hd h9
theorem ax_s46b {d k i : Nat} {L st : List AV} {μ : Mem} {Q : AV → Mem → Prop} {a c : Nat} {z : Int} {t : List (Int × Nat)} (hop : ax_ok k i (46, a, 1, c, z, t) = true) (h : ax_SW d k (i + 1) L (xR 150 :: st) μ Q) : ax_SW d k i L st μ Q := by
  intro l D tc q p e s m args below meth cd A H locs ls C hP hD hS hl hL hst hμ
  have C0 := C
  obtain ⟨hk, hx, hb, hr, hml, hown, hts, hlk, hK, hKC, hA⟩ := C
  simp only [ax_ok, Bool.and_eq_true] at hop
  obtain ⟨hq, hop⟩ := hop
  obtain ⟨hd, hpc⟩ := ax_bs_dq hq
  have h9 := h l D tc q p e s m args below meth cd A H locs ls C0 hP hD hS hl hL (ax_cc trivial hst) hμ
  rw [hpc] at h9
  exact va_gets hx hb hKC.2.2.2.1 hS hown (ax_wsm hts _ (ax_inM hop)) (fun _ h9 => h9) hd h9
theorem ax_s46c {d k i : Nat} {L st : List AV} {μ : Mem} {Q : AV → Mem → Prop} {a g c : Nat} {z : Int} {t : List (Int × Nat)} (hop : ax_ok k i (46, a, g + 2, c, z, t) = true) (h : ax_SW d k (i + 1) L (xR (140 + g) :: st) μ Q) : ax_SW d k i L st μ Q := by
  intro l D tc q p e s m args below meth cd A H locs ls C hP hD hS hl hL hst hμ
  have C0 := C
  obtain ⟨hk, hx, hb, hr, hml, hown, hts, hlk, hK, hKC, hA⟩ := C
  simp only [ax_ok, Bool.and_eq_true] at hop
  obtain ⟨hq, hop⟩ := hop
  obtain ⟨hd, hpc⟩ := ax_bs_dq hq
  have hg := ax_blt hop.2
  have h9 := h l D tc q p e s m args below meth cd A H locs ls C0 hP hD hS hl hL (ax_cc trivial hst) hμ
  rw [hpc, List.map_cons, ax_rvR (show 140 + g ≠ 150 by omega)] at h9
  exact va_gets hx hb (hKC.2.2.2.2.2 g (by omega)).1 hS hown (ax_wsm hts _ (ax_inM hop.1)) (fun _ h9 => h9) hd h9
theorem ax_s47 {d k i : Nat} {L st : List AV} {μ : Mem} {Q : AV → Mem → Prop} {a b c : Nat} {z : Int} {t : List (Int × Nat)} {r n : Nat} {x : Int} {v : AV} {ks : List Nat} (hop : ax_ok k i (47, a, b, c, z, t) = true) (hin : ax_inS k r = true) (hcd : ax_cd r = (1, n, ks)) (hv : ∀ q, ax_rv q v = .ref (q.1 r)) (h0 : 0 ≤ x) (h1 : x < (n : Int)) (h : ax_SW d k (i + 1) L (xI (μ r x.toNat) :: st) μ Q) : ax_SW d k i L (xI x :: v :: st) μ Q := by
  intro l D tc q p e s m args below meth cd A H locs ls C hP hD hS hl hL hst hμ
  have C0 := C
  obtain ⟨hk, hx, hb, hr, hml, hown, hts, hlk, hK, hKC, hA⟩ := C
  obtain ⟨hr1, hr2⟩ := ax_inS_e hin
  simp only [ax_ok] at hop
  obtain ⟨hd, hpc⟩ := ax_bs_dq hop
  have hx1 : ax_r32 x := (ax_c2 hst).1
  have hm : ax_r32 (μ r x.toNat) := by have := hμ r x.toNat; rw [ax_lk_arr hcd (by decide)] at this; exact this
  have h9 := h l D tc q p e s m args below meth cd A H locs ls C0 hP hD hS hl hL (ax_cc hm (ax_c2 (ax_c2 hst).2).2) hμ
  rw [hpc] at h9
  rw [List.map_cons, List.map_cons, hv q]
  have he := ax_wd_get (q := q) (tc := tc) (μ := μ) hr1 hr2
  rw [ax_cE1 hcd] at he
  refine va_iald hx hb hK hP (r - (ax_sd k).1) 0 he rfl (ax_vin hx1 h0 h1) hd ?_
  rw [ax_cl0 hx1]
  exact h9
theorem ax_s48 {d k i : Nat} {L st : List AV} {μ : Mem} {Q : AV → Mem → Prop} {a b c : Nat} {z : Int} {t : List (Int × Nat)} {r n : Nat} {x y : Int} {v : AV} {ks : List Nat} (hop : ax_ok k i (48, a, b, c, z, t) = true) (hin : ax_inS k r = true) (hcd : ax_cd r = (1, n, ks)) (hv : ∀ q, ax_rv q v = .ref (q.1 r)) (h0 : 0 ≤ x) (h1 : x < (n : Int)) (h : ax_SW d k (i + 1) L st (xset μ r x.toNat y) Q) : ax_SW d k i L (xI y :: xI x :: v :: st) μ Q := by
  intro l D tc q p e s m args below meth cd A H locs ls C hP hD hS hl hL hst hμ
  have C0 := C
  obtain ⟨hk, hx, hb, hr, hml, hown, hts, hlk, hK, hKC, hA⟩ := C
  obtain ⟨hr1, hr2⟩ := ax_inS_e hin
  simp only [ax_ok] at hop
  obtain ⟨hd, hpc⟩ := ax_bs_dq hop
  have hy : ax_r32 y := (ax_c2 hst).1
  have hx1 : ax_r32 x := (ax_c2 (ax_c2 hst).2).1
  have hμ' : ax_okm (xset μ r x.toNat y) := ax_xset_ok hμ (by rw [ax_lk_arr hcd (by decide)]; exact hy)
  rw [List.map_cons, List.map_cons, List.map_cons, hv q]
  have he := ax_wd_get (q := q) (tc := tc) (μ := μ) hr1 hr2
  rw [ax_cE1 hcd] at he
  refine va_iast hx hb hK hP hD hS (r - (ax_sd k).1) 0 he rfl (ax_vin hx1 h0 h1) hd (fun H1 locs1 hP1 hD1 hS1 => ?_)
  have ew := ax_wd_set (q := q) (tc := tc) (μ := μ) (μ' := xset μ r x.toNat y) (e := .inl (tc 0, n, .inl (upd (fun j => Int32.ofInt (μ r j)) (Int32.ofInt x).toNatClampNeg (Int32.ofInt y)))) hr1 hr2 (by
    rw [ax_cE1 hcd, ax_cl0 hx1]
    congr 3
    refine congrArg Sum.inl (funext fun j => ?_)
    unfold upd xset
    by_cases e : j = x.toNat
    · rw [if_pos e, if_pos ⟨rfl, e⟩]
    · rw [if_neg e, if_neg (fun w => e w.2)]) (ax_xset_o)
  rw [← hpc]
  exact h l D tc q p e s m args below meth cd A H1 locs1 ls C0 (ew ▸ hP1) (ew ▸ hD1) hS1 hl hL (ax_c2 (ax_c2 (ax_c2 hst).2).2).2 hμ'
theorem ax_s49 {d k i : Nat} {L st : List AV} {μ : Mem} {Q : AV → Mem → Prop} {a b c : Nat} {z : Int} {t : List (Int × Nat)} {r n : Nat} {x : Int} {ks : List Nat} (hop : ax_ok k i (49, a, b, c, z, t) = true) (hin : ax_inS k r = true) (hcd : ax_cd r = (2, n, ks)) (h0 : 0 ≤ x) (h1 : x < (n : Int)) (h : ax_SW d k (i + 1) L (xI (μ r x.toNat) :: st) μ Q) : ax_SW d k i L (xI x :: xR r :: st) μ Q := by
  intro l D tc q p e s m args below meth cd A H locs ls C hP hD hS hl hL hst hμ
  have C0 := C
  obtain ⟨hk, hx, hb, hr, hml, hown, hts, hlk, hK, hKC, hA⟩ := C
  obtain ⟨hr1, hr2⟩ := ax_inS_e hin
  simp only [ax_ok] at hop
  obtain ⟨hd, hpc⟩ := ax_bs_dq hop
  have hx1 : ax_r32 x := (ax_c2 hst).1
  have hm : ax_r32 (μ r x.toNat) := by have := hμ r x.toNat; rw [ax_lk_arr hcd (by decide)] at this; exact this
  have h9 := h l D tc q p e s m args below meth cd A H locs ls C0 hP hD hS hl hL (ax_cc hm (ax_c2 (ax_c2 hst).2).2) hμ
  rw [hpc] at h9
  have hr75 : r < 75 := by
    rcases Nat.lt_or_ge r 75 with w | w
    · exact w
    · rw [ax_cd_out w] at hcd; cases hcd
  rw [List.map_cons, List.map_cons, ax_rvR (show r ≠ 150 by omega)]
  have he := ax_wd_get (q := q) (tc := tc) (μ := μ) hr1 hr2
  rw [ax_cE2 hcd] at he
  refine va_zald hx hb hK hP (r - (ax_sd k).1) 1 he rfl (ax_vin hx1 h0 h1) hd ?_
  rw [ax_cl0 hx1]
  exact h9
theorem ax_nb {y : Int} (h0 : 0 ≤ y) (h1 : y < 2) : vp_nar .boolean (Int32.ofInt y) = Int32.ofInt y ∧ narrow .boolean (.int (Int32.ofInt y)) = .int (Int32.ofInt y) := by
  rcases (show y = 0 ∨ y = 1 by omega) with rfl | rfl <;> exact ⟨by decide, by decide⟩
theorem ax_s50 {d k i : Nat} {L st : List AV} {μ : Mem} {Q : AV → Mem → Prop} {a b c : Nat} {z : Int} {t : List (Int × Nat)} {r n : Nat} {x y : Int} {ks : List Nat} (hop : ax_ok k i (50, a, b, c, z, t) = true) (hin : ax_inS k r = true) (hcd : ax_cd r = (2, n, ks)) (h0 : 0 ≤ x) (h1 : x < (n : Int)) (hy0 : 0 ≤ y) (hy1 : y < 2) (h : ax_SW d k (i + 1) L st (xset μ r x.toNat y) Q) : ax_SW d k i L (xI y :: xI x :: xR r :: st) μ Q := by
  intro l D tc q p e s m args below meth cd A H locs ls C hP hD hS hl hL hst hμ
  have C0 := C
  obtain ⟨hk, hx, hb, hr, hml, hown, hts, hlk, hK, hKC, hA⟩ := C
  obtain ⟨hr1, hr2⟩ := ax_inS_e hin
  simp only [ax_ok] at hop
  obtain ⟨hd, hpc⟩ := ax_bs_dq hop
  have hy : ax_r32 y := (ax_c2 hst).1
  have hx1 : ax_r32 x := (ax_c2 (ax_c2 hst).2).1
  have hμ' : ax_okm (xset μ r x.toNat y) := ax_xset_ok hμ (by rw [ax_lk_arr hcd (by decide)]; exact hy)
  have hr75 : r < 75 := by
    rcases Nat.lt_or_ge r 75 with w | w
    · exact w
    · rw [ax_cd_out w] at hcd; cases hcd
  rw [List.map_cons, List.map_cons, List.map_cons, ax_rvR (show r ≠ 150 by omega)]
  have he := ax_wd_get (q := q) (tc := tc) (μ := μ) hr1 hr2
  rw [ax_cE2 hcd] at he
  refine va_zast hx hb hK hP hD hS (r - (ax_sd k).1) 1 he rfl (ax_vin hx1 h0 h1) hd (fun H1 locs1 hP1 hD1 hS1 => ?_)
  rw [(ax_nb hy0 hy1).1] at hP1 hD1
  have ew := ax_wd_set (q := q) (tc := tc) (μ := μ) (μ' := xset μ r x.toNat y) (e := .inl (tc 1, n, .inl (upd (fun j => Int32.ofInt (μ r j)) (Int32.ofInt x).toNatClampNeg (Int32.ofInt y)))) hr1 hr2 (by
    rw [ax_cE2 hcd, ax_cl0 hx1]
    congr 3
    refine congrArg Sum.inl (funext fun j => ?_)
    unfold upd xset
    by_cases e : j = x.toNat
    · rw [if_pos e, if_pos ⟨rfl, e⟩]
    · rw [if_neg e, if_neg (fun w => e w.2)]) (ax_xset_o)
  rw [← hpc]
  exact h l D tc q p e s m args below meth cd A H1 locs1 ls C0 (ew ▸ hP1) (ew ▸ hD1) hS1 hl hL (ax_c2 (ax_c2 (ax_c2 hst).2).2).2 hμ'
theorem ax_con_e {r : Nat} {l : List Int} (h : ax_con r = some l) : ∃ j : Nat, j < 3 ∧ r = 140 + j ∧ ax_staV.getD j [] = l := by
  unfold ax_con at h
  split at h
  · next hh =>
    simp only [Bool.and_eq_true] at hh
    have h1 := Nat.le_of_ble_eq_true hh.1
    have h2 := ax_blt hh.2
    exact ⟨r - 140, by omega, by omega, by rw [List.getD_eq_getElem?_getD, h]; rfl⟩
  · cases h
theorem ax_byt_e {r : Nat} {l : List Int} (h : ax_byt r = some l) : ∃ j : Nat, j < 17 ∧ r = 120 + j ∧ ax_strB.getD j [] = l ∧ ax_strN.getD j 0 = l.length ∧ ax_strB32.getD j [] = l.map Int32.ofInt := by
  unfold ax_byt at h
  split at h
  · next hh =>
    simp only [Bool.and_eq_true] at hh
    have h1 := Nat.le_of_ble_eq_true hh.1
    have h2 := ax_blt hh.2
    refine ⟨r - 120, by omega, by omega, by rw [List.getD_eq_getElem?_getD, h]; rfl, ?_, ?_⟩
    · have key : ∀ j, j < 17 → ax_strN.getD j 0 = (ax_strB.getD j []).length := by decide +kernel
      rw [key _ (by omega), List.getD_eq_getElem?_getD, h]
      rfl
    · unfold ax_strB32
      rw [List.getD_eq_getElem?_getD, List.getElem?_map, h]
      rfl
  · cases h
theorem ax_staOk : ∀ j, j < 3 → ∀ x ∈ ax_staV.getD j [], -2147483648 ≤ x ∧ x < 2147483648 := by decide +kernel
theorem ax_strOk : ∀ j, j < 17 → ∀ x ∈ ax_strB.getD j [], -2147483648 ≤ x ∧ x < 2147483648 := by decide +kernel
theorem ax_lenOk : (∀ j, j < 3 → (ax_staV.getD j []).length < 100) ∧ ∀ j, j < 17 → (ax_strB.getD j []).length < 100 := by decide +kernel
theorem ax_getD_ok {l : List Int} (h : ∀ x ∈ l, -2147483648 ≤ x ∧ x < 2147483648) (n : Nat) : ax_r32 (l.getD n 0) := by
  rw [List.getD_eq_getElem?_getD]
  cases e : l[n]? with
  | none => exact ax_r0
  | some x => exact h x (List.mem_of_getElem? e)
theorem ax_s47c {d k i : Nat} {L st : List AV} {μ : Mem} {Q : AV → Mem → Prop} {a b c : Nat} {z : Int} {t : List (Int × Nat)} {r : Nat} {x : Int} {cl : List Int} (hop : ax_ok k i (47, a, b, c, z, t) = true) (hc : ax_con r = some cl) (h0 : 0 ≤ x) (h1 : x < (cl.length : Int)) (h : ax_SW d k (i + 1) L (xI (cl.getD x.toNat 0) :: st) μ Q) : ax_SW d k i L (xI x :: xR r :: st) μ Q := by
  intro l D tc q p e s m args below meth cd A H locs ls C hP hD hS hl hL hst hμ
  have C0 := C
  obtain ⟨hk, hx, hb, hr, hml, hown, hts, hlk, hK, hKC, hA⟩ := C
  obtain ⟨j, hj, rfl, rfl⟩ := ax_con_e hc
  simp only [ax_ok] at hop
  obtain ⟨hd, hpc⟩ := ax_bs_dq hop
  have hx1 : ax_r32 x := (ax_c2 hst).1
  have h9 := h l D tc q p e s m args below meth cd A H locs ls C0 hP hD hS hl hL (ax_cc (ax_getD_ok (ax_staOk j hj) _) (ax_c2 (ax_c2 hst).2).2) hμ
  rw [hpc] at h9
  rw [List.map_cons, List.map_cons, ax_rvR (show 140 + j ≠ 150 by omega)]
  exact va_ti hx hb (hKC.2.2.2.2.2 j hj).2 hS (ax_vin hx1 h0 h1) (by rw [ax_cl0 hx1]; rfl) hd h9
theorem ax_s49c {d k i : Nat} {L st : List AV} {μ : Mem} {Q : AV → Mem → Prop} {a b c : Nat} {z : Int} {t : List (Int × Nat)} {r : Nat} {x : Int} {cl : List Int} (hop : ax_ok k i (49, a, b, c, z, t) = true) (hc : ax_byt r = some cl) (h0 : 0 ≤ x) (h1 : x < (cl.length : Int)) (h : ax_SW d k (i + 1) L (xI (cl.getD x.toNat 0) :: st) μ Q) : ax_SW d k i L (xI x :: xR r :: st) μ Q := by
  intro l D tc q p e s m args below meth cd A H locs ls C hP hD hS hl hL hst hμ
  have C0 := C
  obtain ⟨hk, hx, hb, hr, hml, hown, hts, hlk, hK, hKC, hA⟩ := C
  obtain ⟨j, hj, rfl, e1, e2, e3⟩ := ax_byt_e hc
  simp only [ax_ok] at hop
  obtain ⟨hd, hpc⟩ := ax_bs_dq hop
  have hx1 : ax_r32 x := (ax_c2 hst).1
  have h9 := h l D tc q p e s m args below meth cd A H locs ls C0 hP hD hS hl hL (ax_cc (ax_getD_ok (e1 ▸ ax_strOk j hj) _) (ax_c2 (ax_c2 hst).2).2) hμ
  rw [hpc] at h9
  rw [List.map_cons, List.map_cons, ax_rvR (show 120 + j ≠ 150 by omega)]
  have hT := (hKC.1.1 j hj).2.2.2
  rw [e2, e3] at hT
  refine va_tb hx hb hT hS (ax_vin hx1 h0 h1) ?_ hd h9
  show Value.int ((cl.map Int32.ofInt).getD (Int32.ofInt x).toNatClampNeg 0) = ax_rv q (xI (cl.getD x.toNat 0))
  rw [ax_cl0 hx1, List.getD_eq_getElem?_getD, List.getD_eq_getElem?_getD, List.getElem?_map]
  have hlt : x.toNat < cl.length := by omega
  rw [List.getElem?_eq_getElem hlt]
  rfl
theorem ax_sel_e {ks : List Nat} {F : Nat → Prop} {x : Int} : ∀ {m : Int}, ax_sel m ks x F → ∃ (j g : Nat), ks[j]? = some g ∧ x = m + (j : Int) ∧ F g := by
  induction ks with
  | nil => intro m h; exact h.elim
  | cons r ks ih =>
    intro m h
    unfold ax_sel at h
    by_cases e : x = m
    · rw [if_pos e] at h
      exact ⟨0, r, rfl, by rw [e]; simp, h⟩
    · rw [if_neg e] at h
      obtain ⟨j, g, h1, h2, h3⟩ := ih h
      exact ⟨j + 1, g, h1, by rw [h2]; simp only [Int.natCast_add, Int.natCast_one]; omega, h3⟩
theorem ax_ref_n {r n : Nat} {ks : List Nat} (h : ax_cd r = (3, n, ks)) : n = ks.length ∧ ∀ g ∈ ks, g < 75 := by
  have h1 := ax_cdokE r
  unfold ax_cdok at h1
  rw [h] at h1
  simp only [Bool.and_eq_true] at h1
  exact ⟨Nat.eq_of_beq_eq_true h1.1.1, fun g hg => ax_blt (List.all_eq_true.mp h1.1.2 g hg)⟩
theorem ax_s51 {d k i : Nat} {L st : List AV} {μ : Mem} {Q : AV → Mem → Prop} {a b c : Nat} {z : Int} {t : List (Int × Nat)} {r : Nat} {x : Int} {ks : List Nat} (hop : ax_ok k i (51, a, b, c, z, t) = true) (hc : ax_ref k r = some ks) {j g : Nat} (hj : ks[j]? = some g) (hxj : x = (j : Int)) (h : ax_SW d k (i + 1) L (xR g :: st) μ Q) : ax_SW d k i L (xI x :: xR r :: st) μ Q := by
  intro l D tc q p e s m args below meth cd A H locs ls C hP hD hS hl hL hst hμ
  have C0 := C
  obtain ⟨hk, hx, hb, hr, hml, hown, hts, hlk, hK, hKC, hA⟩ := C
  obtain ⟨hin, n, hcd⟩ := ax_ref_e hc
  obtain ⟨hr1, hr2⟩ := ax_inS_e hin
  obtain ⟨hn, hg⟩ := ax_ref_n hcd
  have hjl : j < ks.length := (List.getElem?_eq_some_iff.mp hj).1
  simp only [ax_ok] at hop
  obtain ⟨hd, hpc⟩ := ax_bs_dq hop
  have hx1 : ax_r32 x := (ax_c2 hst).1
  have hg75 := hg g (List.mem_of_getElem? hj)
  have h9 := h l D tc q p e s m args below meth cd A H locs ls C0 hP hD hS hl hL (ax_cc trivial (ax_c2 (ax_c2 hst).2).2) hμ
  rw [hpc, List.map_cons, ax_rvR (show g ≠ 150 by omega)] at h9
  have hr75 : r < 75 := by
    rcases Nat.lt_or_ge r 75 with w | w
    · exact w
    · rw [ax_cd_out w] at hcd; cases hcd
  rw [List.map_cons, List.map_cons, ax_rvR (show r ≠ 150 by omega)]
  have he := ax_wd_get (q := q) (tc := tc) (μ := μ) hr1 hr2
  rw [ax_cE3 hcd] at he
  refine va_aldq hx hb hK hP (r - (ax_sd k).1) 2 he rfl (ax_vin hx1 (by omega) (by omega)) hd ?_
  rw [ax_cl0 hx1, show x.toNat = j by omega]
  show W p l e (ax_rm d) s m args below meth cd H locs 0 0 _ (F0 m (ax_pc k i + 1) ls (va_rf ((ks[j]?).map q.1) :: _))
  rw [hj]
  exact h9
theorem ax_s51w {d k i : Nat} {L st : List AV} {μ : Mem} {Q : AV → Mem → Prop} {a b c : Nat} {z : Int} {t : List (Int × Nat)} {r : Nat} {x : Int} {nm : Nat × Nat} (hop : ax_ok k i (51, a, b, c, z, t) = true) (hc : ax_row k r = some nm) (h0 : 0 ≤ x) (h1 : x < (nm.1 : Int)) (h : ax_SW d k (i + 1) L (xW r x :: st) μ Q) : ax_SW d k i L (xI x :: xR r :: st) μ Q := by
  intro l D tc q p e s m args below meth cd A H locs ls C hP hD hS hl hL hst hμ
  have C0 := C
  obtain ⟨hk, hx, hb, hr, hml, hown, hts, hlk, hK, hKC, hA⟩ := C
  obtain ⟨hin, hcd⟩ := ax_row_e hc
  obtain ⟨hr1, hr2⟩ := ax_inS_e hin
  simp only [ax_ok] at hop
  obtain ⟨hd, hpc⟩ := ax_bs_dq hop
  have hx1 : ax_r32 x := (ax_c2 hst).1
  have hok : ax_okv (xW r x) := ⟨nm.1, nm.2, hcd, h0, h1⟩
  have h9 := h l D tc q p e s m args below meth cd A H locs ls C0 hP hD hS hl hL (ax_cc hok (ax_c2 (ax_c2 hst).2).2) hμ
  rw [hpc, List.map_cons] at h9
  have hr75 : r < 75 := by
    rcases Nat.lt_or_ge r 75 with w | w
    · exact w
    · rw [ax_cd_out w] at hcd; cases hcd
  rw [List.map_cons, List.map_cons, ax_rvR (show r ≠ 150 by omega)]
  have he := ax_wd_get (q := q) (tc := tc) (μ := μ) hr1 hr2
  rw [ax_cE4 hcd] at he
  have hv := ax_vin hx1 h0 h1
  have hlt : (Int32.ofInt x).toNatClampNeg < nm.1 := by rw [ax_cl0 hx1]; omega
  refine W.aald (v := ax_rv q (xW r x)) (ty := .array .int) hx hb (hP _ _ he) ((hK.2 3 _ rfl).1 nm.1 (fun j => va_rf (if j < nm.1 then some (q.1 (r + 1 + j)) else none))) rfl (fun q => by cases q) (by show ¬ (_ ∨ (arrV _ _ _).slots.size ≤ _); rw [arrV_size]; exact hv) (by
    show (arrV _ _ _).slots[_]? = _
    rw [arrV_read _ _ hlt]
    show some (va_rf (if (Int32.ofInt x).toNatClampNeg < nm.1 then some (q.1 (r + 1 + (Int32.ofInt x).toNatClampNeg)) else none)) = _
    rw [if_pos hlt, ax_cl0 hx1]
    rfl) rfl rfl hd h9
theorem ax_s52 {d k i : Nat} {L st : List AV} {μ : Mem} {Q : AV → Mem → Prop} {a b c : Nat} {z : Int} {t : List (Int × Nat)} {r n : Nat} (hop : ax_ok k i (52, a, b, c, z, t) = true) (hc : ax_arr 1 k r = some n) (h : ax_SW d k (i + 1) L (xI (n : Int) :: st) μ Q) : ax_SW d k i L (xR r :: st) μ Q := by
  intro l D tc q p e s m args below meth cd A H locs ls C hP hD hS hl hL hst hμ
  have C0 := C
  obtain ⟨hk, hx, hb, hr, hml, hown, hts, hlk, hK, hKC, hA⟩ := C
  obtain ⟨hin, ks, hcd⟩ := ax_arr_e hc
  obtain ⟨hr1, hr2⟩ := ax_inS_e hin
  simp only [ax_ok] at hop
  obtain ⟨hd, hpc⟩ := ax_bs_dq hop
  have hn := ax_arr_n hcd (by decide)
  have h9 := h l D tc q p e s m args below meth cd A H locs ls C0 hP hD hS hl hL (ax_cc ⟨by omega, by omega⟩ (ax_c2 hst).2) hμ
  rw [hpc] at h9
  have hr75 : r < 75 := by
    rcases Nat.lt_or_ge r 75 with w | w
    · exact w
    · rw [ax_cd_out w] at hcd; cases hcd
  rw [List.map_cons, ax_rvR (show r ≠ 150 by omega)]
  have he := ax_wd_get (q := q) (tc := tc) (μ := μ) hr1 hr2
  rw [ax_cE1 hcd] at he
  exact va_alen hx hb hK hP (r - (ax_sd k).1) 0 he (ty := .int) rfl (v := Int32.ofInt (n : Int)) (by rw [Int32.ofInt_eq_ofNat]) hd h9
theorem ax_s52c {d k i : Nat} {L st : List AV} {μ : Mem} {Q : AV → Mem → Prop} {a b c : Nat} {z : Int} {t : List (Int × Nat)} {r : Nat} {cl : List Int} (hop : ax_ok k i (52, a, b, c, z, t) = true) (hc : ax_con r = some cl) (h : ax_SW d k (i + 1) L (xI (cl.length : Int) :: st) μ Q) : ax_SW d k i L (xR r :: st) μ Q := by
  intro l D tc q p e s m args below meth cd A H locs ls C hP hD hS hl hL hst hμ
  have C0 := C
  obtain ⟨hk, hx, hb, hr, hml, hown, hts, hlk, hK, hKC, hA⟩ := C
  obtain ⟨j, hj, rfl, rfl⟩ := ax_con_e hc
  simp only [ax_ok] at hop
  obtain ⟨hd, hpc⟩ := ax_bs_dq hop
  have hn := ax_lenOk.1 j hj
  have h9 := h l D tc q p e s m args below meth cd A H locs ls C0 hP hD hS hl hL (ax_cc ⟨by omega, by omega⟩ (ax_c2 hst).2) hμ
  rw [hpc] at h9
  rw [List.map_cons, ax_rvR (show 140 + j ≠ 150 by omega)]
  exact va_tlen hx hb (hKC.2.2.2.2.2 j hj).2 hS (by rw [Int32.ofInt_eq_ofNat]) hd h9
theorem ax_s52b {d k i : Nat} {L st : List AV} {μ : Mem} {Q : AV → Mem → Prop} {a b c : Nat} {z : Int} {t : List (Int × Nat)} {r : Nat} {cl : List Int} (hop : ax_ok k i (52, a, b, c, z, t) = true) (hc : ax_byt r = some cl) (h : ax_SW d k (i + 1) L (xI (cl.length : Int) :: st) μ Q) : ax_SW d k i L (xR r :: st) μ Q := by
  intro l D tc q p e s m args below meth cd A H locs ls C hP hD hS hl hL hst hμ
  have C0 := C
  obtain ⟨hk, hx, hb, hr, hml, hown, hts, hlk, hK, hKC, hA⟩ := C
  obtain ⟨j, hj, rfl, e1, e2, e3⟩ := ax_byt_e hc
  simp only [ax_ok] at hop
  obtain ⟨hd, hpc⟩ := ax_bs_dq hop
  have hn := ax_lenOk.2 j hj
  rw [e1] at hn
  have h9 := h l D tc q p e s m args below meth cd A H locs ls C0 hP hD hS hl hL (ax_cc ⟨by omega, by omega⟩ (ax_c2 hst).2) hμ
  rw [hpc] at h9
  rw [List.map_cons, ax_rvR (show 120 + j ≠ 150 by omega)]
  have hT := (hKC.1.1 j hj).2.2.2
  rw [e2] at hT
  exact va_tlen hx hb hT hS (by rw [Int32.ofInt_eq_ofNat]) hd h9
theorem ax_rtk : ∀ k, k < ax_K → (ax_rk k = 0 → ax_rt k = none) ∧ (ax_rk k = 1 → ax_rt k = some .int) ∧ (ax_rk k = 2 → ax_rt k = some .boolean) ∧ (ax_rk k = 3 → ax_rt k = some (.object "java/lang/String")) ∧ (ax_rk k = 4 → ax_rt k = some .char) ∧ (ax_rk k = 5 → ax_rt k = some .byte) := by decide +kernel
theorem ax_rvo1 {rk : Nat} {q : (Nat → Nat) × Value} {r : AV} (h : rk ≠ 0) : ax_rvo rk q r = some (ax_rv q r) := by
  match rk, h with
  | 0, h => exact absurd rfl h
  | n + 1, _ => rfl
theorem ax_s53 {d k i : Nat} {L : List AV} {μ : Mem} {Q : AV → Mem → Prop} {a b c : Nat} {z : Int} {t : List (Int × Nat)} {x : Int} {ty : FieldType} (hop : ax_ok k i (53, a, b, c, z, t) = true) (hty : k < ax_K → ax_rt k = some ty) (hk0 : ax_rk k ≠ 0) (hn : ax_r32 x → narrow ty (.int (Int32.ofInt x)) = .int (Int32.ofInt x)) (h : Q (xI x) μ) : ax_SW d k i L [xI x] μ Q := by
  intro l D tc q p e s m args below meth cd A H locs ls C hP hD hS hl hL hst hμ
  have C0 := C
  obtain ⟨hk, hx, hb, hr, hml, hown, hts, hlk, hK, hKC, hA⟩ := C
  simp only [ax_ok] at hop
  have hd := ax_bs_d1 hop
  have hx1 : ax_r32 x := (ax_c2 hst).1
  rw [hty hk] at hr
  exact W.zret hx hb hr (hn hx1) (fun t ht hW => ⟨⟨xI x, μ, by rw [ax_rvo1 hk0]; rfl, hx1, hμ, h, by rw [ht]; exact hP, va_K.moved hW.alike hK, hD⟩, hS.F ht⟩) hS.2.2 hd hlk
theorem ax_s54 {d k i : Nat} {L : List AV} {μ : Mem} {Q : AV → Mem → Prop} {a b c : Nat} {z : Int} {t : List (Int × Nat)} (hop : ax_ok k i (54, a, b, c, z, t) = true) (hk0 : ax_rk k = 0) (h : Q (xI 0) μ) : ax_SW d k i L [] μ Q := by
  intro l D tc q p e s m args below meth cd A H locs ls C hP hD hS hl hL hst hμ
  have C0 := C
  obtain ⟨hk, hx, hb, hr, hml, hown, hts, hlk, hK, hKC, hA⟩ := C
  simp only [ax_ok] at hop
  have hd := ax_bs_d1 hop
  rw [(ax_rtk k hk).1 hk0] at hr
  exact W.vret hx hb hr (fun t ht hW => ⟨⟨xI 0, μ, by rw [hk0]; rfl, ax_r0, hμ, h, by rw [ht]; exact hP, va_K.moved hW.alike hK, hD⟩, hS.F ht⟩) hS.2.2 hd hlk
theorem ax_s55 {d k i : Nat} {L : List AV} {μ : Mem} {Q : AV → Mem → Prop} {a b c : Nat} {z : Int} {t : List (Int × Nat)} {r : Nat} (hop : ax_ok k i (55, a, b, c, z, t) = true) (hk0 : ax_rk k = 3) (hr0 : r ≠ 150) (h : Q (xR r) μ) : ax_SW d k i L [xR r] μ Q := by
  intro l D tc q p e s m args below meth cd A H locs ls C hP hD hS hl hL hst hμ
  have C0 := C
  obtain ⟨hk, hx, hb, hr, hml, hown, hts, hlk, hK, hKC, hA⟩ := C
  simp only [ax_ok] at hop
  have hd := ax_bs_d1 hop
  rw [(ax_rtk k hk).2.2.2.1 hk0] at hr
  exact W.aret hx hb hr (Or.inl ⟨_, rfl⟩) (Or.inr ⟨_, ax_rvR hr0⟩) (fun t ht hW => ⟨⟨xR r, μ, by rw [hk0]; rfl, trivial, hμ, h, by rw [ht]; exact hP, va_K.moved hW.alike hK, hD⟩, hS.F ht⟩) hS.2.2 hd hlk
