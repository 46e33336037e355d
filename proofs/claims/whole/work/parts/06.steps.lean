theorem ax_rvR {q : (Nat → Nat) × Value} {r : Nat} (h : r ≠ 150) : ax_rv q (xR r) = .ref (q.1 r) := by
  show (if r = 150 then q.2 else Value.ref (q.1 r)) = _
  rw [if_neg h]
theorem ax_c2 {P : AV → Prop} {a : AV} {l : List AV} (h : ∀ v ∈ a :: l, P v) : P a ∧ ∀ v ∈ l, P v := List.forall_mem_cons.mp h
theorem ax_cc {P : AV → Prop} {a : AV} {l : List AV} (h1 : P a) (h2 : ∀ v ∈ l, P v) : ∀ v ∈ a :: l, P v := List.forall_mem_cons.mpr ⟨h1, h2⟩
theorem ax_i8 {z : Int} (h1 : -128 ≤ z) (h2 : z < 128) : (Int8.ofInt z).toInt32 = Int32.ofInt z := by
  apply Int32.toInt_inj.mp
  rw [ax_ti ⟨by omega, by omega⟩, Int8.toInt_toInt32]
  exact Int8.toInt_ofInt_of_le (by omega) (by omega)
theorem ax_i16 {z : Int} (h1 : -32768 ≤ z) (h2 : z < 32768) : (Int16.ofInt z).toInt32 = Int32.ofInt z := by
  apply Int32.toInt_inj.mp
  rw [ax_ti ⟨by omega, by omega⟩, Int16.toInt_toInt32]
  exact Int16.toInt_ofInt_of_le (by omega) (by omega)
theorem ax_f4v {a : Nat} (h : a < 4) : ((ax_f4 a : Fin 4) : Nat) = a := by
  show a % 4 = a
  omega
theorem ax_blt {a b : Nat} (h : Nat.blt a b = true) : a < b := by simpa only [Nat.blt_eq] using h
theorem ax_s0 {d k i : Nat} {L st : List AV} {μ : Mem} {Q : AV → Mem → Prop} {a b c : Nat} {z : Int} {t : List (Int × Nat)} (hop : ax_ok k i (0, a, b, c, z, t) = true) (h : ax_SW d k (i + 1) L (xI z :: st) μ Q) : ax_SW d k i L st μ Q := by
  intro l D tc q p e s m args below meth cd A H locs ls C hP hD hS hl hL hst hμ
  have C0 := C
  obtain ⟨hk, hx, hb, hr, hml, hown, hts, hlk, hK, hKC, hA⟩ := C
  match a, hop with
  | 0, hop =>
    simp only [ax_ok, Bool.and_eq_true, decide_eq_true_eq] at hop
    obtain ⟨hd, hpc⟩ := ax_bs_dq hop.1.1
    have h9 := h l D tc q p e s m args below meth cd A H locs ls C0 hP hD hS hl hL (ax_cc ⟨by omega, by omega⟩ hst) hμ
    rw [hpc] at h9
    exact lv_iconst hx hb hd rfl h9
  | 1, hop =>
    simp only [ax_ok, Bool.and_eq_true, decide_eq_true_eq] at hop
    obtain ⟨hd, hpc⟩ := ax_bs_dq hop.1.1
    have h9 := h l D tc q p e s m args below meth cd A H locs ls C0 hP hD hS hl hL (ax_cc ⟨by omega, by omega⟩ hst) hμ
    rw [hpc] at h9
    exact lv_bipush hx hb hd (ax_i8 hop.1.2 hop.2) h9
  | 2, hop =>
    simp only [ax_ok, Bool.and_eq_true, decide_eq_true_eq] at hop
    obtain ⟨hd, hpc⟩ := ax_bs_dq hop.1.1
    have h9 := h l D tc q p e s m args below meth cd A H locs ls C0 hP hD hS hl hL (ax_cc ⟨by omega, by omega⟩ hst) hμ
    rw [hpc] at h9
    exact lv_sipush hx hb hd (ax_i16 hop.1.2 hop.2) h9
  | 3, hop =>
    simp only [ax_ok, Bool.and_eq_true, decide_eq_true_eq] at hop
    obtain ⟨hd, hpc⟩ := ax_bs_dq hop.1.1.1
    have h9 := h l D tc q p e s m args below meth cd A H locs ls C0 hP hD hS hl hL (ax_cc ⟨by omega, by omega⟩ hst) hμ
    rw [hpc] at h9
    exact lv_ldc hx hb hown (ax_wsm hts _ (ax_inM hop.1.1.2)) hd h9
  | a + 4, hop =>
    simp only [ax_ok, Bool.and_eq_true, decide_eq_true_eq] at hop
    obtain ⟨hd, hpc⟩ := ax_bs_dq hop.1.1.1
    have h9 := h l D tc q p e s m args below meth cd A H locs ls C0 hP hD hS hl hL (ax_cc ⟨by omega, by omega⟩ hst) hμ
    rw [hpc] at h9
    exact lv_ldcw hx hb hown (ax_wsm hts _ (ax_inM hop.1.1.2)) hd h9
theorem ax_s1 {d k i : Nat} {L st : List AV} {μ : Mem} {Q : AV → Mem → Prop} {a b c : Nat} {z : Int} {t : List (Int × Nat)} (hop : ax_ok k i (1, a, b, c, z, t) = true) (h : ax_SW d k (i + 1) L (xR b :: st) μ Q) : ax_SW d k i L st μ Q := by
  intro l D tc q p e s m args below meth cd A H locs ls C hP hD hS hl hL hst hμ
  have C0 := C
  obtain ⟨hk, hx, hb, hr, hml, hown, hts, hlk, hK, hKC, hA⟩ := C
  simp only [ax_ok, Bool.and_eq_true, decide_eq_true_eq] at hop
  obtain ⟨⟨⟨⟨hq, hb1⟩, hb2⟩, hc⟩, hi⟩ := hop
  obtain ⟨hd, hpc⟩ := ax_bs_dq hq
  have hb1 := Nat.le_of_ble_eq_true hb1
  have hb2 := ax_blt hb2
  have hi := Nat.eq_of_beq_eq_true hi
  have h9 := h l D tc q p e s m args below meth cd A H locs ls C0 hP hD hS hl hL (ax_cc trivial hst) hμ
  rw [hpc] at h9
  have h8 : W p l e (ax_rm d) s m args below meth cd H locs 0 0 (MQ below (ax_QC (ax_sd k) (ax_rk k) q tc D A Q) args s 0 0 A) (F0 m (ax_pc k i + 2) ls (.ref (q.1 b) :: st.map (ax_rv q))) := by
    have e1 : (xR b :: st).map (ax_rv q) = .ref (q.1 b) :: st.map (ax_rv q) := by rw [List.map_cons, ax_rvR (by omega)]
    rw [← e1]; exact h9
  have hZ := hKC.2.1 (b - 100) (by omega)
  rw [hi, show 100 + (b - 100) = b by omega] at hZ
  rw [hc] at hown
  exact va_ldcS hx hb hown hZ hd h8
theorem ax_s2 {d k i : Nat} {L st : List AV} {μ : Mem} {Q : AV → Mem → Prop} {a b c : Nat} {z : Int} {t : List (Int × Nat)} (hop : ax_ok k i (2, a, b, c, z, t) = true) (h : ax_SW d k (i + 1) L (xL z :: st) μ Q) : ax_SW d k i L st μ Q := by
  intro l D tc q p e s m args below meth cd A H locs ls C hP hD hS hl hL hst hμ
  have C0 := C
  obtain ⟨hk, hx, hb, hr, hml, hown, hts, hlk, hK, hKC, hA⟩ := C
  match a, hop with
  | 0, hop =>
    simp only [ax_ok, Bool.and_eq_true, decide_eq_true_eq] at hop
    obtain ⟨hd, hpc⟩ := ax_bs_dq hop.1
    obtain ⟨-, rfl⟩ := hop
    have h9 := h l D tc q p e s m args below meth cd A H locs ls C0 hP hD hS hl hL (ax_cc ⟨by decide, by decide⟩ hst) hμ
    rw [hpc] at h9
    exact lv_lconst hx hb hd rfl h9
  | a + 1, hop =>
    simp only [ax_ok, Bool.and_eq_true, decide_eq_true_eq] at hop
    obtain ⟨hd, hpc⟩ := ax_bs_dq hop.1.1.1
    have h9 := h l D tc q p e s m args below meth cd A H locs ls C0 hP hD hS hl hL (ax_cc ⟨by omega, by omega⟩ hst) hμ
    rw [hpc] at h9
    exact lv_ldc2 hx hb hown (ax_wsm hts _ (ax_inM hop.1.1.2)) hd h9
theorem ax_s3 {d k i : Nat} {L st : List AV} {μ : Mem} {Q : AV → Mem → Prop} {a b c : Nat} {z x : Int} {t : List (Int × Nat)} (hop : ax_ok k i (3, a, b, c, z, t) = true) (hx0 : L[a]? = some (.inl x)) (h : ax_SW d k (i + 1) L (xI x :: st) μ Q) : ax_SW d k i L st μ Q := by
  intro l D tc q p e s m args below meth cd A H locs ls C hP hD hS hl hL hst hμ
  have C0 := C
  obtain ⟨hk, hx, hb, hr, hml, hown, hts, hlk, hK, hKC, hA⟩ := C
  have hok : ax_okv (xI x) := hL _ (List.mem_of_getElem? hx0)
  have h9 := h l D tc q p e s m args below meth cd A H locs ls C0 hP hD hS hl hL (ax_cc hok hst) hμ
  have hv : ls[a]? = some (.val (.int (Int32.ofInt x))) := by
    rcases hl.2.2.2 a _ hx0 with ⟨z, e⟩ | e
    · cases e
    · exact e
  match b, hop with
  | 0, hop =>
    simp only [ax_ok, Bool.and_eq_true] at hop
    obtain ⟨hd, hpc⟩ := ax_bs_dq hop.1
    rw [hpc] at h9
    exact lv_iload_n hx hb hd (ax_f4v (ax_blt hop.2)) hv h9
  | b + 1, hop =>
    simp only [ax_ok] at hop
    obtain ⟨hd, hpc⟩ := ax_bs_dq hop
    rw [hpc] at h9
    exact lv_iload hx hb hd hv h9
theorem ax_s4 {d k i : Nat} {L st : List AV} {μ : Mem} {Q : AV → Mem → Prop} {a b c r : Nat} {z : Int} {t : List (Int × Nat)} (hop : ax_ok k i (4, a, b, c, z, t) = true) (hx0 : L[a]? = some (.inr (.inl r))) (hr0 : r ≠ 150) (h : ax_SW d k (i + 1) L (xR r :: st) μ Q) : ax_SW d k i L st μ Q := by
  intro l D tc q p e s m args below meth cd A H locs ls C hP hD hS hl hL hst hμ
  have C0 := C
  obtain ⟨hk, hx, hb, hr, hml, hown, hts, hlk, hK, hKC, hA⟩ := C
  have h9 := h l D tc q p e s m args below meth cd A H locs ls C0 hP hD hS hl hL (ax_cc trivial hst) hμ
  have hv : ls[a]? = some (.val (.ref (q.1 r))) := by
    rcases hl.2.2.2 a _ hx0 with ⟨z, e⟩ | e
    · cases e
    · rw [← ax_rvR hr0]; exact e
  rw [List.map_cons, ax_rvR hr0] at h9
  match b, hop with
  | 0, hop =>
    simp only [ax_ok, Bool.and_eq_true] at hop
    obtain ⟨hd, hpc⟩ := ax_bs_dq hop.1
    rw [hpc] at h9
    exact lv_aload_n hx hb hd (ax_f4v (ax_blt hop.2)) hv h9
  | b + 1, hop =>
    simp only [ax_ok] at hop
    obtain ⟨hd, hpc⟩ := ax_bs_dq hop
    rw [hpc] at h9
    exact lv_aload hx hb hd hv h9
theorem ax_s5 {d k i : Nat} {L st : List AV} {μ : Mem} {Q : AV → Mem → Prop} {a b c : Nat} {z x : Int} {t : List (Int × Nat)} (hop : ax_ok k i (5, a, b, c, z, t) = true) (ha : a < L.length) (h : ax_SW d k (i + 1) (L.set a (xI x)) st μ Q) : ax_SW d k i L (xI x :: st) μ Q := by
  intro l D tc q p e s m args below meth cd A H locs ls C hP hD hS hl hL hst hμ
  have C0 := C
  obtain ⟨hk, hx, hb, hr, hml, hown, hts, hlk, hK, hKC, hA⟩ := C
  have hok := (ax_c2 hst).1
  have g9 : ∀ ls' : Array Slot, lv_has ls' (ax_ml k) ((a, Value.int (Int32.ofInt x)) :: (ax_lp q L).filter (fun x => !(x.1 == a) && !(x.1 + 1 == a && x.2.category == 2))) → _ := fun ls' hl' => h l D tc q p e s m args below meth cd A H locs ls' C0 hP hD hS (ax_lp_set hKC.2.2.2.2.1 hl ha hl') (ax_set_ok hL hok) (ax_c2 hst).2 hμ
  have han : a < ax_ml k := by rw [← hl.2.1]; exact ha
  match b, hop with
  | 0, hop =>
    simp only [ax_ok, Bool.and_eq_true] at hop
    obtain ⟨hd, hpc⟩ := ax_bs_dq hop.1
    rw [hpc] at g9
    exact lv_istore_n hx hb hd (ax_f4v (ax_blt hop.2)) (ax_lp_has hl) han rfl g9
  | b + 1, hop =>
    simp only [ax_ok] at hop
    obtain ⟨hd, hpc⟩ := ax_bs_dq hop
    rw [hpc] at g9
    exact lv_istore hx hb hd (ax_lp_has hl) han rfl g9
theorem ax_s6 {d k i : Nat} {L st : List AV} {μ : Mem} {Q : AV → Mem → Prop} {a b c r : Nat} {z : Int} {t : List (Int × Nat)} (hop : ax_ok k i (6, a, b, c, z, t) = true) (ha : a < L.length) (hr0 : r ≠ 150) (h : ax_SW d k (i + 1) (L.set a (xR r)) st μ Q) : ax_SW d k i L (xR r :: st) μ Q := by
  intro l D tc q p e s m args below meth cd A H locs ls C hP hD hS hl hL hst hμ
  have C0 := C
  obtain ⟨hk, hx, hb, hr, hml, hown, hts, hlk, hK, hKC, hA⟩ := C
  have hok := (ax_c2 hst).1
  have g9 : ∀ ls' : Array Slot, lv_has ls' (ax_ml k) ((a, Value.ref (q.1 r)) :: (ax_lp q L).filter (fun x => !(x.1 == a) && !(x.1 + 1 == a && x.2.category == 2))) → _ := fun ls' hl' => h l D tc q p e s m args below meth cd A H locs ls' C0 hP hD hS (ax_lp_set (v := xR r) hKC.2.2.2.2.1 hl ha (by rw [ax_rvR hr0]; exact hl')) (ax_set_ok hL hok) (ax_c2 hst).2 hμ
  have han : a < ax_ml k := by rw [← hl.2.1]; exact ha
  rw [List.map_cons, ax_rvR hr0]
  match b, hop with
  | 0, hop =>
    simp only [ax_ok, Bool.and_eq_true] at hop
    obtain ⟨hd, hpc⟩ := ax_bs_dq hop.1
    rw [hpc] at g9
    exact lv_astore_n hx hb hd (ax_f4v (ax_blt hop.2)) (ax_lp_has hl) han rfl g9
  | b + 1, hop =>
    simp only [ax_ok] at hop
    obtain ⟨hd, hpc⟩ := ax_bs_dq hop
    rw [hpc] at g9
    exact lv_astore hx hb hd (ax_lp_has hl) han rfl g9
theorem ax_s7 {d k i : Nat} {L st : List AV} {μ : Mem} {Q : AV → Mem → Prop} {a b c : Nat} {z x : Int} {t : List (Int × Nat)} (hop : ax_ok k i (7, a, b, c, z, t) = true) (hx0 : L[a]? = some (.inl x)) (h : ax_SW d k (i + 1) (L.set a (xI (iw (x + z)))) st μ Q) : ax_SW d k i L st μ Q := by
  intro l D tc q p e s m args below meth cd A H locs ls C hP hD hS hl hL hst hμ
  have C0 := C
  obtain ⟨hk, hx, hb, hr, hml, hown, hts, hlk, hK, hKC, hA⟩ := C
  have hok : ax_r32 x := hL _ (List.mem_of_getElem? hx0)
  have ha : a < L.length := (List.getElem?_eq_some_iff.mp hx0).1
  have han : a < ax_ml k := by rw [← hl.2.1]; exact ha
  simp only [ax_ok] at hop
  obtain ⟨hd, hpc⟩ := ax_bs_dq hop
  have g9 : ∀ ls' : Array Slot, lv_has ls' (ax_ml k) ((a, Value.int (Int32.ofInt (iw (x + z)))) :: (ax_lp q L).filter (fun x => !(x.1 == a) && !(x.1 + 1 == a && x.2.category == 2))) → _ := fun ls' hl' => h l D tc q p e s m args below meth cd A H locs ls' C0 hP hD hS (ax_lp_set hKC.2.2.2.2.1 hl ha hl') (ax_set_ok hL (ax_iwr _)) hst hμ
  rw [hpc] at g9
  have hm : (a, Value.int (Int32.ofInt x)) ∈ ax_lp q L := List.mem_filterMap.mpr ⟨a, List.mem_range.mpr ha, by rw [hx0]; rfl⟩
  obtain ⟨kk, hkk⟩ := List.getElem?_of_mem hm
  have ev : Int32.ofInt x + Int32.ofInt z = Int32.ofInt (iw (x + z)) := by
    apply Int32.toInt_inj.mp
    rw [Int32.toInt_add, ax_ti hok, ax_ti (ax_iwr _), ax_iw, Int32.toInt_ofInt]
    exact Int.add_bmod_bmod
  exact lv_iinc hx hb hd (ax_lp_has hl) hkk ev han rfl g9
theorem ax_s8 {d k i : Nat} {L st : List AV} {μ : Mem} {Q : AV → Mem → Prop} {a b c : Nat} {z x y : Int} {t : List (Int × Nat)} (hop : ax_ok k i (8, a, b, c, z, t) = true) (h : ax_SW d k (i + 1) L (xI (iw (x + y)) :: st) μ Q) : ax_SW d k i L (xI y :: xI x :: st) μ Q := by
  intro l D tc q p e s m args below meth cd A H locs ls C hP hD hS hl hL hst hμ
  have C0 := C
  obtain ⟨hk, hx, hb, hr, hml, hown, hts, hlk, hK, hKC, hA⟩ := C
  simp only [ax_ok] at hop
  obtain ⟨hd, hpc⟩ := ax_bs_dq hop
  have hy : ax_r32 y := (ax_c2 hst).1
  have hx1 : ax_r32 x := (ax_c2 (ax_c2 hst).2).1
  have h9 := h l D tc q p e s m args below meth cd A H locs ls C0 hP hD hS hl hL (ax_cc (ax_iwr _) (ax_c2 (ax_c2 hst).2).2) hμ
  rw [hpc] at h9
  have ev : Int32.ofInt x + Int32.ofInt y = Int32.ofInt (iw (x + y)) := ax_add hx1 hy
  refine lv_iadd hx hb hd ?_
  rw [ev]
  exact h9
theorem ax_s9 {d k i : Nat} {L st : List AV} {μ : Mem} {Q : AV → Mem → Prop} {a b c : Nat} {z x y : Int} {t : List (Int × Nat)} (hop : ax_ok k i (9, a, b, c, z, t) = true) (h : ax_SW d k (i + 1) L (xI (iw (x - y)) :: st) μ Q) : ax_SW d k i L (xI y :: xI x :: st) μ Q := by
  intro l D tc q p e s m args below meth cd A H locs ls C hP hD hS hl hL hst hμ
  have C0 := C
  obtain ⟨hk, hx, hb, hr, hml, hown, hts, hlk, hK, hKC, hA⟩ := C
  simp only [ax_ok] at hop
  obtain ⟨hd, hpc⟩ := ax_bs_dq hop
  have hy : ax_r32 y := (ax_c2 hst).1
  have hx1 : ax_r32 x := (ax_c2 (ax_c2 hst).2).1
  have h9 := h l D tc q p e s m args below meth cd A H locs ls C0 hP hD hS hl hL (ax_cc (ax_iwr _) (ax_c2 (ax_c2 hst).2).2) hμ
  rw [hpc] at h9
  have ev : Int32.ofInt x - Int32.ofInt y = Int32.ofInt (iw (x - y)) := ax_sub hx1 hy
  refine lv_isub hx hb hd ?_
  rw [ev]
  exact h9
theorem ax_s10 {d k i : Nat} {L st : List AV} {μ : Mem} {Q : AV → Mem → Prop} {a b c : Nat} {z x y : Int} {t : List (Int × Nat)} (hop : ax_ok k i (10, a, b, c, z, t) = true) (h : ax_SW d k (i + 1) L (xI (iw (x * y)) :: st) μ Q) : ax_SW d k i L (xI y :: xI x :: st) μ Q := by
  intro l D tc q p e s m args below meth cd A H locs ls C hP hD hS hl hL hst hμ
  have C0 := C
  obtain ⟨hk, hx, hb, hr, hml, hown, hts, hlk, hK, hKC, hA⟩ := C
  simp only [ax_ok] at hop
  obtain ⟨hd, hpc⟩ := ax_bs_dq hop
  have hy : ax_r32 y := (ax_c2 hst).1
  have hx1 : ax_r32 x := (ax_c2 (ax_c2 hst).2).1
  have h9 := h l D tc q p e s m args below meth cd A H locs ls C0 hP hD hS hl hL (ax_cc (ax_iwr _) (ax_c2 (ax_c2 hst).2).2) hμ
  rw [hpc] at h9
  have ev : Int32.ofInt x * Int32.ofInt y = Int32.ofInt (iw (x * y)) := ax_mul hx1 hy
  refine lv_imul hx hb hd ?_
  rw [ev]
  exact h9
theorem ax_s13 {d k i : Nat} {L st : List AV} {μ : Mem} {Q : AV → Mem → Prop} {a b c : Nat} {z x y : Int} {t : List (Int × Nat)} (hop : ax_ok k i (13, a, b, c, z, t) = true) (h : ax_SW d k (i + 1) L (xI (xand x y) :: st) μ Q) : ax_SW d k i L (xI y :: xI x :: st) μ Q := by
  intro l D tc q p e s m args below meth cd A H locs ls C hP hD hS hl hL hst hμ
  have C0 := C
  obtain ⟨hk, hx, hb, hr, hml, hown, hts, hlk, hK, hKC, hA⟩ := C
  simp only [ax_ok] at hop
  obtain ⟨hd, hpc⟩ := ax_bs_dq hop
  have hy : ax_r32 y := (ax_c2 hst).1
  have hx1 : ax_r32 x := (ax_c2 (ax_c2 hst).2).1
  have h9 := h l D tc q p e s m args below meth cd A H locs ls C0 hP hD hS hl hL (ax_cc (ax_t32 _) (ax_c2 (ax_c2 hst).2).2) hμ
  rw [hpc] at h9
  have ev : Int32.ofInt x &&& Int32.ofInt y = Int32.ofInt (xand x y) := (Int32.ofInt_toInt _).symm
  refine lv_iand hx hb hd ?_
  rw [ev]
  exact h9
theorem ax_s14 {d k i : Nat} {L st : List AV} {μ : Mem} {Q : AV → Mem → Prop} {a b c : Nat} {z x y : Int} {t : List (Int × Nat)} (hop : ax_ok k i (14, a, b, c, z, t) = true) (h : ax_SW d k (i + 1) L (xI (xior x y) :: st) μ Q) : ax_SW d k i L (xI y :: xI x :: st) μ Q := by
  intro l D tc q p e s m args below meth cd A H locs ls C hP hD hS hl hL hst hμ
  have C0 := C
  obtain ⟨hk, hx, hb, hr, hml, hown, hts, hlk, hK, hKC, hA⟩ := C
  simp only [ax_ok] at hop
  obtain ⟨hd, hpc⟩ := ax_bs_dq hop
  have hy : ax_r32 y := (ax_c2 hst).1
  have hx1 : ax_r32 x := (ax_c2 (ax_c2 hst).2).1
  have h9 := h l D tc q p e s m args below meth cd A H locs ls C0 hP hD hS hl hL (ax_cc (ax_t32 _) (ax_c2 (ax_c2 hst).2).2) hμ
  rw [hpc] at h9
  have ev : Int32.ofInt x ||| Int32.ofInt y = Int32.ofInt (xior x y) := (Int32.ofInt_toInt _).symm
  refine lv_ior hx hb hd ?_
  rw [ev]
  exact h9
theorem ax_s15 {d k i : Nat} {L st : List AV} {μ : Mem} {Q : AV → Mem → Prop} {a b c : Nat} {z x y : Int} {t : List (Int × Nat)} (hop : ax_ok k i (15, a, b, c, z, t) = true) (h : ax_SW d k (i + 1) L (xI (xxor x y) :: st) μ Q) : ax_SW d k i L (xI y :: xI x :: st) μ Q := by
  intro l D tc q p e s m args below meth cd A H locs ls C hP hD hS hl hL hst hμ
  have C0 := C
  obtain ⟨hk, hx, hb, hr, hml, hown, hts, hlk, hK, hKC, hA⟩ := C
  simp only [ax_ok] at hop
  obtain ⟨hd, hpc⟩ := ax_bs_dq hop
  have hy : ax_r32 y := (ax_c2 hst).1
  have hx1 : ax_r32 x := (ax_c2 (ax_c2 hst).2).1
  have h9 := h l D tc q p e s m args below meth cd A H locs ls C0 hP hD hS hl hL (ax_cc (ax_t32 _) (ax_c2 (ax_c2 hst).2).2) hμ
  rw [hpc] at h9
  have ev : Int32.ofInt x ^^^ Int32.ofInt y = Int32.ofInt (xxor x y) := (Int32.ofInt_toInt _).symm
  refine lv_ixor hx hb hd ?_
  rw [ev]
  exact h9
theorem ax_s16 {d k i : Nat} {L st : List AV} {μ : Mem} {Q : AV → Mem → Prop} {a b c : Nat} {z x y : Int} {t : List (Int × Nat)} (hop : ax_ok k i (16, a, b, c, z, t) = true) (h : ax_SW d k (i + 1) L (xI (xshl x y) :: st) μ Q) : ax_SW d k i L (xI y :: xI x :: st) μ Q := by
  intro l D tc q p e s m args below meth cd A H locs ls C hP hD hS hl hL hst hμ
  have C0 := C
  obtain ⟨hk, hx, hb, hr, hml, hown, hts, hlk, hK, hKC, hA⟩ := C
  simp only [ax_ok] at hop
  obtain ⟨hd, hpc⟩ := ax_bs_dq hop
  have hy : ax_r32 y := (ax_c2 hst).1
  have hx1 : ax_r32 x := (ax_c2 (ax_c2 hst).2).1
  have h9 := h l D tc q p e s m args below meth cd A H locs ls C0 hP hD hS hl hL (ax_cc (ax_t32 _) (ax_c2 (ax_c2 hst).2).2) hμ
  rw [hpc] at h9
  have ev : Int32.ofInt x <<< (Int32.ofInt y &&& 31) = Int32.ofInt (xshl x y) := (Int32.ofInt_toInt _).symm
  refine lv_ishl hx hb hd ?_
  rw [ev]
  exact h9
theorem ax_s17 {d k i : Nat} {L st : List AV} {μ : Mem} {Q : AV → Mem → Prop} {a b c : Nat} {z x y : Int} {t : List (Int × Nat)} (hop : ax_ok k i (17, a, b, c, z, t) = true) (h : ax_SW d k (i + 1) L (xI (xshr x y) :: st) μ Q) : ax_SW d k i L (xI y :: xI x :: st) μ Q := by
  intro l D tc q p e s m args below meth cd A H locs ls C hP hD hS hl hL hst hμ
  have C0 := C
  obtain ⟨hk, hx, hb, hr, hml, hown, hts, hlk, hK, hKC, hA⟩ := C
  simp only [ax_ok] at hop
  obtain ⟨hd, hpc⟩ := ax_bs_dq hop
  have hy : ax_r32 y := (ax_c2 hst).1
  have hx1 : ax_r32 x := (ax_c2 (ax_c2 hst).2).1
  have h9 := h l D tc q p e s m args below meth cd A H locs ls C0 hP hD hS hl hL (ax_cc (ax_t32 _) (ax_c2 (ax_c2 hst).2).2) hμ
  rw [hpc] at h9
  have ev : Int32.ofInt x >>> (Int32.ofInt y &&& 31) = Int32.ofInt (xshr x y) := (Int32.ofInt_toInt _).symm
  refine lv_ishr hx hb hd ?_
  rw [ev]
  exact h9
theorem ax_s18 {d k i : Nat} {L st : List AV} {μ : Mem} {Q : AV → Mem → Prop} {a b c : Nat} {z x y : Int} {t : List (Int × Nat)} (hop : ax_ok k i (18, a, b, c, z, t) = true) (h : ax_SW d k (i + 1) L (xI (xushr x y) :: st) μ Q) : ax_SW d k i L (xI y :: xI x :: st) μ Q := by
  intro l D tc q p e s m args below meth cd A H locs ls C hP hD hS hl hL hst hμ
  have C0 := C
  obtain ⟨hk, hx, hb, hr, hml, hown, hts, hlk, hK, hKC, hA⟩ := C
  simp only [ax_ok] at hop
  obtain ⟨hd, hpc⟩ := ax_bs_dq hop
  have h9 := h l D tc q p e s m args below meth cd A H locs ls C0 hP hD hS hl hL (ax_cc (ax_t32 _) (ax_c2 (ax_c2 hst).2).2) hμ
  rw [hpc] at h9
  exact lv_iushr hx hb hd (Int32.ofInt_toInt _).symm h9
theorem ax_s11 {d k i : Nat} {L st : List AV} {μ : Mem} {Q : AV → Mem → Prop} {a b c : Nat} {z x y : Int} {t : List (Int × Nat)} (hop : ax_ok k i (11, a, b, c, z, t) = true) (hy0 : y ≠ 0) (h : ax_SW d k (i + 1) L (xI (xdiv x y) :: st) μ Q) : ax_SW d k i L (xI y :: xI x :: st) μ Q := by
  intro l D tc q p e s m args below meth cd A H locs ls C hP hD hS hl hL hst hμ
  have C0 := C
  obtain ⟨hk, hx, hb, hr, hml, hown, hts, hlk, hK, hKC, hA⟩ := C
  simp only [ax_ok] at hop
  obtain ⟨hd, hpc⟩ := ax_bs_dq hop
  have hy : ax_r32 y := (ax_c2 hst).1
  have hx1 : ax_r32 x := (ax_c2 (ax_c2 hst).2).1
  have h9 := h l D tc q p e s m args below meth cd A H locs ls C0 hP hD hS hl hL (ax_cc (ax_iwr _) (ax_c2 (ax_c2 hst).2).2) hμ
  rw [hpc] at h9
  have hne : ¬ Int32.ofInt y = 0 := fun z => hy0 ((ax_eqI hy ax_r0).mp z)
  refine lv_idiv hx hb hd hne ?_
  rw [ax_divE hx1 hy]
  exact h9
theorem ax_s12 {d k i : Nat} {L st : List AV} {μ : Mem} {Q : AV → Mem → Prop} {a b c : Nat} {z x y : Int} {t : List (Int × Nat)} (hop : ax_ok k i (12, a, b, c, z, t) = true) (hy0 : y ≠ 0) (h : ax_SW d k (i + 1) L (xI (xrem x y) :: st) μ Q) : ax_SW d k i L (xI y :: xI x :: st) μ Q := by
  intro l D tc q p e s m args below meth cd A H locs ls C hP hD hS hl hL hst hμ
  have C0 := C
  obtain ⟨hk, hx, hb, hr, hml, hown, hts, hlk, hK, hKC, hA⟩ := C
  simp only [ax_ok] at hop
  obtain ⟨hd, hpc⟩ := ax_bs_dq hop
  have hy : ax_r32 y := (ax_c2 hst).1
  have hx1 : ax_r32 x := (ax_c2 (ax_c2 hst).2).1
  have h9 := h l D tc q p e s m args below meth cd A H locs ls C0 hP hD hS hl hL (ax_cc (ax_remr hx1 hy hy0) (ax_c2 (ax_c2 hst).2).2) hμ
  rw [hpc] at h9
  have hne : ¬ Int32.ofInt y = 0 := fun z => hy0 ((ax_eqI hy ax_r0).mp z)
  refine lv_irem hx hb hd hne ?_
  rw [ax_remE hx1 hy hy0]
  exact h9
theorem ax_s19 {d k i : Nat} {L st : List AV} {μ : Mem} {Q : AV → Mem → Prop} {a b c : Nat} {z x : Int} {t : List (Int × Nat)} (hop : ax_ok k i (19, a, b, c, z, t) = true) (h : ax_SW d k (i + 1) L (xL x :: st) μ Q) : ax_SW d k i L (xI x :: st) μ Q := by
  intro l D tc q p e s m args below meth cd A H locs ls C hP hD hS hl hL hst hμ
  have C0 := C
  obtain ⟨hk, hx, hb, hr, hml, hown, hts, hlk, hK, hKC, hA⟩ := C
  simp only [ax_ok] at hop
  obtain ⟨hd, hpc⟩ := ax_bs_dq hop
  have hx1 : ax_r32 x := (ax_c2 hst).1
  have hx2 : ax_r64 x := by unfold ax_r32 ax_r64 at *; omega
  have h9 := h l D tc q p e s m args below meth cd A H locs ls C0 hP hD hS hl hL (ax_cc hx2 (ax_c2 hst).2) hμ
  rw [hpc] at h9
  have ev : (Int32.ofInt x).toInt64 = Int64.ofInt x := by
    apply Int64.toInt_inj.mp
    rw [ax_tl hx2, Int32.toInt_toInt64, ax_ti hx1]
  exact lv_i2l hx hb hd ev h9
theorem ax_s20 {d k i : Nat} {L st : List AV} {μ : Mem} {Q : AV → Mem → Prop} {a b c : Nat} {z x : Int} {t : List (Int × Nat)} (hop : ax_ok k i (20, a, b, c, z, t) = true) (h : ax_SW d k (i + 1) L (xI (xi2b x) :: st) μ Q) : ax_SW d k i L (xI x :: st) μ Q := by
  intro l D tc q p e s m args below meth cd A H locs ls C hP hD hS hl hL hst hμ
  have C0 := C
  obtain ⟨hk, hx, hb, hr, hml, hown, hts, hlk, hK, hKC, hA⟩ := C
  simp only [ax_ok] at hop
  obtain ⟨hd, hpc⟩ := ax_bs_dq hop
  have h9 := h l D tc q p e s m args below meth cd A H locs ls C0 hP hD hS hl hL (ax_cc (ax_t32 _) (ax_c2 hst).2) hμ
  rw [hpc] at h9
  exact lv_i2b hx hb hd (Int32.ofInt_toInt _).symm h9
theorem ax_s21 {d k i : Nat} {L st : List AV} {μ : Mem} {Q : AV → Mem → Prop} {a b c : Nat} {z x : Int} {t : List (Int × Nat)} (hop : ax_ok k i (21, a, b, c, z, t) = true) (h : ax_SW d k (i + 1) L (xI (xi2c x) :: st) μ Q) : ax_SW d k i L (xI x :: st) μ Q := by
  intro l D tc q p e s m args below meth cd A H locs ls C hP hD hS hl hL hst hμ
  have C0 := C
  obtain ⟨hk, hx, hb, hr, hml, hown, hts, hlk, hK, hKC, hA⟩ := C
  simp only [ax_ok] at hop
  obtain ⟨hd, hpc⟩ := ax_bs_dq hop
  have h9 := h l D tc q p e s m args below meth cd A H locs ls C0 hP hD hS hl hL (ax_cc (ax_t32 _) (ax_c2 hst).2) hμ
  rw [hpc] at h9
  exact lv_i2c hx hb hd (Int32.ofInt_toInt _).symm h9
theorem ax_s22 {d k i : Nat} {L st : List AV} {μ : Mem} {Q : AV → Mem → Prop} {a b c : Nat} {z x y : Int} {t : List (Int × Nat)} (hop : ax_ok k i (22, a, b, c, z, t) = true) (h : ax_SW d k (i + 1) L (xL (lw (x + y)) :: st) μ Q) : ax_SW d k i L (xL y :: xL x :: st) μ Q := by
  intro l D tc q p e s m args below meth cd A H locs ls C hP hD hS hl hL hst hμ
  have C0 := C
  obtain ⟨hk, hx, hb, hr, hml, hown, hts, hlk, hK, hKC, hA⟩ := C
  simp only [ax_ok] at hop
  obtain ⟨hd, hpc⟩ := ax_bs_dq hop
  have hy : ax_r64 y := (ax_c2 hst).1
  have hx1 : ax_r64 x := (ax_c2 (ax_c2 hst).2).1
  have h9 := h l D tc q p e s m args below meth cd A H locs ls C0 hP hD hS hl hL (ax_cc (ax_lwr _) (ax_c2 (ax_c2 hst).2).2) hμ
  rw [hpc] at h9
  refine lv_ladd hx hb hd ?_
  rw [ax_ladd hx1 hy]
  exact h9
theorem ax_s23 {d k i : Nat} {L st : List AV} {μ : Mem} {Q : AV → Mem → Prop} {a b c : Nat} {z x y : Int} {t : List (Int × Nat)} (hop : ax_ok k i (23, a, b, c, z, t) = true) (h : ax_SW d k (i + 1) L (xL (lw (x - y)) :: st) μ Q) : ax_SW d k i L (xL y :: xL x :: st) μ Q := by
  intro l D tc q p e s m args below meth cd A H locs ls C hP hD hS hl hL hst hμ
  have C0 := C
  obtain ⟨hk, hx, hb, hr, hml, hown, hts, hlk, hK, hKC, hA⟩ := C
  simp only [ax_ok] at hop
  obtain ⟨hd, hpc⟩ := ax_bs_dq hop
  have hy : ax_r64 y := (ax_c2 hst).1
  have hx1 : ax_r64 x := (ax_c2 (ax_c2 hst).2).1
  have h9 := h l D tc q p e s m args below meth cd A H locs ls C0 hP hD hS hl hL (ax_cc (ax_lwr _) (ax_c2 (ax_c2 hst).2).2) hμ
  rw [hpc] at h9
  refine lv_lsub hx hb hd ?_
  rw [ax_lsub hx1 hy]
  exact h9
theorem ax_s24 {d k i : Nat} {L st : List AV} {μ : Mem} {Q : AV → Mem → Prop} {a b c : Nat} {z x y : Int} {t : List (Int × Nat)} (hop : ax_ok k i (24, a, b, c, z, t) = true) (h : ax_SW d k (i + 1) L (xL (lw (x * y)) :: st) μ Q) : ax_SW d k i L (xL y :: xL x :: st) μ Q := by
  intro l D tc q p e s m args below meth cd A H locs ls C hP hD hS hl hL hst hμ
  have C0 := C
  obtain ⟨hk, hx, hb, hr, hml, hown, hts, hlk, hK, hKC, hA⟩ := C
  simp only [ax_ok] at hop
  obtain ⟨hd, hpc⟩ := ax_bs_dq hop
  have hy : ax_r64 y := (ax_c2 hst).1
  have hx1 : ax_r64 x := (ax_c2 (ax_c2 hst).2).1
  have h9 := h l D tc q p e s m args below meth cd A H locs ls C0 hP hD hS hl hL (ax_cc (ax_lwr _) (ax_c2 (ax_c2 hst).2).2) hμ
  rw [hpc] at h9
  refine lv_lmul hx hb hd ?_
  rw [ax_lmul hx1 hy]
  exact h9
theorem ax_s25 {d k i : Nat} {L st : List AV} {μ : Mem} {Q : AV → Mem → Prop} {a b c : Nat} {z x y : Int} {t : List (Int × Nat)} (hop : ax_ok k i (25, a, b, c, z, t) = true) (h : ax_SW d k (i + 1) L (xI (xcmp x y) :: st) μ Q) : ax_SW d k i L (xL y :: xL x :: st) μ Q := by
  intro l D tc q p e s m args below meth cd A H locs ls C hP hD hS hl hL hst hμ
  have C0 := C
  obtain ⟨hk, hx, hb, hr, hml, hown, hts, hlk, hK, hKC, hA⟩ := C
  simp only [ax_ok] at hop
  obtain ⟨hd, hpc⟩ := ax_bs_dq hop
  have hy : ax_r64 y := (ax_c2 hst).1
  have hx1 : ax_r64 x := (ax_c2 (ax_c2 hst).2).1
  have hc : ax_r32 (xcmp x y) := by unfold xcmp ax_r32; split <;> (try split) <;> omega
  have h9 := h l D tc q p e s m args below meth cd A H locs ls C0 hP hD hS hl hL (ax_cc hc (ax_c2 (ax_c2 hst).2).2) hμ
  rw [hpc] at h9
  refine W.lcmp hx hb hd ?_
  have ev : lg_cmp (Int64.ofInt x) (Int64.ofInt y) = Int32.ofInt (xcmp x y) := by
    unfold lg_cmp xcmp
    simp only [gt_iff_lt, Int64.lt_iff_toInt_lt, ← Int64.toInt_inj, ax_tl hx1, ax_tl hy]
    by_cases h1 : x < y
    · rw [if_neg (by omega), if_neg (by omega), if_pos h1]; rfl
    · by_cases h2 : x = y
      · rw [if_neg (by omega), if_pos h2, if_neg h1, if_pos h2]; rfl
      · rw [if_pos (by omega), if_neg h1, if_neg h2]; rfl
  rw [ev]
  exact h9
theorem ax_s26 {d k i : Nat} {L st : List AV} {μ : Mem} {Q : AV → Mem → Prop} {a b c : Nat} {z : Int} {t : List (Int × Nat)} {v : AV} (hv : ∀ z, v ≠ xL z) (hop : ax_ok k i (26, a, b, c, z, t) = true) (h : ax_SW d k (i + 1) L (v :: v :: st) μ Q) : ax_SW d k i L (v :: st) μ Q := by
  intro l D tc q p e s m args below meth cd A H locs ls C hP hD hS hl hL hst hμ
  have C0 := C
  obtain ⟨hk, hx, hb, hr, hml, hown, hts, hlk, hK, hKC, hA⟩ := C
  simp only [ax_ok] at hop
  obtain ⟨hd, hpc⟩ := ax_bs_dq hop
  have h9 := h l D tc q p e s m args below meth cd A H locs ls C0 hP hD hS hl hL (ax_cc (ax_c2 hst).1 hst) hμ
  rw [hpc] at h9
  exact lv_dup hx hb hd (ax_cat1 hKC.2.2.2.2.1 v hv) h9
theorem ax_s27 {d k i : Nat} {L st : List AV} {μ : Mem} {Q : AV → Mem → Prop} {a b c : Nat} {z : Int} {t : List (Int × Nat)} {v w : AV} (hv : ∀ z, v ≠ xL z) (hw : ∀ z, w ≠ xL z) (hop : ax_ok k i (27, a, b, c, z, t) = true) (h : ax_SW d k (i + 1) L (v :: w :: v :: w :: st) μ Q) : ax_SW d k i L (v :: w :: st) μ Q := by
  intro l D tc q p e s m args below meth cd A H locs ls C hP hD hS hl hL hst hμ
  have C0 := C
  obtain ⟨hk, hx, hb, hr, hml, hown, hts, hlk, hK, hKC, hA⟩ := C
  simp only [ax_ok] at hop
  obtain ⟨hd, hpc⟩ := ax_bs_dq hop
  have h9 := h l D tc q p e s m args below meth cd A H locs ls C0 hP hD hS hl hL (ax_cc (ax_c2 hst).1 (ax_cc (ax_c2 (ax_c2 hst).2).1 hst)) hμ
  rw [hpc] at h9
  exact lv_dup2_11 hx hb hd (ax_cat1 hKC.2.2.2.2.1 v hv) (ax_cat1 hKC.2.2.2.2.1 w hw) h9
theorem ax_s28 {d k i : Nat} {L st : List AV} {μ : Mem} {Q : AV → Mem → Prop} {a b c : Nat} {z : Int} {t : List (Int × Nat)} {v : AV} (hv : ∀ z, v ≠ xL z) (hop : ax_ok k i (28, a, b, c, z, t) = true) (h : ax_SW d k (i + 1) L st μ Q) : ax_SW d k i L (v :: st) μ Q := by
  intro l D tc q p e s m args below meth cd A H locs ls C hP hD hS hl hL hst hμ
  have C0 := C
  obtain ⟨hk, hx, hb, hr, hml, hown, hts, hlk, hK, hKC, hA⟩ := C
  simp only [ax_ok] at hop
  obtain ⟨hd, hpc⟩ := ax_bs_dq hop
  have h9 := h l D tc q p e s m args below meth cd A H locs ls C0 hP hD hS hl hL (ax_c2 hst).2 hμ
  rw [hpc] at h9
  exact lv_pop hx hb hd (ax_cat1 hKC.2.2.2.2.1 v hv) h9
theorem ax_s29 {d k i : Nat} {L st : List AV} {μ : Mem} {Q : AV → Mem → Prop} {a b c : Nat} {z x : Int} {t : List (Int × Nat)} (hop : ax_ok k i (29, a, b, c, z, t) = true) (h1 : x = 0 → ax_SW d k a L st μ Q) (h2 : ¬ x = 0 → ax_SW d k (i + 1) L st μ Q) : ax_SW d k i L (xI x :: st) μ Q := by
  intro l D tc q p e s m args below meth cd A H locs ls C hP hD hS hl hL hst hμ
  have C0 := C
  obtain ⟨hk, hx, hb, hr, hml, hown, hts, hlk, hK, hKC, hA⟩ := C
  simp only [ax_ok, Bool.and_eq_true] at hop
  obtain ⟨hd, hpc⟩ := ax_bs_dq hop.1
  have htg := ax_bs_tg hop.2
  have hx1 : ax_r32 x := (ax_c2 hst).1
  have ht := fun h => h1 h l D tc q p e s m args below meth cd A H locs ls C0 hP hD hS hl hL (ax_c2 hst).2 hμ
  have hf := fun h => h2 h l D tc q p e s m args below meth cd A H locs ls C0 hP hD hS hl hL (ax_c2 hst).2 hμ
  rw [hpc] at hf
  exact lv_if_eq hx hb hd htg (fun z => ht ((ax_eqI hx1 ax_r0).mp z)) (fun z => hf (fun w => z ((ax_eqI hx1 ax_r0).mpr w)))
theorem ax_s35 {d k i : Nat} {L st : List AV} {μ : Mem} {Q : AV → Mem → Prop} {a b c : Nat} {z x y : Int} {t : List (Int × Nat)} (hop : ax_ok k i (35, a, b, c, z, t) = true) (h1 : x = y → ax_SW d k a L st μ Q) (h2 : ¬ x = y → ax_SW d k (i + 1) L st μ Q) : ax_SW d k i L (xI y :: xI x :: st) μ Q := by
  intro l D tc q p e s m args below meth cd A H locs ls C hP hD hS hl hL hst hμ
  have C0 := C
  obtain ⟨hk, hx, hb, hr, hml, hown, hts, hlk, hK, hKC, hA⟩ := C
  simp only [ax_ok, Bool.and_eq_true] at hop
  obtain ⟨hd, hpc⟩ := ax_bs_dq hop.1
  have htg := ax_bs_tg hop.2
  have hy : ax_r32 y := (ax_c2 hst).1
  have hx1 : ax_r32 x := (ax_c2 (ax_c2 hst).2).1
  have ht := fun h => h1 h l D tc q p e s m args below meth cd A H locs ls C0 hP hD hS hl hL (ax_c2 (ax_c2 hst).2).2 hμ
  have hf := fun h => h2 h l D tc q p e s m args below meth cd A H locs ls C0 hP hD hS hl hL (ax_c2 (ax_c2 hst).2).2 hμ
  rw [hpc] at hf
  exact lv_icmp_eq hx hb hd htg (fun z => ht ((ax_eqI hx1 hy).mp z)) (fun z => hf (fun w => z ((ax_eqI hx1 hy).mpr w)))
theorem ax_s30 {d k i : Nat} {L st : List AV} {μ : Mem} {Q : AV → Mem → Prop} {a b c : Nat} {z x : Int} {t : List (Int × Nat)} (hop : ax_ok k i (30, a, b, c, z, t) = true) (h1 : ¬ x = 0 → ax_SW d k a L st μ Q) (h2 : x = 0 → ax_SW d k (i + 1) L st μ Q) : ax_SW d k i L (xI x :: st) μ Q := by
  intro l D tc q p e s m args below meth cd A H locs ls C hP hD hS hl hL hst hμ
  have C0 := C
  obtain ⟨hk, hx, hb, hr, hml, hown, hts, hlk, hK, hKC, hA⟩ := C
  simp only [ax_ok, Bool.and_eq_true] at hop
  obtain ⟨hd, hpc⟩ := ax_bs_dq hop.1
  have htg := ax_bs_tg hop.2
  have hx1 : ax_r32 x := (ax_c2 hst).1
  have ht := fun h => h1 h l D tc q p e s m args below meth cd A H locs ls C0 hP hD hS hl hL (ax_c2 hst).2 hμ
  have hf := fun h => h2 h l D tc q p e s m args below meth cd A H locs ls C0 hP hD hS hl hL (ax_c2 hst).2 hμ
  rw [hpc] at hf
  exact lv_if_ne hx hb hd htg (fun z => ht (fun w => z ((ax_eqI hx1 ax_r0).mpr w))) (fun z => hf ((ax_eqI hx1 ax_r0).mp z))
theorem ax_s36 {d k i : Nat} {L st : List AV} {μ : Mem} {Q : AV → Mem → Prop} {a b c : Nat} {z x y : Int} {t : List (Int × Nat)} (hop : ax_ok k i (36, a, b, c, z, t) = true) (h1 : ¬ x = y → ax_SW d k a L st μ Q) (h2 : x = y → ax_SW d k (i + 1) L st μ Q) : ax_SW d k i L (xI y :: xI x :: st) μ Q := by
  intro l D tc q p e s m args below meth cd A H locs ls C hP hD hS hl hL hst hμ
  have C0 := C
  obtain ⟨hk, hx, hb, hr, hml, hown, hts, hlk, hK, hKC, hA⟩ := C
  simp only [ax_ok, Bool.and_eq_true] at hop
  obtain ⟨hd, hpc⟩ := ax_bs_dq hop.1
  have htg := ax_bs_tg hop.2
  have hy : ax_r32 y := (ax_c2 hst).1
  have hx1 : ax_r32 x := (ax_c2 (ax_c2 hst).2).1
  have ht := fun h => h1 h l D tc q p e s m args below meth cd A H locs ls C0 hP hD hS hl hL (ax_c2 (ax_c2 hst).2).2 hμ
  have hf := fun h => h2 h l D tc q p e s m args below meth cd A H locs ls C0 hP hD hS hl hL (ax_c2 (ax_c2 hst).2).2 hμ
  rw [hpc] at hf
  exact lv_icmp_ne hx hb hd htg (fun z => ht (fun w => z ((ax_eqI hx1 hy).mpr w))) (fun z => hf ((ax_eqI hx1 hy).mp z))
theorem ax_s31 {d k i : Nat} {L st : List AV} {μ : Mem} {Q : AV → Mem → Prop} {a b c : Nat} {z x : Int} {t : List (Int × Nat)} (hop : ax_ok k i (31, a, b, c, z, t) = true) (h1 : x < 0 → ax_SW d k a L st μ Q) (h2 : ¬ x < 0 → ax_SW d k (i + 1) L st μ Q) : ax_SW d k i L (xI x :: st) μ Q := by
  intro l D tc q p e s m args below meth cd A H locs ls C hP hD hS hl hL hst hμ
  have C0 := C
  obtain ⟨hk, hx, hb, hr, hml, hown, hts, hlk, hK, hKC, hA⟩ := C
  simp only [ax_ok, Bool.and_eq_true] at hop
  obtain ⟨hd, hpc⟩ := ax_bs_dq hop.1
  have htg := ax_bs_tg hop.2
  have hx1 : ax_r32 x := (ax_c2 hst).1
  have ht := fun h => h1 h l D tc q p e s m args below meth cd A H locs ls C0 hP hD hS hl hL (ax_c2 hst).2 hμ
  have hf := fun h => h2 h l D tc q p e s m args below meth cd A H locs ls C0 hP hD hS hl hL (ax_c2 hst).2 hμ
  rw [hpc] at hf
  exact lv_if_lt hx hb hd htg (fun z => ht ((ax_ltI hx1 ax_r0).mp z)) (fun z => hf (fun w => z ((ax_ltI hx1 ax_r0).mpr w)))
theorem ax_s37 {d k i : Nat} {L st : List AV} {μ : Mem} {Q : AV → Mem → Prop} {a b c : Nat} {z x y : Int} {t : List (Int × Nat)} (hop : ax_ok k i (37, a, b, c, z, t) = true) (h1 : x < y → ax_SW d k a L st μ Q) (h2 : ¬ x < y → ax_SW d k (i + 1) L st μ Q) : ax_SW d k i L (xI y :: xI x :: st) μ Q := by
  intro l D tc q p e s m args below meth cd A H locs ls C hP hD hS hl hL hst hμ
  have C0 := C
  obtain ⟨hk, hx, hb, hr, hml, hown, hts, hlk, hK, hKC, hA⟩ := C
  simp only [ax_ok, Bool.and_eq_true] at hop
  obtain ⟨hd, hpc⟩ := ax_bs_dq hop.1
  have htg := ax_bs_tg hop.2
  have hy : ax_r32 y := (ax_c2 hst).1
  have hx1 : ax_r32 x := (ax_c2 (ax_c2 hst).2).1
  have ht := fun h => h1 h l D tc q p e s m args below meth cd A H locs ls C0 hP hD hS hl hL (ax_c2 (ax_c2 hst).2).2 hμ
  have hf := fun h => h2 h l D tc q p e s m args below meth cd A H locs ls C0 hP hD hS hl hL (ax_c2 (ax_c2 hst).2).2 hμ
  rw [hpc] at hf
  exact lv_icmp_lt hx hb hd htg (fun z => ht ((ax_ltI hx1 hy).mp z)) (fun z => hf (fun w => z ((ax_ltI hx1 hy).mpr w)))
theorem ax_s32 {d k i : Nat} {L st : List AV} {μ : Mem} {Q : AV → Mem → Prop} {a b c : Nat} {z x : Int} {t : List (Int × Nat)} (hop : ax_ok k i (32, a, b, c, z, t) = true) (h1 : ¬ x < 0 → ax_SW d k a L st μ Q) (h2 : x < 0 → ax_SW d k (i + 1) L st μ Q) : ax_SW d k i L (xI x :: st) μ Q := by
  intro l D tc q p e s m args below meth cd A H locs ls C hP hD hS hl hL hst hμ
  have C0 := C
  obtain ⟨hk, hx, hb, hr, hml, hown, hts, hlk, hK, hKC, hA⟩ := C
  simp only [ax_ok, Bool.and_eq_true] at hop
  obtain ⟨hd, hpc⟩ := ax_bs_dq hop.1
  have htg := ax_bs_tg hop.2
  have hx1 : ax_r32 x := (ax_c2 hst).1
  have ht := fun h => h1 h l D tc q p e s m args below meth cd A H locs ls C0 hP hD hS hl hL (ax_c2 hst).2 hμ
  have hf := fun h => h2 h l D tc q p e s m args below meth cd A H locs ls C0 hP hD hS hl hL (ax_c2 hst).2 hμ
  rw [hpc] at hf
  exact lv_if_ge hx hb hd htg (fun z => ht (by have := (ax_leI ax_r0 hx1).mp z; omega)) (fun z => hf (Int.not_le.mp (fun w => z ((ax_leI ax_r0 hx1).mpr w))))
theorem ax_s38 {d k i : Nat} {L st : List AV} {μ : Mem} {Q : AV → Mem → Prop} {a b c : Nat} {z x y : Int} {t : List (Int × Nat)} (hop : ax_ok k i (38, a, b, c, z, t) = true) (h1 : ¬ x < y → ax_SW d k a L st μ Q) (h2 : x < y → ax_SW d k (i + 1) L st μ Q) : ax_SW d k i L (xI y :: xI x :: st) μ Q := by
  intro l D tc q p e s m args below meth cd A H locs ls C hP hD hS hl hL hst hμ
  have C0 := C
  obtain ⟨hk, hx, hb, hr, hml, hown, hts, hlk, hK, hKC, hA⟩ := C
  simp only [ax_ok, Bool.and_eq_true] at hop
  obtain ⟨hd, hpc⟩ := ax_bs_dq hop.1
  have htg := ax_bs_tg hop.2
  have hy : ax_r32 y := (ax_c2 hst).1
  have hx1 : ax_r32 x := (ax_c2 (ax_c2 hst).2).1
  have ht := fun h => h1 h l D tc q p e s m args below meth cd A H locs ls C0 hP hD hS hl hL (ax_c2 (ax_c2 hst).2).2 hμ
  have hf := fun h => h2 h l D tc q p e s m args below meth cd A H locs ls C0 hP hD hS hl hL (ax_c2 (ax_c2 hst).2).2 hμ
  rw [hpc] at hf
  exact lv_icmp_ge hx hb hd htg (fun z => ht (by have := (ax_leI hy hx1).mp z; omega)) (fun z => hf (Int.not_le.mp (fun w => z ((ax_leI hy hx1).mpr w))))
theorem ax_s33 {d k i : Nat} {L st : List AV} {μ : Mem} {Q : AV → Mem → Prop} {a b c : Nat} {z x : Int} {t : List (Int × Nat)} (hop : ax_ok k i (33, a, b, c, z, t) = true) (h1 : 0 < x → ax_SW d k a L st μ Q) (h2 : ¬ 0 < x → ax_SW d k (i + 1) L st μ Q) : ax_SW d k i L (xI x :: st) μ Q := by
  intro l D tc q p e s m args below meth cd A H locs ls C hP hD hS hl hL hst hμ
  have C0 := C
  obtain ⟨hk, hx, hb, hr, hml, hown, hts, hlk, hK, hKC, hA⟩ := C
  simp only [ax_ok, Bool.and_eq_true] at hop
  obtain ⟨hd, hpc⟩ := ax_bs_dq hop.1
  have htg := ax_bs_tg hop.2
  have hx1 : ax_r32 x := (ax_c2 hst).1
  have ht := fun h => h1 h l D tc q p e s m args below meth cd A H locs ls C0 hP hD hS hl hL (ax_c2 hst).2 hμ
  have hf := fun h => h2 h l D tc q p e s m args below meth cd A H locs ls C0 hP hD hS hl hL (ax_c2 hst).2 hμ
  rw [hpc] at hf
  exact lv_if_gt hx hb hd htg (fun z => ht ((ax_ltI ax_r0 hx1).mp z)) (fun z => hf (fun w => z ((ax_ltI ax_r0 hx1).mpr w)))
theorem ax_s39 {d k i : Nat} {L st : List AV} {μ : Mem} {Q : AV → Mem → Prop} {a b c : Nat} {z x y : Int} {t : List (Int × Nat)} (hop : ax_ok k i (39, a, b, c, z, t) = true) (h1 : y < x → ax_SW d k a L st μ Q) (h2 : ¬ y < x → ax_SW d k (i + 1) L st μ Q) : ax_SW d k i L (xI y :: xI x :: st) μ Q := by
  intro l D tc q p e s m args below meth cd A H locs ls C hP hD hS hl hL hst hμ
  have C0 := C
  obtain ⟨hk, hx, hb, hr, hml, hown, hts, hlk, hK, hKC, hA⟩ := C
  simp only [ax_ok, Bool.and_eq_true] at hop
  obtain ⟨hd, hpc⟩ := ax_bs_dq hop.1
  have htg := ax_bs_tg hop.2
  have hy : ax_r32 y := (ax_c2 hst).1
  have hx1 : ax_r32 x := (ax_c2 (ax_c2 hst).2).1
  have ht := fun h => h1 h l D tc q p e s m args below meth cd A H locs ls C0 hP hD hS hl hL (ax_c2 (ax_c2 hst).2).2 hμ
  have hf := fun h => h2 h l D tc q p e s m args below meth cd A H locs ls C0 hP hD hS hl hL (ax_c2 (ax_c2 hst).2).2 hμ
  rw [hpc] at hf
  exact lv_icmp_gt hx hb hd htg (fun z => ht ((ax_ltI hy hx1).mp z)) (fun z => hf (fun w => z ((ax_ltI hy hx1).mpr w)))
theorem ax_s34 {d k i : Nat} {L st : List AV} {μ : Mem} {Q : AV → Mem → Prop} {a b c : Nat} {z x : Int} {t : List (Int × Nat)} (hop : ax_ok k i (34, a, b, c, z, t) = true) (h1 : ¬ 0 < x → ax_SW d k a L st μ Q) (h2 : 0 < x → ax_SW d k (i + 1) L st μ Q) : ax_SW d k i L (xI x :: st) μ Q := by
  intro l D tc q p e s m args below meth cd A H locs ls C hP hD hS hl hL hst hμ
  have C0 := C
  obtain ⟨hk, hx, hb, hr, hml, hown, hts, hlk, hK, hKC, hA⟩ := C
  simp only [ax_ok, Bool.and_eq_true] at hop
  obtain ⟨hd, hpc⟩ := ax_bs_dq hop.1
  have htg := ax_bs_tg hop.2
  have hx1 : ax_r32 x := (ax_c2 hst).1
  have ht := fun h => h1 h l D tc q p e s m args below meth cd A H locs ls C0 hP hD hS hl hL (ax_c2 hst).2 hμ
  have hf := fun h => h2 h l D tc q p e s m args below meth cd A H locs ls C0 hP hD hS hl hL (ax_c2 hst).2 hμ
  rw [hpc] at hf
  exact lv_if_le hx hb hd htg (fun z => ht (by have := (ax_leI hx1 ax_r0).mp z; omega)) (fun z => hf (Int.not_le.mp (fun w => z ((ax_leI hx1 ax_r0).mpr w))))
theorem ax_s40 {d k i : Nat} {L st : List AV} {μ : Mem} {Q : AV → Mem → Prop} {a b c : Nat} {z x y : Int} {t : List (Int × Nat)} (hop : ax_ok k i (40, a, b, c, z, t) = true) (h1 : ¬ y < x → ax_SW d k a L st μ Q) (h2 : y < x → ax_SW d k (i + 1) L st μ Q) : ax_SW d k i L (xI y :: xI x :: st) μ Q := by
  intro l D tc q p e s m args below meth cd A H locs ls C hP hD hS hl hL hst hμ
  have C0 := C
  obtain ⟨hk, hx, hb, hr, hml, hown, hts, hlk, hK, hKC, hA⟩ := C
  simp only [ax_ok, Bool.and_eq_true] at hop
  obtain ⟨hd, hpc⟩ := ax_bs_dq hop.1
  have htg := ax_bs_tg hop.2
  have hy : ax_r32 y := (ax_c2 hst).1
  have hx1 : ax_r32 x := (ax_c2 (ax_c2 hst).2).1
  have ht := fun h => h1 h l D tc q p e s m args below meth cd A H locs ls C0 hP hD hS hl hL (ax_c2 (ax_c2 hst).2).2 hμ
  have hf := fun h => h2 h l D tc q p e s m args below meth cd A H locs ls C0 hP hD hS hl hL (ax_c2 (ax_c2 hst).2).2 hμ
  rw [hpc] at hf
  exact lv_icmp_le hx hb hd htg (fun z => ht (by have := (ax_leI hx1 hy).mp z; omega)) (fun z => hf (Int.not_le.mp (fun w => z ((ax_leI hx1 hy).mpr w))))
theorem ax_s41 {d k i : Nat} {L st : List AV} {μ : Mem} {Q : AV → Mem → Prop} {a b c : Nat} {z : Int} {t : List (Int × Nat)} (hop : ax_ok k i (41, a, b, c, z, t) = true) (h : ax_SW d k a L st μ Q) : ax_SW d k i L st μ Q := by
  intro l D tc q p e s m args below meth cd A H locs ls C hP hD hS hl hL hst hμ
  have C0 := C
  obtain ⟨hk, hx, hb, hr, hml, hown, hts, hlk, hK, hKC, hA⟩ := C
  simp only [ax_ok, Bool.and_eq_true] at hop
  have h9 := h l D tc q p e s m args below meth cd A H locs ls C0 hP hD hS hl hL hst hμ
  exact lv_goto hx hb (ax_bs_d1 hop.1) (ax_bs_tg hop.2) h9
theorem ax_s59 {d k i : Nat} {L st : List AV} {μ : Mem} {Q : AV → Mem → Prop} {a b c : Nat} {z : Int} {t : List (Int × Nat)} (hop : ax_ok k i (59, a, b, c, z, t) = true) (h : ax_SW d k (i + 1) L st μ Q) : ax_SW d k i L st μ Q := by
  intro l D tc q p e s m args below meth cd A H locs ls C hP hD hS hl hL hst hμ
  have C0 := C
  obtain ⟨hk, hx, hb, hr, hml, hown, hts, hlk, hK, hKC, hA⟩ := C
  simp only [ax_ok, Bool.and_eq_true] at hop
  have h9 := h l D tc q p e s m args below meth cd A H locs ls C0 hP hD hS hl hL hst hμ
  rw [Nat.eq_of_beq_eq_true hop.1] at h9
  exact h9
