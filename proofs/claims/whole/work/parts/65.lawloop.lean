/-! the law's loop -/
def lw_I (s : State) (q : (Nat → Nat) × Value) (tc : Nat → ClassId) (D : va_G) (α : Al) (μ ν : Mem) (H : Heap) (locs : List Loc) : Prop :=
  wf α ∧ vX μ α ∧ CI μ α ∧ vM ν α ∧ ax_okm μ ∧ ax_okm ν ∧ va_P D ax_cl (ax_wd (0, 61) q tc μ) H ∧ va_P D ax_cl (ax_wd (61, 14) q tc ν) H ∧ va_D (lw_N s) (ax_wd (0, 61) q tc μ) ∧ va_D (lw_N s) (ax_wd (61, 14) q tc ν) ∧ va_S (lw_N s) s.heap H locs
def lw_kc (k r a n iL iI iS iC : Nat) (sd : Nat × Nat) : Bool := Nat.blt k ax_K && ax_in iL (.methodLink R_law a (ax_y k)) && ax_in iI (.instanceMethod (ax_y k)) && ax_in iS (.selects (ax_y k).cls (ax_y k) (ax_y k)) && ax_in iC (.initialized (ax_y k).cls) && decide ((parseMethodDescriptor (ax_y k).desc).map (fun d => d.parameters.length) = some n) && decide (ax_cd r = (0, ax_mciL.getD k 99, (ax_cd r).2.2)) && decide (ax_sd k = sd) && Nat.beq (ax_rk k) 1 && ax_inS k r
def lw_ar (pc j : Nat) : Bool := decide (decode code pc = .ok (.aload_n 0, 1)) && decide (decode code (pc + 1) = .ok (.iload_n 3, 1)) && decide (decode code (pc + 2) = .ok (.iconst (j : Int), 1)) && decide (decode code (pc + 3) = .ok (.iadd, 1)) && decide (decode code (pc + 4) = .ok (.iaload, 1))
theorem lw_nj : ∀ j : Nat, j < 4 → Int32.ofInt (j : Int) = nI j := by decide +kernel
theorem lw_arg {p : Program} {l : Launch} {e : Env} {s : State} {m : MethodId} {below : List Frame} {meth : Method} {c : Code} {b L : Nat} {xs : Nat → Int32} {q : (Nat → Nat) × Value} {tc : Nat → ClassId} {D : va_G} (C : lw_E p s m meth c b L xs q tc D) (hL : L ≤ 256) {H : Heap} {locs : List Loc} {cells slots pc i j : Nat} {ls : Array Slot} {st : List Value} {Qf : State → Prop} (hS : va_S (lw_N s) s.heap H locs) (hl : lv_has ls 4 [(3, .int (nI i)), (0, .ref b), (1, .ref (q.1 0)), (2, .ref (q.1 61))]) (hj : j < 4) (hi : i + j < L) (hr : lw_ar pc j = true)
    (h : W p l e room_1 s m #[Value.ref b] below meth c H locs cells slots Qf (F0 m (pc + 5) ls (.int (xs (i + j)) :: st))) : W p l e room_1 s m #[Value.ref b] below meth c H locs cells slots Qf (F0 m pc ls st) := by
  obtain ⟨hx, hb, -, hml, hown, hts, hX, hbl, hlk, hK, hKC, hinj⟩ := C
  simp only [lw_ar, Bool.and_eq_true, decide_eq_true_eq] at hr
  obtain ⟨⟨⟨⟨r1, r2⟩, r3⟩, r4⟩, r5⟩ := hr
  refine lv_aload_n hx hb r1 rfl (lv_at hl 1 rfl) ?_
  refine lv_iload_n hx hb r2 rfl (lv_at hl 0 rfl) ?_
  refine lv_iconst hx hb r3 (lw_nj j hj) ?_
  refine lv_iadd hx hb r4 ?_
  rw [nI_add]
  refine va_sld hx hb hX hbl (fun w => Nat.lt_irrefl _ (Nat.lt_of_lt_of_le hbl w)) hS (vp_in_nI hi (by omega)) r5 ?_
  rw [nI_clamp (show i + j < 2 ^ 31 by omega)]
  exact h
theorem lw_rk {k : Nat} {q : (Nat → Nat) × Value} {r : Int} (h : ax_rk k = 1) : (ax_rvo (ax_rk k) q (xI r)).toList = [Value.int (Int32.ofInt r)] := by
  rw [h]; rfl
theorem lw_asq {q : (Nat → Nat) × Value} : ∀ (as : List Int32), ((as.map (fun x => xI x.toInt)).map (ax_rv q)) = as.map Value.int
  | [] => rfl
  | x :: as => by
    rw [List.map_cons, List.map_cons, List.map_cons, lw_asq as]
    show Value.int (Int32.ofInt x.toInt) :: _ = _
    rw [Int32.ofInt_toInt]
theorem lw_aok (as : List Int32) : ∀ v ∈ as.map (fun x => xI x.toInt), ax_okv v := fun v hv => by
  obtain ⟨x, -, rfl⟩ := List.mem_map.mp hv
  exact ax_t32 x
def lw_rw (base n aX aM : Nat) (off : Int) : Bool := decide (decode code base = .ok (.aload_n 1, 1)) && decide (decode code (base + 1 + 5 * n) = .ok (.invokevirtual aX, 3)) && decide (decode code (base + 1 + 5 * n + 3) = .ok (.aload_n 2, 1)) && decide (decode code (base + 1 + 5 * n + 3 + 1 + 5 * n) = .ok (.invokevirtual aM, 3)) && decide (decode code (base + 1 + 5 * n + 3 + 1 + 5 * n + 3) = .ok (.if_icmp .eq off, 3)) && decide (((base + 1 + 5 * n + 3 + 1 + 5 * n + 3 : Nat) : Int) + off = 901)
theorem lw_case {p : Program} {l : Launch} {e : Env} {s : State} {m : MethodId} {below : List Frame} {meth : Method} {c : Code} {b L : Nat} {xs : Nat → Int32} {q : (Nat → Nat) × Value} {tc : Nat → ClassId} {D : va_G} (C : lw_E p s m meth c b L xs q tc D) {H : Heap} {locs : List Loc} {cells slots i : Nat} {ls : Array Slot} {Qf : State → Prop} {α : Al} {μ ν : Mem} (hcs : cells ≤ 600000 ∧ slots ≤ 7302250) (hI : lw_I s q tc D α μ ν H locs) (hl : lv_has ls 4 [(3, .int (nI i)), (0, .ref b), (1, .ref (q.1 0)), (2, .ref (q.1 61))])
    {kX kM aX aM n base : Nat} {off : Int} {as : List Int32} {iL iI iS iC jL jI jS jC : Nat} (hX : lw_kc kX 0 aX n iL iI iS iC (0, 61) = true) (hM : lw_kc kM 61 aM n jL jI jS jC (61, 14) = true) (hr : lw_rw base n aX aM off = true) (hn : as.length = n)
    (hop : opS kX kM (as.map (fun x => xI x.toInt)) α)
    (hpush : ∀ (H : Heap) (locs : List Loc) (pc : Nat) (st : List Value), va_S (lw_N s) s.heap H locs → (pc = base + 1 ∨ pc = base + 1 + 5 * n + 3 + 1) → W p l e room_1 s m #[Value.ref b] below meth c H locs cells slots Qf (F0 m (pc + 5 * n) ls ((as.map Value.int).reverse ++ st)) → W p l e room_1 s m #[Value.ref b] below meth c H locs cells slots Qf (F0 m pc ls st))
    (hk : ∀ (β : Al) (μ' ν' : Mem) (H1 : Heap) (locs1 : List Loc), lw_I s q tc D β μ' ν' H1 locs1 → W p l e room_1 s m #[Value.ref b] below meth c H1 locs1 cells slots Qf (F0 m 901 ls [])) :
    W p l e room_1 s m #[Value.ref b] below meth c H locs cells slots Qf (F0 m base ls []) := by
  have C0 := C
  obtain ⟨hx, hb, -, hml, hown, hts, -, hbl, hlk, hK, hKC, hinj⟩ := C
  obtain ⟨i1, i2, i3, i4, i5, i6, i7, i8, i9, i10, i11⟩ := hI
  simp only [lw_kc, Bool.and_eq_true, decide_eq_true_eq] at hX hM
  simp only [lw_rw, Bool.and_eq_true, decide_eq_true_eq] at hr
  obtain ⟨⟨⟨⟨⟨⟨⟨⟨⟨x1, x2⟩, x3⟩, x4⟩, x5⟩, x6⟩, x7⟩, x8⟩, x9⟩, x10⟩ := hX
  obtain ⟨⟨⟨⟨⟨⟨⟨⟨⟨m1, m2⟩, m3⟩, m4⟩, m5⟩, m6⟩, m7⟩, m8⟩, m9⟩, m10⟩ := hM
  obtain ⟨⟨⟨⟨⟨r1, r2⟩, r3⟩, r4⟩, r5⟩, r6⟩ := hr
  obtain ⟨r, β, hβ, oX, oM⟩ := hop
  refine lv_aload_n hx hb r1 rfl (lv_at hl 2 rfl) ?_
  refine hpush H locs _ _ i11 (Or.inl rfl) ?_
  rw [← lw_asq (q := q) as]
  refine lw_call (Q' := fun v μ' => v = xI r ∧ vX μ' β ∧ CI μ' β) C0 hcs (by rw [x8]; exact i7) (by rw [x8]; exact i9) i11 i5 (ax_blt x1) (ax_inM x2) (ax_inM x3) (ax_inM x4) (ax_inM x5) x6 (by rw [List.length_map]; exact hn) x10 ⟨_, x7⟩ hl.1 (Nat.zero_le _) (Nat.le_refl _) (oX μ _ i2 i3 (fun μ' a1 a2 => ⟨rfl, a1, a2⟩)) (lw_aok as) r2 (fun v μ' H1 locs1 hQ hv hm hP1 hD1 hS1 hz hfr => ?_)
  obtain ⟨rfl, v1, v2⟩ := hQ
  rw [x8] at hP1 hD1 hfr
  have i8' := lw_keep (sd := (61, 14)) (sd' := (0, 61)) hinj (by decide) (by decide) (by decide) i8 hfr
  rw [lw_rk (Nat.eq_of_beq_eq_true x9)]
  refine lv_aload_n hx hb r3 rfl (lv_at hl 3 rfl) ?_
  refine hpush H1 locs1 _ _ hS1 (Or.inr rfl) ?_
  rw [← lw_asq (q := q) as]
  refine lw_call (Q' := fun v ν' => v = xI r ∧ vM ν' β) C0 hcs (by rw [m8]; exact i8') (by rw [m8]; exact i10) hS1 i6 (ax_blt m1) (ax_inM m2) (ax_inM m3) (ax_inM m4) (ax_inM m5) m6 (by rw [List.length_map]; exact hn) m10 ⟨_, m7⟩ hl.1 (Nat.le_of_ble_eq_true rfl) (Nat.le_refl _) (oM ν _ i4 (fun ν' a1 => ⟨rfl, a1⟩)) (lw_aok as) r4 (fun v ν' H2 locs2 hQ hv2 hm2 hP2 hD2 hS2 hz2 hfr2 => ?_)
  obtain ⟨rfl, v3⟩ := hQ
  rw [m8] at hP2 hD2 hfr2
  have hP1' := lw_keep (sd := (0, 61)) (sd' := (61, 14)) hinj (by decide) (by decide) (by decide) hP1 hfr2
  rw [lw_rk (Nat.eq_of_beq_eq_true m9)]
  refine lv_icmp_eq (tgt := 901) hx hb r5 r6 (fun _ => hk β μ' ν' H2 locs2 ⟨hβ, v1, v2, v3, hm, hm2, hP1', hP2, hD1, hD2, hS2⟩) (fun hne => absurd rfl hne)

theorem lw_case0 {p : Program} {l : Launch} {e : Env} {s : State} {m : MethodId} {below : List Frame} {meth : Method} {c : Code} {b L : Nat} {xs : Nat → Int32} {q : (Nat → Nat) × Value} {tc : Nat → ClassId} {D : va_G} (C : lw_E p s m meth c b L xs q tc D) (hL : L ≤ 256) {H : Heap} {locs : List Loc} {cells slots i : Nat} {ls : Array Slot} {Qf : State → Prop} {α : Al} {μ ν : Mem} (hcs : cells ≤ 600000 ∧ slots ≤ 7302250) (hI : lw_I s q tc D α μ ν H locs) (hl : lv_has ls 4 [(3, .int (nI i)), (0, .ref b), (1, .ref (q.1 0)), (2, .ref (q.1 61))]) (hi : i + 3 < L)
    (hk : ∀ (β : Al) (μ' ν' : Mem) (H1 : Heap) (locs1 : List Loc), lw_I s q tc D β μ' ν' H1 locs1 → W p l e room_1 s m #[Value.ref b] below meth c H1 locs1 cells slots Qf (F0 m 901 ls []))
    {kX kM aX aM : Nat} (base : Nat) {off : Int} {iL iI iS iC jL jI jS jC : Nat} (hX : lw_kc kX 0 aX 0 iL iI iS iC (0, 61) = true) (hM : lw_kc kM 61 aM 0 jL jI jS jC (61, 14) = true) (hr : lw_rw base 0 aX aM off = true) 
    (hop : opS kX kM [] α) :
    W p l e room_1 s m #[Value.ref b] below meth c H locs cells slots Qf (F0 m base ls []) :=
  lw_case C hcs hI hl (as := []) hX hM hr rfl hop (fun H locs pc st hS hp w => by
    rcases hp with rfl | rfl
    · exact w
    · exact w) hk
theorem lw_case1 {p : Program} {l : Launch} {e : Env} {s : State} {m : MethodId} {below : List Frame} {meth : Method} {c : Code} {b L : Nat} {xs : Nat → Int32} {q : (Nat → Nat) × Value} {tc : Nat → ClassId} {D : va_G} (C : lw_E p s m meth c b L xs q tc D) (hL : L ≤ 256) {H : Heap} {locs : List Loc} {cells slots i : Nat} {ls : Array Slot} {Qf : State → Prop} {α : Al} {μ ν : Mem} (hcs : cells ≤ 600000 ∧ slots ≤ 7302250) (hI : lw_I s q tc D α μ ν H locs) (hl : lv_has ls 4 [(3, .int (nI i)), (0, .ref b), (1, .ref (q.1 0)), (2, .ref (q.1 61))]) (hi : i + 3 < L)
    (hk : ∀ (β : Al) (μ' ν' : Mem) (H1 : Heap) (locs1 : List Loc), lw_I s q tc D β μ' ν' H1 locs1 → W p l e room_1 s m #[Value.ref b] below meth c H1 locs1 cells slots Qf (F0 m 901 ls []))
    {kX kM aX aM : Nat} (base : Nat) {off : Int} {iL iI iS iC jL jI jS jC : Nat} (hX : lw_kc kX 0 aX 1 iL iI iS iC (0, 61) = true) (hM : lw_kc kM 61 aM 1 jL jI jS jC (61, 14) = true) (hr : lw_rw base 1 aX aM off = true) (a0 : lw_ar (base + 1 + 5 * 0) 1 = true) (b0 : lw_ar (base + 1 + 5 * 1 + 3 + 1 + 5 * 0) 1 = true)
    (hop : opS kX kM [xI (xs (i + 1)).toInt] α) :
    W p l e room_1 s m #[Value.ref b] below meth c H locs cells slots Qf (F0 m base ls []) :=
  lw_case C hcs hI hl (as := [xs (i + 1)]) hX hM hr rfl hop (fun H locs pc st hS hp w => by
    rcases hp with rfl | rfl
    · exact lw_arg C hL hS hl (j := 1) (by decide) (by omega) a0 (w)
    · exact lw_arg C hL hS hl (j := 1) (by decide) (by omega) b0 (w)) hk
theorem lw_case2 {p : Program} {l : Launch} {e : Env} {s : State} {m : MethodId} {below : List Frame} {meth : Method} {c : Code} {b L : Nat} {xs : Nat → Int32} {q : (Nat → Nat) × Value} {tc : Nat → ClassId} {D : va_G} (C : lw_E p s m meth c b L xs q tc D) (hL : L ≤ 256) {H : Heap} {locs : List Loc} {cells slots i : Nat} {ls : Array Slot} {Qf : State → Prop} {α : Al} {μ ν : Mem} (hcs : cells ≤ 600000 ∧ slots ≤ 7302250) (hI : lw_I s q tc D α μ ν H locs) (hl : lv_has ls 4 [(3, .int (nI i)), (0, .ref b), (1, .ref (q.1 0)), (2, .ref (q.1 61))]) (hi : i + 3 < L)
    (hk : ∀ (β : Al) (μ' ν' : Mem) (H1 : Heap) (locs1 : List Loc), lw_I s q tc D β μ' ν' H1 locs1 → W p l e room_1 s m #[Value.ref b] below meth c H1 locs1 cells slots Qf (F0 m 901 ls []))
    {kX kM aX aM : Nat} (base : Nat) {off : Int} {iL iI iS iC jL jI jS jC : Nat} (hX : lw_kc kX 0 aX 2 iL iI iS iC (0, 61) = true) (hM : lw_kc kM 61 aM 2 jL jI jS jC (61, 14) = true) (hr : lw_rw base 2 aX aM off = true) (a0 : lw_ar (base + 1 + 5 * 0) 1 = true) (b0 : lw_ar (base + 1 + 5 * 2 + 3 + 1 + 5 * 0) 1 = true) (a1 : lw_ar (base + 1 + 5 * 1) 2 = true) (b1 : lw_ar (base + 1 + 5 * 2 + 3 + 1 + 5 * 1) 2 = true)
    (hop : opS kX kM [xI (xs (i + 1)).toInt, xI (xs (i + 2)).toInt] α) :
    W p l e room_1 s m #[Value.ref b] below meth c H locs cells slots Qf (F0 m base ls []) :=
  lw_case C hcs hI hl (as := [xs (i + 1), xs (i + 2)]) hX hM hr rfl hop (fun H locs pc st hS hp w => by
    rcases hp with rfl | rfl
    · exact lw_arg C hL hS hl (j := 1) (by decide) (by omega) a0 (lw_arg C hL hS hl (j := 2) (by decide) (by omega) a1 (w))
    · exact lw_arg C hL hS hl (j := 1) (by decide) (by omega) b0 (lw_arg C hL hS hl (j := 2) (by decide) (by omega) b1 (w))) hk
theorem lw_case3 {p : Program} {l : Launch} {e : Env} {s : State} {m : MethodId} {below : List Frame} {meth : Method} {c : Code} {b L : Nat} {xs : Nat → Int32} {q : (Nat → Nat) × Value} {tc : Nat → ClassId} {D : va_G} (C : lw_E p s m meth c b L xs q tc D) (hL : L ≤ 256) {H : Heap} {locs : List Loc} {cells slots i : Nat} {ls : Array Slot} {Qf : State → Prop} {α : Al} {μ ν : Mem} (hcs : cells ≤ 600000 ∧ slots ≤ 7302250) (hI : lw_I s q tc D α μ ν H locs) (hl : lv_has ls 4 [(3, .int (nI i)), (0, .ref b), (1, .ref (q.1 0)), (2, .ref (q.1 61))]) (hi : i + 3 < L)
    (hk : ∀ (β : Al) (μ' ν' : Mem) (H1 : Heap) (locs1 : List Loc), lw_I s q tc D β μ' ν' H1 locs1 → W p l e room_1 s m #[Value.ref b] below meth c H1 locs1 cells slots Qf (F0 m 901 ls []))
    {kX kM aX aM : Nat} (base : Nat) {off : Int} {iL iI iS iC jL jI jS jC : Nat} (hX : lw_kc kX 0 aX 3 iL iI iS iC (0, 61) = true) (hM : lw_kc kM 61 aM 3 jL jI jS jC (61, 14) = true) (hr : lw_rw base 3 aX aM off = true) (a0 : lw_ar (base + 1 + 5 * 0) 1 = true) (b0 : lw_ar (base + 1 + 5 * 3 + 3 + 1 + 5 * 0) 1 = true) (a1 : lw_ar (base + 1 + 5 * 1) 2 = true) (b1 : lw_ar (base + 1 + 5 * 3 + 3 + 1 + 5 * 1) 2 = true) (a2 : lw_ar (base + 1 + 5 * 2) 3 = true) (b2 : lw_ar (base + 1 + 5 * 3 + 3 + 1 + 5 * 2) 3 = true)
    (hop : opS kX kM [xI (xs (i + 1)).toInt, xI (xs (i + 2)).toInt, xI (xs (i + 3)).toInt] α) :
    W p l e room_1 s m #[Value.ref b] below meth c H locs cells slots Qf (F0 m base ls []) :=
  lw_case C hcs hI hl (as := [xs (i + 1), xs (i + 2), xs (i + 3)]) hX hM hr rfl hop (fun H locs pc st hS hp w => by
    rcases hp with rfl | rfl
    · exact lw_arg C hL hS hl (j := 1) (by decide) (by omega) a0 (lw_arg C hL hS hl (j := 2) (by decide) (by omega) a1 (lw_arg C hL hS hl (j := 3) (by decide) (by omega) a2 (w)))
    · exact lw_arg C hL hS hl (j := 1) (by decide) (by omega) b0 (lw_arg C hL hS hl (j := 2) (by decide) (by omega) b1 (lw_arg C hL hS hl (j := 3) (by decide) (by omega) b2 (w)))) hk
theorem lr_writeX : lw_kc 0 0 13 1 462 463 464 75 (0, 61) = true := by decide +kernel
theorem lr_writeM : lw_kc 126 61 17 1 1165 1166 1167 85 (61, 14) = true := by decide +kernel
theorem lr_write : lw_rw 164 1 13 17 719 = true := by decide +kernel
theorem lr_writea0 : lw_ar (164 + 1 + 5 * 0) 1 = true := by decide +kernel
theorem lr_writeb0 : lw_ar (164 + 1 + 5 * 1 + 3 + 1 + 5 * 0) 1 = true := by decide +kernel
theorem lr_eraseX : lw_kc 2 0 18 0 470 471 472 75 (0, 61) = true := by decide +kernel
theorem lr_eraseM : lw_kc 128 61 22 0 1172 1173 1174 85 (61, 14) = true := by decide +kernel
theorem lr_erase : lw_rw 187 0 18 22 706 = true := by decide +kernel
theorem lr_faultX : lw_kc 3 0 23 0 474 475 476 75 (0, 61) = true := by decide +kernel
theorem lr_faultM : lw_kc 129 61 26 0 1176 1177 1178 85 (61, 14) = true := by decide +kernel
theorem lr_fault : lw_rw 200 0 23 26 693 = true := by decide +kernel
theorem lr_innX : lw_kc 26 0 27 0 598 599 600 75 (0, 61) = true := by decide +kernel
theorem lr_innM : lw_kc 138 61 30 0 1229 1230 1231 85 (61, 14) = true := by decide +kernel
theorem lr_inn : lw_rw 213 0 27 30 680 = true := by decide +kernel
theorem lr_oneX : lw_kc 41 0 31 2 699 700 701 75 (0, 61) = true := by decide +kernel
theorem lr_oneM : lw_kc 140 61 35 2 1237 1238 1239 85 (61, 14) = true := by decide +kernel
theorem lr_one : lw_rw 226 2 31 35 647 = true := by decide +kernel
theorem lr_onea0 : lw_ar (226 + 1 + 5 * 0) 1 = true := by decide +kernel
theorem lr_oneb0 : lw_ar (226 + 1 + 5 * 2 + 3 + 1 + 5 * 0) 1 = true := by decide +kernel
theorem lr_onea1 : lw_ar (226 + 1 + 5 * 1) 2 = true := by decide +kernel
theorem lr_oneb1 : lw_ar (226 + 1 + 5 * 2 + 3 + 1 + 5 * 1) 2 = true := by decide +kernel
theorem lr_asX : lw_kc 46 0 36 2 719 720 721 75 (0, 61) = true := by decide +kernel
theorem lr_asM : lw_kc 145 61 39 2 1256 1257 1258 85 (61, 14) = true := by decide +kernel
theorem lr_as : lw_rw 259 2 36 39 614 = true := by decide +kernel
theorem lr_asa0 : lw_ar (259 + 1 + 5 * 0) 1 = true := by decide +kernel
theorem lr_asb0 : lw_ar (259 + 1 + 5 * 2 + 3 + 1 + 5 * 0) 1 = true := by decide +kernel
theorem lr_asa1 : lw_ar (259 + 1 + 5 * 1) 2 = true := by decide +kernel
theorem lr_asb1 : lw_ar (259 + 1 + 5 * 2 + 3 + 1 + 5 * 1) 2 = true := by decide +kernel
theorem lr_thingX : lw_kc 49 0 40 2 732 733 734 75 (0, 61) = true := by decide +kernel
theorem lr_thingM : lw_kc 146 61 43 2 1260 1261 1262 85 (61, 14) = true := by decide +kernel
theorem lr_thing : lw_rw 292 2 40 43 581 = true := by decide +kernel
theorem lr_thinga0 : lw_ar (292 + 1 + 5 * 0) 1 = true := by decide +kernel
theorem lr_thingb0 : lw_ar (292 + 1 + 5 * 2 + 3 + 1 + 5 * 0) 1 = true := by decide +kernel
theorem lr_thinga1 : lw_ar (292 + 1 + 5 * 1) 2 = true := by decide +kernel
theorem lr_thingb1 : lw_ar (292 + 1 + 5 * 2 + 3 + 1 + 5 * 1) 2 = true := by decide +kernel
theorem lr_thingAsX : lw_kc 51 0 44 2 741 742 743 75 (0, 61) = true := by decide +kernel
theorem lr_thingAsM : lw_kc 152 61 47 2 1284 1285 1286 85 (61, 14) = true := by decide +kernel
theorem lr_thingAs : lw_rw 325 2 44 47 548 = true := by decide +kernel
theorem lr_thingAsa0 : lw_ar (325 + 1 + 5 * 0) 1 = true := by decide +kernel
theorem lr_thingAsb0 : lw_ar (325 + 1 + 5 * 2 + 3 + 1 + 5 * 0) 1 = true := by decide +kernel
theorem lr_thingAsa1 : lw_ar (325 + 1 + 5 * 1) 2 = true := by decide +kernel
theorem lr_thingAsb1 : lw_ar (325 + 1 + 5 * 2 + 3 + 1 + 5 * 1) 2 = true := by decide +kernel
theorem lr_placeX : lw_kc 54 0 48 2 757 758 759 75 (0, 61) = true := by decide +kernel
theorem lr_placeM : lw_kc 155 61 51 2 1296 1297 1298 85 (61, 14) = true := by decide +kernel
theorem lr_place : lw_rw 358 2 48 51 515 = true := by decide +kernel
theorem lr_placea0 : lw_ar (358 + 1 + 5 * 0) 1 = true := by decide +kernel
theorem lr_placeb0 : lw_ar (358 + 1 + 5 * 2 + 3 + 1 + 5 * 0) 1 = true := by decide +kernel
theorem lr_placea1 : lw_ar (358 + 1 + 5 * 1) 2 = true := by decide +kernel
theorem lr_placeb1 : lw_ar (358 + 1 + 5 * 2 + 3 + 1 + 5 * 1) 2 = true := by decide +kernel
theorem lr_mayX : lw_kc 55 0 52 3 761 762 763 75 (0, 61) = true := by decide +kernel
theorem lr_mayM : lw_kc 156 61 56 3 1300 1301 1302 85 (61, 14) = true := by decide +kernel
theorem lr_may : lw_rw 391 3 52 56 472 = true := by decide +kernel
theorem lr_maya0 : lw_ar (391 + 1 + 5 * 0) 1 = true := by decide +kernel
theorem lr_mayb0 : lw_ar (391 + 1 + 5 * 3 + 3 + 1 + 5 * 0) 1 = true := by decide +kernel
theorem lr_maya1 : lw_ar (391 + 1 + 5 * 1) 2 = true := by decide +kernel
theorem lr_mayb1 : lw_ar (391 + 1 + 5 * 3 + 3 + 1 + 5 * 1) 2 = true := by decide +kernel
theorem lr_maya2 : lw_ar (391 + 1 + 5 * 2) 3 = true := by decide +kernel
theorem lr_mayb2 : lw_ar (391 + 1 + 5 * 3 + 3 + 1 + 5 * 2) 3 = true := by decide +kernel
theorem lr_passX : lw_kc 59 0 57 2 778 779 780 75 (0, 61) = true := by decide +kernel
theorem lr_passM : lw_kc 159 61 60 2 1312 1313 1314 85 (61, 14) = true := by decide +kernel
theorem lr_pass : lw_rw 434 2 57 60 439 = true := by decide +kernel
theorem lr_passa0 : lw_ar (434 + 1 + 5 * 0) 1 = true := by decide +kernel
theorem lr_passb0 : lw_ar (434 + 1 + 5 * 2 + 3 + 1 + 5 * 0) 1 = true := by decide +kernel
theorem lr_passa1 : lw_ar (434 + 1 + 5 * 1) 2 = true := by decide +kernel
theorem lr_passb1 : lw_ar (434 + 1 + 5 * 2 + 3 + 1 + 5 * 1) 2 = true := by decide +kernel
theorem lr_sayX : lw_kc 61 0 61 2 786 787 788 75 (0, 61) = true := by decide +kernel
theorem lr_sayM : lw_kc 160 61 64 2 1316 1317 1318 85 (61, 14) = true := by decide +kernel
theorem lr_say : lw_rw 467 2 61 64 406 = true := by decide +kernel
theorem lr_saya0 : lw_ar (467 + 1 + 5 * 0) 1 = true := by decide +kernel
theorem lr_sayb0 : lw_ar (467 + 1 + 5 * 2 + 3 + 1 + 5 * 0) 1 = true := by decide +kernel
theorem lr_saya1 : lw_ar (467 + 1 + 5 * 1) 2 = true := by decide +kernel
theorem lr_sayb1 : lw_ar (467 + 1 + 5 * 2 + 3 + 1 + 5 * 1) 2 = true := by decide +kernel
theorem lr_keepX : lw_kc 64 0 65 1 799 800 801 75 (0, 61) = true := by decide +kernel
theorem lr_keepM : lw_kc 161 61 68 1 1320 1321 1322 85 (61, 14) = true := by decide +kernel
theorem lr_keep : lw_rw 500 1 65 68 383 = true := by decide +kernel
theorem lr_keepa0 : lw_ar (500 + 1 + 5 * 0) 1 = true := by decide +kernel
theorem lr_keepb0 : lw_ar (500 + 1 + 5 * 1 + 3 + 1 + 5 * 0) 1 = true := by decide +kernel
theorem lr_backX : lw_kc 66 0 69 1 810 811 812 75 (0, 61) = true := by decide +kernel
theorem lr_backM : lw_kc 162 61 72 1 1324 1325 1326 85 (61, 14) = true := by decide +kernel
theorem lr_back : lw_rw 523 1 69 72 360 = true := by decide +kernel
theorem lr_backa0 : lw_ar (523 + 1 + 5 * 0) 1 = true := by decide +kernel
theorem lr_backb0 : lw_ar (523 + 1 + 5 * 1 + 3 + 1 + 5 * 0) 1 = true := by decide +kernel
theorem lr_ringsX : lw_kc 67 0 73 0 814 815 816 75 (0, 61) = true := by decide +kernel
theorem lr_ringsM : lw_kc 163 61 76 0 1328 1329 1330 85 (61, 14) = true := by decide +kernel
theorem lr_rings : lw_rw 546 0 73 76 347 = true := by decide +kernel
theorem lr_mendX : lw_kc 69 0 77 2 822 823 824 75 (0, 61) = true := by decide +kernel
theorem lr_mendM : lw_kc 164 61 80 2 1332 1333 1334 85 (61, 14) = true := by decide +kernel
theorem lr_mend : lw_rw 559 2 77 80 314 = true := by decide +kernel
theorem lr_menda0 : lw_ar (559 + 1 + 5 * 0) 1 = true := by decide +kernel
theorem lr_mendb0 : lw_ar (559 + 1 + 5 * 2 + 3 + 1 + 5 * 0) 1 = true := by decide +kernel
theorem lr_menda1 : lw_ar (559 + 1 + 5 * 1) 2 = true := by decide +kernel
theorem lr_mendb1 : lw_ar (559 + 1 + 5 * 2 + 3 + 1 + 5 * 1) 2 = true := by decide +kernel
theorem lr_showX : lw_kc 72 0 81 1 836 837 838 75 (0, 61) = true := by decide +kernel
theorem lr_showM : lw_kc 165 61 84 1 1336 1337 1338 85 (61, 14) = true := by decide +kernel
theorem lr_show : lw_rw 592 1 81 84 291 = true := by decide +kernel
theorem lr_showa0 : lw_ar (592 + 1 + 5 * 0) 1 = true := by decide +kernel
theorem lr_showb0 : lw_ar (592 + 1 + 5 * 1 + 3 + 1 + 5 * 0) 1 = true := by decide +kernel
theorem lr_planX : lw_kc 74 0 85 1 844 845 846 75 (0, 61) = true := by decide +kernel
theorem lr_planM : lw_kc 166 61 88 1 1340 1341 1342 85 (61, 14) = true := by decide +kernel
theorem lr_plan : lw_rw 615 1 85 88 268 = true := by decide +kernel
theorem lr_plana0 : lw_ar (615 + 1 + 5 * 0) 1 = true := by decide +kernel
theorem lr_planb0 : lw_ar (615 + 1 + 5 * 1 + 3 + 1 + 5 * 0) 1 = true := by decide +kernel
theorem lr_plannedX : lw_kc 84 0 89 2 889 890 891 75 (0, 61) = true := by decide +kernel
theorem lr_plannedM : lw_kc 175 61 92 2 1376 1377 1378 85 (61, 14) = true := by decide +kernel
theorem lr_planned : lw_rw 638 2 89 92 235 = true := by decide +kernel
theorem lr_planneda0 : lw_ar (638 + 1 + 5 * 0) 1 = true := by decide +kernel
theorem lr_plannedb0 : lw_ar (638 + 1 + 5 * 2 + 3 + 1 + 5 * 0) 1 = true := by decide +kernel
theorem lr_planneda1 : lw_ar (638 + 1 + 5 * 1) 2 = true := by decide +kernel
theorem lr_plannedb1 : lw_ar (638 + 1 + 5 * 2 + 3 + 1 + 5 * 1) 2 = true := by decide +kernel
theorem lr_seenX : lw_kc 85 0 93 3 893 894 895 75 (0, 61) = true := by decide +kernel
theorem lr_seenM : lw_kc 176 61 96 3 1380 1381 1382 85 (61, 14) = true := by decide +kernel
theorem lr_seen : lw_rw 671 3 93 96 192 = true := by decide +kernel
theorem lr_seena0 : lw_ar (671 + 1 + 5 * 0) 1 = true := by decide +kernel
theorem lr_seenb0 : lw_ar (671 + 1 + 5 * 3 + 3 + 1 + 5 * 0) 1 = true := by decide +kernel
theorem lr_seena1 : lw_ar (671 + 1 + 5 * 1) 2 = true := by decide +kernel
theorem lr_seenb1 : lw_ar (671 + 1 + 5 * 3 + 3 + 1 + 5 * 1) 2 = true := by decide +kernel
theorem lr_seena2 : lw_ar (671 + 1 + 5 * 2) 3 = true := by decide +kernel
theorem lr_seenb2 : lw_ar (671 + 1 + 5 * 3 + 3 + 1 + 5 * 2) 3 = true := by decide +kernel
theorem lr_forgetX : lw_kc 87 0 97 0 901 902 903 75 (0, 61) = true := by decide +kernel
theorem lr_forgetM : lw_kc 177 61 100 0 1384 1385 1386 85 (61, 14) = true := by decide +kernel
theorem lr_forget : lw_rw 714 0 97 100 179 = true := by decide +kernel
theorem lr_fitX : lw_kc 88 0 101 0 905 906 907 75 (0, 61) = true := by decide +kernel
theorem lr_fitM : lw_kc 178 61 104 0 1388 1389 1390 85 (61, 14) = true := by decide +kernel
theorem lr_fit : lw_rw 727 0 101 104 166 = true := by decide +kernel
theorem lr_liesX : lw_kc 96 0 105 1 938 939 940 75 (0, 61) = true := by decide +kernel
theorem lr_liesM : lw_kc 181 61 108 1 1400 1401 1402 85 (61, 14) = true := by decide +kernel
theorem lr_lies : lw_rw 740 1 105 108 143 = true := by decide +kernel
theorem lr_liesa0 : lw_ar (740 + 1 + 5 * 0) 1 = true := by decide +kernel
theorem lr_liesb0 : lw_ar (740 + 1 + 5 * 1 + 3 + 1 + 5 * 0) 1 = true := by decide +kernel
theorem lr_sureX : lw_kc 98 0 109 0 946 947 948 75 (0, 61) = true := by decide +kernel
theorem lr_sureM : lw_kc 183 61 112 0 1408 1409 1410 85 (61, 14) = true := by decide +kernel
theorem lr_sure : lw_rw 763 0 109 112 130 = true := by decide +kernel
theorem lr_oddsX : lw_kc 100 0 113 2 955 956 957 75 (0, 61) = true := by decide +kernel
theorem lr_oddsM : lw_kc 184 61 116 2 1412 1413 1414 85 (61, 14) = true := by decide +kernel
theorem lr_odds : lw_rw 776 2 113 116 97 = true := by decide +kernel
theorem lr_oddsa0 : lw_ar (776 + 1 + 5 * 0) 1 = true := by decide +kernel
theorem lr_oddsb0 : lw_ar (776 + 1 + 5 * 2 + 3 + 1 + 5 * 0) 1 = true := by decide +kernel
theorem lr_oddsa1 : lw_ar (776 + 1 + 5 * 1) 2 = true := by decide +kernel
theorem lr_oddsb1 : lw_ar (776 + 1 + 5 * 2 + 3 + 1 + 5 * 1) 2 = true := by decide +kernel
theorem lr_nextX : lw_kc 103 0 117 1 968 969 970 75 (0, 61) = true := by decide +kernel
theorem lr_nextM : lw_kc 185 61 120 1 1416 1417 1418 85 (61, 14) = true := by decide +kernel
theorem lr_next : lw_rw 809 1 117 120 74 = true := by decide +kernel
theorem lr_nexta0 : lw_ar (809 + 1 + 5 * 0) 1 = true := by decide +kernel
theorem lr_nextb0 : lw_ar (809 + 1 + 5 * 1 + 3 + 1 + 5 * 0) 1 = true := by decide +kernel
theorem lr_apartX : lw_kc 106 0 121 1 983 984 985 75 (0, 61) = true := by decide +kernel
theorem lr_apartM : lw_kc 186 61 124 1 1420 1421 1422 85 (61, 14) = true := by decide +kernel
theorem lr_apart : lw_rw 832 1 121 124 51 = true := by decide +kernel
theorem lr_aparta0 : lw_ar (832 + 1 + 5 * 0) 1 = true := by decide +kernel
theorem lr_apartb0 : lw_ar (832 + 1 + 5 * 1 + 3 + 1 + 5 * 0) 1 = true := by decide +kernel
theorem lr_cameX : lw_kc 113 0 125 1 1015 1016 1017 75 (0, 61) = true := by decide +kernel
theorem lr_cameM : lw_kc 190 61 128 1 1436 1437 1438 85 (61, 14) = true := by decide +kernel
theorem lr_came : lw_rw 855 1 125 128 28 = true := by decide +kernel
theorem lr_camea0 : lw_ar (855 + 1 + 5 * 0) 1 = true := by decide +kernel
theorem lr_cameb0 : lw_ar (855 + 1 + 5 * 1 + 3 + 1 + 5 * 0) 1 = true := by decide +kernel
theorem lr_countX : lw_kc 123 0 129 1 1059 1060 1061 75 (0, 61) = true := by decide +kernel
theorem lr_countM : lw_kc 192 61 132 1 1444 1445 1446 85 (61, 14) = true := by decide +kernel
theorem lr_count : lw_rw 878 1 129 132 5 = true := by decide +kernel
theorem lr_counta0 : lw_ar (878 + 1 + 5 * 0) 1 = true := by decide +kernel
theorem lr_countb0 : lw_ar (878 + 1 + 5 * 1 + 3 + 1 + 5 * 0) 1 = true := by decide +kernel
theorem lr_18 : decode code 18 = .ok (.iload_n 3, 1) := by decide +kernel
theorem lr_19 : decode code 19 = .ok (.aload_n 0, 1) := by decide +kernel
theorem lr_20 : decode code 20 = .ok (.arraylength, 1) := by decide +kernel
theorem lr_21 : decode code 21 = .ok (.iconst 4, 1) := by decide +kernel
theorem lr_22 : decode code 22 = .ok (.isub, 1) := by decide +kernel
theorem lr_26 : decode code 26 = .ok (.aload_n 0, 1) := by decide +kernel
theorem lr_27 : decode code 27 = .ok (.iload_n 3, 1) := by decide +kernel
theorem lr_28 : decode code 28 = .ok (.iaload, 1) := by decide +kernel
theorem lr_31 : decode code 31 = .ok (.iand, 1) := by decide +kernel
theorem lr_907 : decode code 907 = .ok (.iconst 1, 1) := by decide +kernel
theorem lr_908 : decode code 908 = .ok (.ireturn, 1) := by decide +kernel
theorem lr_16 : decode code 16 = .ok (.iconst 0, 1) := by decide +kernel
theorem lr_17 : decode code 17 = .ok (.istore_n 3, 1) := by decide +kernel
theorem lr_23 : decode code 23 = .ok (.if_icmp .gt 884, 3) := by decide +kernel
theorem lr_29 : decode code 29 = .ok (.bipush 31, 2) := by decide +kernel
theorem lr_901 : decode code 901 = .ok (.iinc 3 4, 3) := by decide +kernel
theorem lr_904 : decode code 904 = .ok (.goto (-886), 3) := by decide +kernel
def lw_offs : List Int := [132, 155, 168, 181, 194, 227, 260, 293, 326, 359, 402, 435, 468, 491, 514, 527, 560, 583, 606, 639, 682, 695, 708, 731, 744, 777, 800, 823, 846]
theorem lr_32 : decode code 32 = .ok (.tableswitch 869 0 28 lw_offs.toArray, 132) := by decide +kernel
theorem lw_step {p : Program} {l : Launch} {e : Env} {s : State} {m : MethodId} {below : List Frame} {meth : Method} {c : Code} {b L : Nat} {xs : Nat → Int32} {q : (Nat → Nat) × Value} {tc : Nat → ClassId} {D : va_G} (C : lw_E p s m meth c b L xs q tc D) (hL : L ≤ 256) {H : Heap} {locs : List Loc} {cells slots i : Nat} {ls : Array Slot} {Qf : State → Prop} {α : Al} {μ ν : Mem} (hcs : cells ≤ 600000 ∧ slots ≤ 7302250) (hI : lw_I s q tc D α μ ν H locs) (hl : lv_has ls 4 [(3, .int (nI i)), (0, .ref b), (1, .ref (q.1 0)), (2, .ref (q.1 61))]) (hi : i + 3 < L)
    (hk : ∀ (β : Al) (μ' ν' : Mem) (H1 : Heap) (locs1 : List Loc), lw_I s q tc D β μ' ν' H1 locs1 → W p l e room_1 s m #[Value.ref b] below meth c H1 locs1 cells slots Qf (F0 m 901 ls [])) (t : Nat) (ht : t < 29) :
    W p l e room_1 s m #[Value.ref b] below meth c H locs cells slots Qf (F0 m (32 + (lw_offs.getD t 0).toNat) ls []) := by
  have hw : wf α := hI.1
  match t, ht with
  | 0, _ => exact lw_case1 C hL hcs hI hl hi hk 164 lr_writeX lr_writeM lr_write lr_writea0 lr_writeb0 (op_write hw (xs (i + 1)).toInt)
  | 1, _ => exact lw_case0 C hL hcs hI hl hi hk 187 lr_eraseX lr_eraseM lr_erase  (op_erase hw)
  | 2, _ => exact lw_case0 C hL hcs hI hl hi hk 200 lr_faultX lr_faultM lr_fault  (op_fault hw)
  | 3, _ => exact lw_case0 C hL hcs hI hl hi hk 213 lr_innX lr_innM lr_inn  (op_inn hw)
  | 4, _ => exact lw_case2 C hL hcs hI hl hi hk 226 lr_oneX lr_oneM lr_one lr_onea0 lr_oneb0 lr_onea1 lr_oneb1 (op_one hw (xs (i + 1)).toInt (xs (i + 2)).toInt)
  | 5, _ => exact lw_case2 C hL hcs hI hl hi hk 259 lr_asX lr_asM lr_as lr_asa0 lr_asb0 lr_asa1 lr_asb1 (op_as hw (xs (i + 1)).toInt (xs (i + 2)).toInt)
  | 6, _ => exact lw_case2 C hL hcs hI hl hi hk 292 lr_thingX lr_thingM lr_thing lr_thinga0 lr_thingb0 lr_thinga1 lr_thingb1 (op_thing hw (xs (i + 1)).toInt (xs (i + 2)).toInt)
  | 7, _ => exact lw_case2 C hL hcs hI hl hi hk 325 lr_thingAsX lr_thingAsM lr_thingAs lr_thingAsa0 lr_thingAsb0 lr_thingAsa1 lr_thingAsb1 (op_thingAs hw (xs (i + 1)).toInt (xs (i + 2)).toInt)
  | 8, _ => exact lw_case2 C hL hcs hI hl hi hk 358 lr_placeX lr_placeM lr_place lr_placea0 lr_placeb0 lr_placea1 lr_placeb1 (op_place hw (xs (i + 1)).toInt (xs (i + 2)).toInt)
  | 9, _ => exact lw_case3 C hL hcs hI hl hi hk 391 lr_mayX lr_mayM lr_may lr_maya0 lr_mayb0 lr_maya1 lr_mayb1 lr_maya2 lr_mayb2 (op_may hw (xs (i + 1)).toInt (xs (i + 2)).toInt (xs (i + 3)).toInt)
  | 10, _ => exact lw_case2 C hL hcs hI hl hi hk 434 lr_passX lr_passM lr_pass lr_passa0 lr_passb0 lr_passa1 lr_passb1 (op_pass hw (xs (i + 1)).toInt (xs (i + 2)).toInt)
  | 11, _ => exact lw_case2 C hL hcs hI hl hi hk 467 lr_sayX lr_sayM lr_say lr_saya0 lr_sayb0 lr_saya1 lr_sayb1 (op_say hw (xs (i + 1)).toInt (xs (i + 2)).toInt)
  | 12, _ => exact lw_case1 C hL hcs hI hl hi hk 500 lr_keepX lr_keepM lr_keep lr_keepa0 lr_keepb0 (op_keep hw (xs (i + 1)).toInt)
  | 13, _ => exact lw_case1 C hL hcs hI hl hi hk 523 lr_backX lr_backM lr_back lr_backa0 lr_backb0 (op_back hw (xs (i + 1)).toInt)
  | 14, _ => exact lw_case0 C hL hcs hI hl hi hk 546 lr_ringsX lr_ringsM lr_rings  (op_rings hw)
  | 15, _ => exact lw_case2 C hL hcs hI hl hi hk 559 lr_mendX lr_mendM lr_mend lr_menda0 lr_mendb0 lr_menda1 lr_mendb1 (op_mend hw (xs (i + 1)).toInt (xs (i + 2)).toInt)
  | 16, _ => exact lw_case1 C hL hcs hI hl hi hk 592 lr_showX lr_showM lr_show lr_showa0 lr_showb0 (op_show hw (xs (i + 1)).toInt)
  | 17, _ => exact lw_case1 C hL hcs hI hl hi hk 615 lr_planX lr_planM lr_plan lr_plana0 lr_planb0 (op_plan hw (xs (i + 1)).toInt)
  | 18, _ => exact lw_case2 C hL hcs hI hl hi hk 638 lr_plannedX lr_plannedM lr_planned lr_planneda0 lr_plannedb0 lr_planneda1 lr_plannedb1 (op_planned hw (xs (i + 1)).toInt (xs (i + 2)).toInt)
  | 19, _ => exact lw_case3 C hL hcs hI hl hi hk 671 lr_seenX lr_seenM lr_seen lr_seena0 lr_seenb0 lr_seena1 lr_seenb1 lr_seena2 lr_seenb2 (op_seen hw (xs (i + 1)).toInt (xs (i + 2)).toInt (xs (i + 3)).toInt)
  | 20, _ => exact lw_case0 C hL hcs hI hl hi hk 714 lr_forgetX lr_forgetM lr_forget  (op_forget hw)
  | 21, _ => exact lw_case0 C hL hcs hI hl hi hk 727 lr_fitX lr_fitM lr_fit  (op_fit hw)
  | 22, _ => exact lw_case1 C hL hcs hI hl hi hk 740 lr_liesX lr_liesM lr_lies lr_liesa0 lr_liesb0 (op_lies hw (xs (i + 1)).toInt)
  | 23, _ => exact lw_case0 C hL hcs hI hl hi hk 763 lr_sureX lr_sureM lr_sure  (op_sure hw)
  | 24, _ => exact lw_case2 C hL hcs hI hl hi hk 776 lr_oddsX lr_oddsM lr_odds lr_oddsa0 lr_oddsb0 lr_oddsa1 lr_oddsb1 (op_odds hw (xs (i + 1)).toInt (xs (i + 2)).toInt)
  | 25, _ => exact lw_case1 C hL hcs hI hl hi hk 809 lr_nextX lr_nextM lr_next lr_nexta0 lr_nextb0 (op_next hw (xs (i + 1)).toInt)
  | 26, _ => exact lw_case1 C hL hcs hI hl hi hk 832 lr_apartX lr_apartM lr_apart lr_aparta0 lr_apartb0 (op_apart hw (xs (i + 1)).toInt)
  | 27, _ => exact lw_case1 C hL hcs hI hl hi hk 855 lr_cameX lr_cameM lr_came lr_camea0 lr_cameb0 (op_came hw (xs (i + 1)).toInt)
  | 28, _ => exact lw_case1 C hL hcs hI hl hi hk 878 lr_countX lr_countM lr_count lr_counta0 lr_countb0 (op_count hw (xs (i + 1)).toInt)
  | n + 29, h => exact absurd h (by omega)
theorem lw_test {L i : Nat} (hL : L ≤ 256) (hi : i < 2000) : (nI L - 4 < nI i ↔ L < i + 4) := by
  have h1 : nI L = Int32.ofInt (L : Int) := rfl
  have h2 : nI i = Int32.ofInt (i : Int) := rfl
  have r1 : ax_r32 (L : Int) := by unfold ax_r32; omega
  have r2 : ax_r32 (i : Int) := by unfold ax_r32; omega
  have r4 : ax_r32 4 := by unfold ax_r32; omega
  have e : nI L - 4 = Int32.ofInt ((L : Int) - 4) := by
    rw [h1, show (4 : Int32) = Int32.ofInt 4 from rfl, ax_sub r1 r4, ax_ofw]
  rw [e, h2, ax_ltI (by unfold ax_r32; omega) r2]
  omega
theorem lw_hd {p : Program} {l : Launch} {e : Env} {s : State} {m : MethodId} {below : List Frame} {meth : Method} {c : Code} {b L : Nat} {xs : Nat → Int32} {q : (Nat → Nat) × Value} {tc : Nat → ClassId} {D : va_G} (C : lw_E p s m meth c b L xs q tc D) (hL : L ≤ 256) {H : Heap} {locs : List Loc} {cells slots i : Nat} {ls : Array Slot} {Qf : State → Prop} (hS : va_S (lw_N s) s.heap H locs) (hl : lv_has ls 4 [(3, .int (nI i)), (0, .ref b), (1, .ref (q.1 0)), (2, .ref (q.1 61))]) (hi2 : i < 2000) (h1 : i + 3 < L → W p l e room_1 s m #[Value.ref b] below meth c H locs cells slots Qf (F0 m 26 ls [])) (h2 : ¬ i + 3 < L → W p l e room_1 s m #[Value.ref b] below meth c H locs cells slots Qf (F0 m 907 ls [])) : W p l e room_1 s m #[Value.ref b] below meth c H locs cells slots Qf (F0 m 18 ls []) := by
  obtain ⟨hx, hb, -, hml, hown, hts, hX, hbl, hlk, hK, hKC, hinj⟩ := C
  refine lv_iload_n hx hb lr_18 rfl (lv_at hl 0 rfl) ?_
  refine lv_aload_n hx hb lr_19 rfl (lv_at hl 1 rfl) ?_
  refine va_slen hx hb hX hbl (fun w => Nat.lt_irrefl _ (Nat.lt_of_lt_of_le hbl w)) hS lr_20 ?_
  refine lv_iconst (v := 4) hx hb lr_21 (by decide) ?_
  refine lv_isub hx hb lr_22 ?_
  refine lv_icmp_gt (tgt := 907) hx hb lr_23 (by decide) (fun hc => h2 ?_) (fun hc => h1 ?_)
  · have := (lw_test hL hi2).mp hc
    omega
  · have h9 : ¬ L < i + 4 := fun w => hc ((lw_test hL hi2).mpr w)
    omega
theorem lw_end {p : Program} {l : Launch} {e : Env} {s : State} {m : MethodId} {below : List Frame} {meth : Method} {c : Code} {b L : Nat} {xs : Nat → Int32} {q : (Nat → Nat) × Value} {tc : Nat → ClassId} {D : va_G} (C : lw_E p s m meth c b L xs q tc D) (hL : L ≤ 256) {H : Heap} {locs : List Loc} {cells slots i : Nat} {ls : Array Slot} (hcs : cells ≤ 600000 ∧ slots ≤ 7302250) (hS : va_S (lw_N s) s.heap H locs) (hl : lv_has ls 4 [(3, .int (nI i)), (0, .ref b), (1, .ref (q.1 0)), (2, .ref (q.1 61))]) (hi2 : i < 2000) (hi : ¬ i + 3 < L) : W p l e room_1 s m #[Value.ref b] below meth c H locs cells slots (lw_Z below #[Value.ref b] s) (F0 m 18 ls []) := by
  refine lw_hd C hL hS hl hi2 (fun h => absurd h hi) (fun _ => ?_)
  obtain ⟨hx, hb, hr, hml, hown, hts, hX, hbl, hlk, hK, hKC, hinj⟩ := C
  refine lv_iconst (v := 1) hx hb lr_907 (by decide) ?_
  refine va_forget hS.2.2 ?_
  refine W.widen hcs.1 hcs.2 ?_
  exact lw_ret hx hb hr hlk lr_908
theorem lw_next {p : Program} {l : Launch} {e : Env} {s : State} {m : MethodId} {below : List Frame} {meth : Method} {c : Code} {b L : Nat} {xs : Nat → Int32} {q : (Nat → Nat) × Value} {tc : Nat → ClassId} {D : va_G} (C : lw_E p s m meth c b L xs q tc D) (hL : L ≤ 256) {H : Heap} {locs : List Loc} {cells slots i : Nat} {ls : Array Slot} {Qf : State → Prop} {α : Al} {μ ν : Mem} (hI : lw_I s q tc D α μ ν H locs) (hl : lv_has ls 4 [(3, .int (nI i)), (0, .ref b), (1, .ref (q.1 0)), (2, .ref (q.1 61))]) (h : ∀ ls' : Array Slot, lv_has ls' 4 [(3, .int (nI (i + 4))), (0, .ref b), (1, .ref (q.1 0)), (2, .ref (q.1 61))] → W p l e room_1 s m #[Value.ref b] below meth c H locs cells slots Qf (F0 m 18 ls' [])) : W p l e room_1 s m #[Value.ref b] below meth c H locs cells slots Qf (F0 m 901 ls []) := by
  obtain ⟨hx, hb, -, hml, hown, hts, hX, hbl, hlk, hK, hKC, hinj⟩ := C
  refine lv_iinc (k := 0) (v := nI (i + 4)) hx hb lr_901 hl rfl (by rw [← nI_add]; rfl) (by decide) rfl (fun ls' hl' => ?_)
  refine lv_goto (tgt := 18) hx hb lr_904 (by decide) ?_
  exact h ls' hl'
theorem lw_and (x : Int32) : 0 ≤ (x &&& 31).toInt ∧ (x &&& 31).toInt < 32 := by
  have h : (x &&& 31).toBitVec.toNat ≤ 31 := by
    rw [Int32.toBitVec_and, BitVec.toNat_and]
    exact Nat.and_le_right
  have h2 : (x &&& 31).toInt = ((x &&& 31).toBitVec.toNat : Int) := by
    show (x &&& 31).toBitVec.toInt = _
    exact BitVec.toInt_eq_toNat_of_lt (by omega)
  omega
theorem lw_sel : ∀ t : Nat, t < 29 → lw_offs.toArray[t]? = some (lw_offs.getD t 0) ∧ 0 ≤ lw_offs.getD t 0 := by decide +kernel
theorem lw_head {p : Program} {l : Launch} {e : Env} {s : State} {m : MethodId} {below : List Frame} {meth : Method} {c : Code} {b L : Nat} {xs : Nat → Int32} {q : (Nat → Nat) × Value} {tc : Nat → ClassId} {D : va_G} (C : lw_E p s m meth c b L xs q tc D) (hL : L ≤ 256) {H : Heap} {locs : List Loc} {cells slots i : Nat} {ls : Array Slot} {Qf : State → Prop} (hS : va_S (lw_N s) s.heap H locs) (hl : lv_has ls 4 [(3, .int (nI i)), (0, .ref b), (1, .ref (q.1 0)), (2, .ref (q.1 61))]) (hi : i + 3 < L) (h1 : ∀ t : Nat, t < 29 → W p l e room_1 s m #[Value.ref b] below meth c H locs cells slots Qf (F0 m (32 + (lw_offs.getD t 0).toNat) ls [])) (h2 : W p l e room_1 s m #[Value.ref b] below meth c H locs cells slots Qf (F0 m 901 ls [])) : W p l e room_1 s m #[Value.ref b] below meth c H locs cells slots Qf (F0 m 18 ls []) := by
  refine lw_hd C hL hS hl (by omega) (fun _ => ?_) (fun h => absurd hi h)
  obtain ⟨hx, hb, -, hml, hown, hts, hX, hbl, hlk, hK, hKC, hinj⟩ := C
  refine lv_aload_n hx hb lr_26 rfl (lv_at hl 1 rfl) ?_
  refine lv_iload_n hx hb lr_27 rfl (lv_at hl 0 rfl) ?_
  refine va_sld hx hb hX hbl (fun w => Nat.lt_irrefl _ (Nat.lt_of_lt_of_le hbl w)) hS (vp_in_nI (show i < L by omega) (by omega)) lr_28 ?_
  refine lv_bipush (v := 31) hx hb lr_29 (by decide) ?_
  refine lv_iand hx hb lr_31 ?_
  have hr := lw_and (xs (nI i).toNatClampNeg)
  generalize (xs (nI i).toNatClampNeg &&& 31) = x at hr ⊢
  by_cases ht : x.toInt ≤ 28
  · obtain ⟨o1, o2⟩ := lw_sel x.toInt.toNat (by omega)
    refine lv_tableIn (tgt := 32 + (lw_offs.getD x.toInt.toNat 0).toNat) hx hb lr_32 (by omega) (by omega) (by rw [Int.sub_zero]; exact o1) (by omega) (h1 _ (by omega))
  · exact lv_tableOut (tgt := 901) hx hb lr_32 (Or.inr (by omega)) (by decide) h2
theorem lw_loop {p : Program} {l : Launch} {e : Env} {s : State} {m : MethodId} {below : List Frame} {meth : Method} {c : Code} {b L : Nat} {xs : Nat → Int32} {q : (Nat → Nat) × Value} {tc : Nat → ClassId} {D : va_G} (C : lw_E p s m meth c b L xs q tc D) (hL : L ≤ 256) {cells slots : Nat} (hcs : cells ≤ 600000 ∧ slots ≤ 7302250) : ∀ (n i : Nat) (α : Al) (μ ν : Mem) (H : Heap) (locs : List Loc) (ls : Array Slot), i ≤ 300 → 300 ≤ i + n → lw_I s q tc D α μ ν H locs → lv_has ls 4 [(3, .int (nI i)), (0, .ref b), (1, .ref (q.1 0)), (2, .ref (q.1 61))] →
    W p l e room_1 s m #[Value.ref b] below meth c H locs cells slots (lw_Z below #[Value.ref b] s) (F0 m 18 ls []) := by
  intro n
  induction n with
  | zero => 
    intro i α μ ν H locs ls h1 h2 hI hl
    exact lw_end C hL hcs hI.2.2.2.2.2.2.2.2.2.2 hl (by omega) (by omega)
  | succ n ih =>
    intro i α μ ν H locs ls h1 h2 hI hl
    by_cases hi : i + 3 < L
    · refine lw_head C hL hI.2.2.2.2.2.2.2.2.2.2 hl hi (lw_step C hL hcs hI hl hi (fun β μ' ν' H1 locs1 hI1 => lw_next C hL hI1 hl (fun ls' hl' => ih (i + 4) β μ' ν' H1 locs1 ls' (by omega) (by omega) hI1 hl'))) (lw_next C hL hI hl (fun ls' hl' => ih (i + 4) α μ ν H locs ls' (by omega) (by omega) hI hl'))
    · exact lw_end C hL hcs hI.2.2.2.2.2.2.2.2.2.2 hl (by omega) (by omega)
