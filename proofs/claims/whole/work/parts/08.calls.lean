theorem ax_sw_e {t : List (Int × Nat)} {x : Int} {F : Nat → Prop} {dd : Nat} (h : ax_sw t x F dd) : (∃ (j g : Nat), t[j]? = some (x, g) ∧ F g) ∨ ((∀ p ∈ t, x ≠ p.1) ∧ F dd) := by
  induction t with
  | nil => exact Or.inr ⟨fun p hp => absurd hp List.not_mem_nil, h⟩
  | cons kg t ih =>
    obtain ⟨key, g⟩ := kg
    unfold ax_sw at h
    by_cases e : x = key
    · rw [if_pos e] at h
      exact Or.inl ⟨0, g, by rw [e]; rfl, h⟩
    · rw [if_neg e] at h
      rcases ih h with ⟨j, g', h1, h2⟩ | ⟨h1, h2⟩
      · exact Or.inl ⟨j + 1, g', h1, h2⟩
      · exact Or.inr ⟨fun p hp => by
          rcases List.mem_cons.mp hp with rfl | hp
          · exact e
          · exact h1 p hp, h2⟩
theorem ax_s42 {d k i : Nat} {L st : List AV} {μ : Mem} {Q : AV → Mem → Prop} {a b c : Nat} {z : Int} {t : List (Int × Nat)} {x : Int} (hop : ax_ok k i (42, a, b, c, z, t) = true) (h : ax_sw t x (fun g => ax_SW d k g L st μ Q) a) : ax_SW d k i L (xI x :: st) μ Q := by
  intro l D tc q p e s m args below meth cd A H locs ls C hP hD hS hl hL hst hμ
  have C0 := C
  obtain ⟨hk, hx, hb, hr, hml, hown, hts, hlk, hK, hKC, hA⟩ := C
  have hx1 : ax_r32 x := (ax_c2 hst).1
  cases t with
  | nil => simp [ax_ok] at hop
  | cons t0 t1 =>
    obtain ⟨lo, g0⟩ := t0
    simp only [ax_ok, Bool.and_eq_true] at hop
    obtain ⟨⟨hd, htg⟩, hkeys⟩ := hop
    have hd := ax_bs_d1 hd
    have htg := ax_bs_tg htg
    have hkey : ∀ (j : Nat) (w : Int × Nat), ((lo, g0) :: t1)[j]? = some w → w.1 = lo + (j : Int) := fun j w hw => by
      have := List.all_eq_true.mp hkeys j (List.mem_range.mpr (List.getElem?_eq_some_iff.mp hw).1)
      rw [decide_eq_true_eq, List.getD_eq_getElem?_getD, hw] at this
      exact this
    rcases ax_sw_e h with ⟨j, g, hj, hF⟩ | ⟨hno, hF⟩
    · have h9 := hF l D tc q p e s m args below meth cd A H locs ls C0 hP hD hS hl hL (ax_c2 hst).2 hμ
      have hjl := (List.getElem?_eq_some_iff.mp hj).1
      have hxj := hkey j _ hj
      refine lv_tableIn (off := (ax_pc k g : Int) - (ax_pc k i : Int)) hx hb hd (by rw [ax_ti hx1]; omega) (by rw [ax_ti hx1]; omega) ?_ (by omega) h9
      rw [ax_ti hx1, show (x - lo).toNat = j by omega, List.getElem?_toArray, List.getElem?_map, hj]
      rfl
    · have h9 := hF l D tc q p e s m args below meth cd A H locs ls C0 hP hD hS hl hL (ax_c2 hst).2 hμ
      refine lv_tableOut hx hb hd ?_ htg h9
      rw [ax_ti hx1]
      by_cases h1 : x < lo
      · exact Or.inl h1
      · by_cases h2 : lo + (((lo, g0) :: t1).length : Int) - 1 < x
        · exact Or.inr h2
        · have hj : (x - lo).toNat < ((lo, g0) :: t1).length := by omega
          have h3 := hkey (x - lo).toNat _ (List.getElem?_eq_getElem hj)
          exact absurd (by rw [h3]; omega) (hno _ (List.getElem_mem hj))
theorem ax_look {k i : Nat} {z x : Int} {F : Nat → Prop} {dd : Nat} (hz : (ax_pc k i : Int) + z = (ax_pc k dd : Int)) : ∀ {t : List (Int × Nat)}, ax_sw t x F dd → ∃ (off : Int) (g : Nat), Op.lookupswitch.offset (t.map (fun p => (p.1, (ax_pc k p.2 : Int) - (ax_pc k i : Int)))) z x = off ∧ (ax_pc k i : Int) + off = (ax_pc k g : Int) ∧ F g
  | [], h => ⟨z, dd, rfl, hz, h⟩
  | (key, g) :: t, h => by
    unfold ax_sw at h
    rw [List.map_cons, Op.lookupswitch.offset_cons]
    by_cases e : x = key
    · rw [if_pos e] at h
      rw [if_pos e.symm]
      exact ⟨(ax_pc k g : Int) - (ax_pc k i : Int), g, rfl, by omega, h⟩
    · rw [if_neg e] at h
      rw [if_neg (fun w => e w.symm)]
      exact ax_look hz h
theorem ax_s43 {d k i : Nat} {L st : List AV} {μ : Mem} {Q : AV → Mem → Prop} {a b c : Nat} {z : Int} {t : List (Int × Nat)} {x : Int} (hop : ax_ok k i (43, a, b, c, z, t) = true) (h : ax_sw t x (fun g => ax_SW d k g L st μ Q) a) : ax_SW d k i L (xI x :: st) μ Q := by
  intro l D tc q p e s m args below meth cd A H locs ls C hP hD hS hl hL hst hμ
  have C0 := C
  obtain ⟨hk, hx, hb, hr, hml, hown, hts, hlk, hK, hKC, hA⟩ := C
  have hx1 : ax_r32 x := (ax_c2 hst).1
  simp only [ax_ok, Bool.and_eq_true] at hop
  obtain ⟨⟨hd, htg⟩, hsort⟩ := hop
  have hd := ax_bs_d1 hd
  have htg := ax_bs_tg htg
  obtain ⟨off, g, ho, hg, hF⟩ := ax_look htg h
  have h9 := hF l D tc q p e s m args below meth cd A H locs ls C0 hP hD hS hl hL (ax_c2 hst).2 hμ
  refine lv_lookup hx hb hd ?_ (by rw [ax_ti hx1]; exact ho) hg h9
  rw [List.all_eq_true] at hsort ⊢
  intro w hw
  simp only [← List.map_drop] at hw
  rw [List.zip_map, List.mem_map] at hw
  obtain ⟨w', hw', rfl⟩ := hw
  exact hsort w' hw'
/-! calls -/
theorem ax_goodW {k : Nat} {w : Cond} (h : w ∈ ax_wsA) : w ∈ ax_ws k ∧ ((w.onTables && w.keeps) = true ∨ ∃ ty, w = .arrayClass ty) := ⟨List.mem_cons_of_mem _ h, good_of_word (List.mem_filter.mp h).2⟩
theorem ax_goodA {k b : Nat} (hb : b < ax_K) : GoodIn (ax_ws k) (ax_ws b) := by
  intro w hw
  rcases List.mem_cons.mp hw with rfl | hw
  · exact ax_goodW (ax_codeIn b hb)
  · exact ax_goodW hw
theorem ax_goodV {k b a : Nat} (hb : b < ax_K) (h1 : .methodLink (ax_y k).cls a (ax_y b) ∈ ax_wsA) (h2 : .instanceMethod (ax_y b) ∈ ax_wsA) (h3 : .selects (ax_y b).cls (ax_y b) (ax_y b) ∈ ax_wsA) (h4 : .initialized (ax_y b).cls ∈ ax_wsA) : GoodIn (ax_ws k) (wsV (ax_y k).cls a (ax_y b).cls (ax_y b) (ax_ws b)) := by
  intro w hw
  rcases List.mem_append.mp hw with h | h
  · simp only [List.mem_cons, List.not_mem_nil, or_false] at h
    rcases h with rfl | rfl | rfl | rfl
    · exact ax_goodW h1
    · exact ax_goodW h2
    · exact ax_goodW h3
    · exact ax_goodW h4
  · exact ax_goodA hb w h
theorem ax_goodS {k b a : Nat} (hb : b < ax_K) (h1 : .methodLink (ax_y k).cls a (ax_y b) ∈ ax_wsA) (h2 : .static (ax_y b) ∈ ax_wsA) (h4 : .initialized (ax_y b).cls ∈ ax_wsA) : GoodIn (ax_ws k) (va_wsS (ax_y k).cls a (ax_y b) (ax_ws b)) := by
  intro w hw
  rcases List.mem_append.mp hw with h | h
  · simp only [List.mem_cons, List.not_mem_nil, or_false] at h
    rcases h with rfl | rfl | rfl
    · exact ax_goodW h1
    · exact ax_goodW h2
    · exact ax_goodW h4
  · exact ax_goodA hb w h
theorem ax_KC_to {q : (Nat → Nat) × Value} {A A' : Nat → Prop} {s U : State} {H : Heap} {locs : List Loc} (h : ax_KC q A s s.heap) (hS : va_S A s.heap H locs) (hA : ∀ x, A' x → A x) (hU : U.heap = H) (hW : s.WarmedH U.vm) : ax_KC q A' U U.heap := by
  rw [hU]
  obtain ⟨h1, h2, h3, h4, h5, h6⟩ := h
  exact ⟨vk_S.moved hW.alike ((h1.kept hS.2.1).narrow hA), fun i hi => (h2 i hi).warm hW, va_Z.moved hW.alike ((h3.kept hS.2.1).narrow hA), va_Z.moved hW.alike ((h4.kept hS.2.1).narrow hA), h5, fun j hj => ⟨va_Z.moved hW.alike (((h6 j hj).1.kept hS.2.1).narrow hA), va_T.moved hW.alike (((h6 j hj).2.kept hS.2.1).narrow hA)⟩⟩
theorem ax_KC_call {q : (Nat → Nat) × Value} {A : Nat → Prop} {U : State} {g : JFrame} {mk : MethodId} {a : Array Value} (h : ax_KC q A U U.heap) : ax_KC q A (U.calling g mk a) (U.calling g mk a).heap := by
  obtain ⟨h1, h2, h3, h4, h5, h6⟩ := h
  exact ⟨vk_S.moved (Vm.Alike.refl U.vm) h1, fun i hi => vk_R.same (u := U) rfl (h2 i hi), va_Z.moved (Vm.Alike.refl U.vm) h3, va_Z.moved (Vm.Alike.refl U.vm) h4, h5, fun j hj => ⟨va_Z.moved (Vm.Alike.refl U.vm) (h6 j hj).1, va_T.moved (Vm.Alike.refl U.vm) (h6 j hj).2⟩⟩
theorem ax_callQ {p : Program} {l : Launch} {e : Env} {R : Room} {s : State} {m : MethodId} {args : Array Value} {below : List Frame} {meth : Method} {c : Code} {H : Heap} {locs : List Loc} {Qf : State → Prop} {pc : Nat} {ls : Array Slot} {st0 rest : List Value} {sd : Nat × Nat} {rk : Nat} {q : (Nat → Nat) × Value} {tc : Nat → ClassId} {D : va_G} {A0 A1 : Nat → Prop} {Q' : AV → Mem → Prop} {a : Array Value} {free : Addr → Prop} {H0 : Heap} {cells slots : Nat}
    (hr : va_Run p l e R s m args below meth c H locs cells slots 0 0 (F0 m pc ls st0) rest (ax_QC sd rk q tc D A1 Q' a) free) (hS : va_S A0 H0 H locs) (hA : ∀ x, x < H.size → A1 x → A0 x) (hf : ∀ x, free x → A0 x)
    (kk : ∀ (r : AV) (μ' : Mem) (t : State) (H1 : Heap) (locs1 : List Loc), t.heap = H1 → s.vm.Alike t.vm → ax_okv r → ax_okm μ' → Q' r μ' → va_P D ax_cl (ax_wd sd q tc μ') H1 → va_K D ax_cl (ax_tys tc) t → va_D A1 (ax_wd sd q tc μ') → va_S A0 H0 H1 locs1 → H.size ≤ H1.size → (∀ x : Nat, x < H.size → ¬ A1 x → H1[x]? = H[x]?) → W p l e R s m args below meth c H1 locs1 cells slots Qf (F0 m (pc + 3) ls ((ax_rvo rk q r).toList ++ rest))) : W p l e R s m args below meth c H locs cells slots Qf (F0 m pc ls st0) := by
  intro T hT X
  obtain ⟨v, st₀, t, T', L, h0, X', hL, e1, e2, ⟨⟨r, μ', hv, ho, hm, hp, hP, hK, hD⟩, hz, hk⟩, st⟩ := hr T hT X
  have hv := Outcome.returned.inj hv
  subst hv
  rw [h0] at hz hk
  obtain ⟨t2, a1, b1⟩ := kk r μ' t T'.heap (locs ++ L) e1.symm (by rw [← e2]; exact X'.warmed.alike) ho hm hp (by rw [e1]; exact hP) hK hD
    ⟨Nat.le_trans hS.1 (by rw [e1]; exact hz), fun x h1 h2 => by rw [e1, hk x (Nat.lt_of_lt_of_le h1 hS.1) (fun w => h2 (hA x (Nat.lt_of_lt_of_le h1 hS.1) w))]; exact hS.2.1 x h1 h2, fun x hx => by
      rcases List.mem_append.mp hx with h | h
      · exact hS.2.2 x h
      · exact hf _ (hL x h)⟩ (by rw [e1]; exact hz) (fun x h1 h2 => by rw [e1]; exact hk x h1 h2) T' rfl X'
  exact ⟨t2, st t2 a1, b1⟩
def ax_push (b : Nat) (v : AV) (st : List AV) : List AV := match ax_rk b with
  | 0 => st
  | _ => v :: st
theorem ax_push_map {b : Nat} {v : AV} {st : List AV} {q : (Nat → Nat) × Value} : (ax_rvo (ax_rk b) q v).toList ++ st.map (ax_rv q) = (ax_push b v st).map (ax_rv q) := by
  unfold ax_push ax_rvo
  generalize ax_rk b = rr
  cases rr <;> rfl
theorem ax_push_ok {b : Nat} {v : AV} {st : List AV} (hv : ax_okv v) (h : ∀ w ∈ st, ax_okv w) : ∀ w ∈ ax_push b v st, ax_okv w := by
  unfold ax_push
  split
  · exact h
  · exact ax_cc hv h
theorem ax_catsum {q : (Nat → Nat) × Value} : ∀ {st : List AV}, (st.map fun v => (ax_rv q v).category).sum ≤ 2 * st.length
  | [] => by simp
  | v :: st => by
    have := ax_catsum (q := q) (st := st)
    have h2 : (ax_rv q v).category ≤ 2 := by rcases lv_cat (ax_rv q v) with h | h <;> omega
    simp only [List.map_cons, List.sum_cons, List.length_cons]
    omega
theorem ax_free {sd : Nat × Nat} {q : (Nat → Nat) × Value} {tc : Nat → ClassId} {μ : Mem} {A : Nat → Prop} {H0 H : Heap} {locs : List Loc} (hD : va_D A (ax_wd sd q tc μ)) (hS : va_S A H0 H locs) (hA : ∀ x : Nat, H0.size ≤ x → A x) : ∀ x, va_A (ax_wd sd q tc μ) H.size x → A x := by
  intro x h
  rcases h with ⟨j, e, h⟩ | h
  · exact hD.2 j _ h
  · exact hA x (Nat.le_trans hS.1 h)
theorem ax_callV {k i : Nat} {L : List AV} {μ : Mem} {Q : AV → Mem → Prop} {a b c : Nat} {z : Int} {t : List (Int × Nat)} {d' r : Nat} {as st' : List AV} {Q' : AV → Mem → Prop} (hop : ax_ok k i (56, a, b, c, z, t) = true)
    (hrc : (ax_inS k r = true ∧ ∃ ks : List Nat, ax_cd r = (0, ax_mciL.getD b 99, ks)) ∨ (ax_str r = true ∧ ax_mciL.getD b 99 = 50)) (hac : as.length = c) (hst0 : st'.length ≤ 4)
    (hG : GM d' b (xR r :: as) μ Q') (h : ∀ v μ', Q' v μ' → ax_SW (d' + 1) k (i + 1) L (ax_push b v st') μ' Q) : ax_SW (d' + 1) k i L (as.reverse ++ xR r :: st') μ Q := by
  intro l D tc q p e s m args below meth cd A H locs ls C hP hD hS hl hL hst hμ
  have C0 := C
  obtain ⟨hk, hx, hb, hr, hml, hown, hts, hlk, hK, hKC, hA⟩ := C
  simp only [ax_ok, Bool.and_eq_true, decide_eq_true_eq] at hop
  obtain ⟨⟨⟨⟨⟨⟨⟨hq, w1⟩, w2⟩, w3⟩, w4⟩, hpar⟩, hbK⟩, hsd⟩ := hop
  obtain ⟨hd, hpc⟩ := ax_bs_dq hq
  have hbK := ax_blt hbK
  have hr0 : r ≠ 150 := by
    rcases hrc with ⟨-, ks, hcd⟩ | ⟨hs, -⟩
    · intro e; rw [e, ax_cd_out (by decide)] at hcd; cases hcd
    · simp only [ax_str, Bool.and_eq_true] at hs
      have := ax_blt hs.2
      omega
  have hok : ∀ v ∈ xR r :: as, ax_okv v := ax_cc trivial (fun v hv => hst v (List.mem_append_left _ (List.mem_reverse.mpr hv)))
  have hst' : ∀ v ∈ st', ax_okv v := fun v hv => hst v (List.mem_append_right _ (List.mem_cons_of_mem _ hv))
  have hM := hG hok hμ l D tc q H.size
  rw [hsd] at hM
  have hFc := ax_free hD hS hA
  have hn := ax_okN hbK
  have hml' := hn.2.1
  have hrecv : ∃ cell : Cell, H[q.1 r]? = some cell ∧ cell.vm.isStatics = false ∧ s.vm.findClass (ax_y b).cls = some cell.cls := by
    rcases hrc with ⟨hin, ks, hcd⟩ | ⟨hs, h50⟩
    · obtain ⟨hr1, hr2⟩ := ax_inS_e hin
      obtain ⟨cq, hcq, hlen⟩ := ax_cd_cl r _ ks hcd
      have he := ax_wd_get (q := q) (tc := tc) (μ := μ) hr1 hr2
      rw [ax_cE0 hcd] at he
      have := va_recv hK hP hcq he
      rw [(ax_mci_ok b hbK).2 cq hcq] at this
      exact this
    · rw [(ax_mci_ok b hbK).1 h50]
      simp only [ax_str, Bool.and_eq_true] at hs
      have r1 := Nat.le_of_ble_eq_true hs.1
      have r2 := ax_blt hs.2
      have := vk_recv hKC.1 (show r - 100 < 17 by omega) hS
      simp only [show 100 + (r - 100) = r by omega] at this
      exact this
  have estk : (as.reverse ++ xR r :: st').map (ax_rv q) = (as.map (ax_rv q)).reverse ++ Value.ref (q.1 r) :: st'.map (ax_rv q) := by
    rw [List.map_append, List.map_cons, ax_rvR hr0, List.map_reverse]
  rw [estk]
  have eav : (xR r :: as).map (ax_rv q) = Value.ref (q.1 r) :: as.map (ax_rv q) := by rw [List.map_cons, ax_rvR hr0]
  rw [eav] at hM
  refine ax_callQ (va_runV (As := as.map (ax_rv q)) (rest := st'.map (ax_rv q)) ⟨hx, hb, hml, hown, hts⟩ hM (cwV c hts (ax_goodV hbK (ax_inM w1) (ax_inM w2) (ax_inM w3) (ax_inM w4)) rfl rfl rfl ⟨rfl, hn.2.2.2.1, hn.2.2.2.2, hpar⟩ ⟨Nat.le_refl _, by show 8 + (ax_ml b + 11) + 40 * d' ≤ 40 * (d' + 1); omega⟩) ⟨fun a U g mk w => by
      obtain ⟨q0, q1, qP, qK, qD, qC⟩ := w
      exact ⟨q0, q1, qP, va_K.moved (u := U) (U := U.calling g mk a) (Vm.Alike.refl U.vm) qK, qD, ax_KC_call qC⟩, hrecv, fun U hU hW => ⟨rfl, by rw [hU], by rw [hU]; exact hP, va_K.moved hW.alike hK, hD.weaken (fun _ _ _ _ => trivial), ax_KC_to hKC hS hFc hU hW⟩⟩ rfl (by rw [List.length_map]; exact hac) hl.1 rfl (lv_room (by
        have := ax_catsum (q := q) (st := st')
        rw [List.map_map]
        show (st'.map fun v => (ax_rv q v).category).sum ≤ 8
        omega)) hd ⟨Nat.le_refl _, Nat.le_refl _⟩) hS (fun x _ w => hFc x w) hFc (fun v μ' t H1 locs1 ht hvm hv hm hQ hP1 hK1 hD1 hS1 _ _ => ?_)
  have h9 := h v μ' hQ l D tc q p e s m args below meth cd A H1 locs1 ls C0 hP1 (hD1.weaken (fun _ w _ hw => hFc w.1 hw)) hS1 hl hL (ax_push_ok hv hst') hm
  rw [hpc] at h9
  rw [ax_push_map]
  exact h9
theorem ax_callS {k i : Nat} {L : List AV} {μ : Mem} {Q : AV → Mem → Prop} {a b c : Nat} {z : Int} {t : List (Int × Nat)} {d' : Nat} {as st' : List AV} {Q' : AV → Mem → Prop} (hop : ax_ok k i (57, a, b, c, z, t) = true) (hac : as.length = c) (hst0 : st'.length ≤ 4)
    (hG : GM d' b as μ Q') (h : ∀ v μ', Q' v μ' → ax_SW (d' + 1) k (i + 1) L (ax_push b v st') μ' Q) : ax_SW (d' + 1) k i L (as.reverse ++ st') μ Q := by
  intro l D tc q p e s m args below meth cd A H locs ls C hP hD hS hl hL hst hμ
  have C0 := C
  obtain ⟨hk, hx, hb, hr, hml, hown, hts, hlk, hK, hKC, hA⟩ := C
  simp only [ax_ok, Bool.and_eq_true, decide_eq_true_eq] at hop
  obtain ⟨⟨⟨⟨⟨⟨hq, w1⟩, w2⟩, w4⟩, hpar⟩, hbK⟩, hsd⟩ := hop
  obtain ⟨hd, hpc⟩ := ax_bs_dq hq
  have hbK := ax_blt hbK
  have hok : ∀ v ∈ as, ax_okv v := fun v hv => hst v (List.mem_append_left _ (List.mem_reverse.mpr hv))
  have hst' : ∀ v ∈ st', ax_okv v := fun v hv => hst v (List.mem_append_right _ hv)
  have hM := hG hok hμ l D tc q H.size
  rw [hsd] at hM
  have hFc := ax_free hD hS hA
  have hn := ax_okN hbK
  have hml' := hn.2.1
  have estk : (as.reverse ++ st').map (ax_rv q) = (as.map (ax_rv q)).reverse ++ st'.map (ax_rv q) := by
    rw [List.map_append, List.map_reverse]
  rw [estk]
  refine ax_callQ (va_runS (As := as.map (ax_rv q)) (rest := st'.map (ax_rv q)) ⟨hx, hb, hml, hown, hts⟩ hM (va_cwS c hts (ax_goodS hbK (ax_inM w1) (ax_inM w2) (ax_inM w4)) rfl rfl rfl ⟨hn.2.2.2.1, hn.2.2.2.2, hpar⟩ ⟨Nat.le_refl _, by show 8 + (ax_ml b + 11) + 40 * d' ≤ 40 * (d' + 1); omega⟩) ⟨fun a U g mk w => by
      obtain ⟨q0, q1, qP, qK, qD, qC⟩ := w
      exact ⟨q0, q1, qP, va_K.moved (u := U) (U := U.calling g mk a) (Vm.Alike.refl U.vm) qK, qD, ax_KC_call qC⟩, fun U hU hW => ⟨rfl, by rw [hU], by rw [hU]; exact hP, va_K.moved hW.alike hK, hD.weaken (fun _ _ _ _ => trivial), ax_KC_to hKC hS hFc hU hW⟩⟩ rfl (by rw [List.length_map]; exact hac) hl.1 rfl (lv_room (by
        have := ax_catsum (q := q) (st := st')
        rw [List.map_map]
        show (st'.map fun v => (ax_rv q v).category).sum ≤ 8
        omega)) hd ⟨Nat.le_refl _, Nat.le_refl _⟩) hS (fun x _ w => hFc x w) hFc (fun v μ' t H1 locs1 ht hvm hv hm hQ hP1 hK1 hD1 hS1 _ _ => ?_)
  have h9 := h v μ' hQ l D tc q p e s m args below meth cd A H1 locs1 ls C0 hP1 (hD1.weaken (fun _ w _ hw => hFc w.1 hw)) hS1 hl hL (ax_push_ok hv hst') hm
  rw [hpc] at h9
  rw [ax_push_map]
  exact h9
theorem ax_s61 {k i : Nat} {L st : List AV} {μ : Mem} {Q : AV → Mem → Prop} {a b c : Nat} {z : Int} {t : List (Int × Nat)} {d' : Nat} {x y : Int} (hop : ax_ok k i (61, a, b, c, z, t) = true) (hst0 : st.length ≤ 4) (h : ax_SW (d' + 1) k (i + 1) L (xI (max x y) :: st) μ Q) : ax_SW (d' + 1) k i L (xI y :: xI x :: st) μ Q := by
  intro l D tc q p e s m args below meth cd A H locs ls C hP hD hS hl hL hst hμ
  have C0 := C
  obtain ⟨hk, hx, hb, hr, hml, hown, hts, hlk, hK, hKC, hA⟩ := C
  simp only [ax_ok, Bool.and_eq_true] at hop
  obtain ⟨⟨⟨⟨hq, w1⟩, w2⟩, w3⟩, w4⟩ := hop
  obtain ⟨hd, hpc⟩ := ax_bs_dq hq
  have hy : ax_r32 y := (ax_c2 hst).1
  have hx1 : ax_r32 x := (ax_c2 (ax_c2 hst).2).1
  have hm : ax_r32 (max x y) := by unfold ax_r32 at *; omega
  have h9 := h l D tc q p e s m args below meth cd A H locs ls C0 hP hD hS hl hL (ax_cc hm (ax_c2 (ax_c2 hst).2).2) hμ
  rw [hpc] at h9
  refine va_mmax hx hb (by rw [hml]; exact hl.1.symm) hown (ax_wsm hts _ (ax_inM w1)) (ax_wsm hts _ (ax_inM w2)) (ax_wsm hts _ (ax_inM w3)) (ax_wsm hts _ (ax_inM w4)) (by show 1 ≤ d' + 1; omega) (by
    have := ax_catsum (q := q) (st := st)
    rw [List.map_map]
    show (st.map fun v => (ax_rv q v).category).sum + 13 ≤ 40 * (d' + 1)
    omega) (Nat.le_refl _) (Nat.le_refl _) hd ?_
  have ev : (if Int32.ofInt x < Int32.ofInt y then Int32.ofInt y else Int32.ofInt x) = Int32.ofInt (max x y) := by
    by_cases hc : x < y
    · rw [if_pos ((ax_ltI hx1 hy).mpr hc), show max x y = y by omega]
    · rw [if_neg (fun w => hc ((ax_ltI hx1 hy).mp w)), show max x y = x by omega]
  rw [ev]
  exact h9
theorem ax_s62 {k i : Nat} {L st : List AV} {μ : Mem} {Q : AV → Mem → Prop} {a b c : Nat} {z : Int} {t : List (Int × Nat)} {d' : Nat} {x y : Int} (hop : ax_ok k i (62, a, b, c, z, t) = true) (hst0 : st.length ≤ 4) (h : ax_SW (d' + 1) k (i + 1) L (xI (min x y) :: st) μ Q) : ax_SW (d' + 1) k i L (xI y :: xI x :: st) μ Q := by
  intro l D tc q p e s m args below meth cd A H locs ls C hP hD hS hl hL hst hμ
  have C0 := C
  obtain ⟨hk, hx, hb, hr, hml, hown, hts, hlk, hK, hKC, hA⟩ := C
  simp only [ax_ok, Bool.and_eq_true] at hop
  obtain ⟨⟨⟨⟨hq, w1⟩, w2⟩, w3⟩, w4⟩ := hop
  obtain ⟨hd, hpc⟩ := ax_bs_dq hq
  have hy : ax_r32 y := (ax_c2 hst).1
  have hx1 : ax_r32 x := (ax_c2 (ax_c2 hst).2).1
  have hm : ax_r32 (min x y) := by unfold ax_r32 at *; omega
  have h9 := h l D tc q p e s m args below meth cd A H locs ls C0 hP hD hS hl hL (ax_cc hm (ax_c2 (ax_c2 hst).2).2) hμ
  rw [hpc] at h9
  refine va_mmin hx hb (by rw [hml]; exact hl.1.symm) hown (ax_wsm hts _ (ax_inM w1)) (ax_wsm hts _ (ax_inM w2)) (ax_wsm hts _ (ax_inM w3)) (ax_wsm hts _ (ax_inM w4)) (by show 1 ≤ d' + 1; omega) (by
    have := ax_catsum (q := q) (st := st)
    rw [List.map_map]
    show (st.map fun v => (ax_rv q v).category).sum + 13 ≤ 40 * (d' + 1)
    omega) (Nat.le_refl _) (Nat.le_refl _) hd ?_
  have ev : (if Int32.ofInt y < Int32.ofInt x then Int32.ofInt y else Int32.ofInt x) = Int32.ofInt (min x y) := by
    by_cases hc : y < x
    · rw [if_pos ((ax_ltI hy hx1).mpr hc), show min x y = y by omega]
    · rw [if_neg (fun w => hc ((ax_ltI hy hx1).mp w)), show min x y = x by omega]
  rw [ev]
  exact h9
theorem ax_s58 {k i : Nat} {L : List AV} {μ : Mem} {Q : AV → Mem → Prop} {a b c : Nat} {z : Int} {t : List (Int × Nat)} {d' rs rd l0 l1 : Nat} {nn dp sp : Int} (hop : ax_ok k i (58, a, b, c, z, t) = true) (hrs : ax_arr 1 k rs = some l0) (hrd : ax_arr 1 k rd = some l1) (h1 : 0 ≤ sp) (h2 : 0 ≤ dp) (h3 : 0 ≤ nn) (h4 : sp + nn ≤ (l0 : Int)) (h5 : dp + nn ≤ (l1 : Int)) (h : ax_SW (d' + 1) k (i + 1) L [] (xcpy μ rs rd sp.toNat dp.toNat nn.toNat) Q) : ax_SW (d' + 1) k i L [xI nn, xI dp, xR rd, xI sp, xR rs] μ Q := by
  intro l D tc q p e s m args below meth cd A H locs ls C hP hD hS hl hL hst hμ
  have C0 := C
  obtain ⟨hk, hx, hb, hr, hml, hown, hts, hlk, hK, hKC, hA⟩ := C
  simp only [ax_ok, Bool.and_eq_true] at hop
  obtain ⟨⟨⟨⟨hq, w1⟩, w2⟩, w3⟩, w4⟩ := hop
  obtain ⟨hd, hpc⟩ := ax_bs_dq hq
  obtain ⟨hins, kss, hcs⟩ := ax_arr_e hrs
  obtain ⟨hind, ksd, hcd⟩ := ax_arr_e hrd
  obtain ⟨s1, s2⟩ := ax_inS_e hins
  obtain ⟨d1, d2⟩ := ax_inS_e hind
  have hn1 : ax_r32 nn := hst (xI nn) (by simp)
  have hdp1 : ax_r32 dp := hst (xI dp) (by simp)
  have hsp1 : ax_r32 sp := hst (xI sp) (by simp)
  have rs75 : rs < 75 := by
    rcases Nat.lt_or_ge rs 75 with w | w
    · exact w
    · rw [ax_cd_out w] at hcs; cases hcs
  have rd75 : rd < 75 := by
    rcases Nat.lt_or_ge rd 75 with w | w
    · exact w
    · rw [ax_cd_out w] at hcd; cases hcd
  have hμ' : ax_okm (xcpy μ rs rd sp.toNat dp.toNat nn.toNat) := by
    intro a b
    unfold xcpy
    by_cases e : a = rd ∧ dp.toNat ≤ b ∧ b < dp.toNat + nn.toNat
    · rw [if_pos e, e.1, ax_lk_arr hcd (by decide)]
      have := hμ rs (sp.toNat + (b - dp.toNat))
      rw [ax_lk_arr hcs (by decide)] at this
      exact this
    · rw [if_neg e]; exact hμ a b
  have estk : [xI nn, xI dp, xR rd, xI sp, xR rs].map (ax_rv q) = [.int (Int32.ofInt nn), .int (Int32.ofInt dp), .ref (q.1 rd), .int (Int32.ofInt sp), .ref (q.1 rs)] := by
    simp only [List.map_cons, List.map_nil, ax_rvR (show rd ≠ 150 by omega), ax_rvR (show rs ≠ 150 by omega)]
    rfl
  rw [estk]
  have hes := ax_wd_get (q := q) (tc := tc) (μ := μ) s1 s2
  rw [ax_cE1 hcs] at hes
  have hed := ax_wd_get (q := q) (tc := tc) (μ := μ) d1 d2
  rw [ax_cE1 hcd] at hed
  refine va_copyi hx hb (by rw [hml]; exact hl.1.symm) hown (ax_wsm hts _ (ax_inM w1)) (ax_wsm hts _ (ax_inM w2)) (ax_wsm hts _ (ax_inM w3)) (ax_wsm hts _ (ax_inM w4)) hK hP hD hS (rs - (ax_sd k).1) (rd - (ax_sd k).1) 0 0 hes hed (ty := .int) rfl rfl rfl
    (by rw [ax_i0, ax_ltI hsp1 ax_r0]; omega) (by rw [ax_i0, ax_ltI hdp1 ax_r0]; omega) (by rw [ax_i0, ax_ltI hn1 ax_r0]; omega) (by rw [ax_cl0 hsp1, ax_cl0 hn1]; omega) (by rw [ax_cl0 hdp1, ax_cl0 hn1]; omega) (fun _ _ => rfl) (by show 1 ≤ d' + 1; omega) (by
      show 0 + (7 + 11) ≤ 40 * (d' + 1)
      omega) hd (fun H1 locs1 hP1 hD1 hS1 => ?_)
  rw [ax_cl0 hsp1, ax_cl0 hdp1, ax_cl0 hn1] at hP1 hD1
  have ew := ax_wd_set (q := q) (tc := tc) (μ := μ) (μ' := xcpy μ rs rd sp.toNat dp.toNat nn.toNat) (e := .inl (tc 0, l1, .inl (va_cpy (fun j => Int32.ofInt (μ rs j)) (fun j => Int32.ofInt (μ rd j)) sp.toNat dp.toNat nn.toNat))) d1 d2 (by
    rw [ax_cE1 hcd]
    congr 3
    refine congrArg Sum.inl (funext fun j => ?_)
    unfold va_cpy xcpy
    by_cases e : dp.toNat ≤ j ∧ j < dp.toNat + nn.toNat
    · rw [if_pos e, if_pos ⟨rfl, e⟩]
    · rw [if_neg e, if_neg (fun w => e w.2)]) (fun i' hi' j' => by unfold xcpy; rw [if_neg (fun w => hi' w.1)])
  rw [← hpc]
  exact h l D tc q p e s m args below meth cd A H1 locs1 ls C0 (ew ▸ hP1) (ew ▸ hD1) hS1 hl hL (fun _ w => by cases w) hμ'
/-! a method's contract out of its entry -/
theorem ax_lgsl : ∀ {vs : List Value}, (∀ v ∈ vs, v.category = 1) → (lg_sl vs).length = vs.length ∧ ∀ (j i : Nat) (v : Value), vs[i]? = some v → (j + i, v) ∈ lv_args j vs
  | [], _ => ⟨rfl, fun j i v h => by simp at h⟩
  | w :: vs, h => by
    obtain ⟨h1, h2⟩ := ax_lgsl (vs := vs) (fun v hv => h v (List.mem_cons_of_mem _ hv))
    have hw := h w List.mem_cons_self
    refine ⟨?_, fun j i v hv => ?_⟩
    · have e : lg_sl (w :: vs) = [.val w] ++ lg_sl vs := by
        unfold lg_sl
        rw [List.flatMap_cons, if_neg (by rw [hw]; decide)]
      rw [e, List.length_append, h1]
      simp [Nat.add_comm]
    · show (j + i, v) ∈ (j, w) :: lv_args (if w.category = 2 then j + 2 else j + 1) vs
      rw [if_neg (by rw [hw]; decide)]
      cases i with
      | zero =>
        have e : w = v := Option.some.inj hv
        rw [e]
        exact List.mem_cons_self
      | succ i =>
        have := h2 (j + 1) i v hv
        rw [show j + 1 + i = j + (i + 1) by omega] at this
        exact List.mem_cons_of_mem _ this
theorem ax_gm {d k : Nat} {av : List AV} {μ : Mem} {Q : AV → Mem → Prop} (hk : k < ax_K) (hlen : av.length ≤ ax_ml k) (hnl : ∀ v ∈ av, ∀ z, v ≠ xL z) (h : ax_SW d k 0 (av ++ List.replicate (ax_ml k - av.length) (xL 0)) [] μ Q) : GM d k av μ Q := by
  intro hav hμ l D tc q sz
  have hN := ax_okN hk
  refine Met.ofW (cc := ax_bs k) (maxL := ax_ml k) (ret := ax_rt k) hN.2.2.1 rfl ?_
  intro p e s m args below meth c s₁ B hml hv
  obtain ⟨rfl, hsz, hP, hK, hD0, hKC⟩ := hv
  have hts := atoms_spec (ws := ax_ws k) B.pre
  subst hsz
  have hD := hD0.self (sz := s.heap.size)
  generalize hAe : va_A (ax_wd (ax_sd k) q tc μ) s.heap.size = A at hD hKC ⊢
  have hA : ∀ x : Nat, s.heap.size ≤ x → A x := fun x h => by rw [← hAe]; exact Or.inr h
  have hcat : ∀ v ∈ av.map (ax_rv q), v.category = 1 := fun v hv => by
    obtain ⟨w, hw, rfl⟩ := List.mem_map.mp hv
    exact ax_cat1 hKC.2.2.2.2.1 w (hnl w hw)
  obtain ⟨g1, g2⟩ := ax_lgsl hcat
  have hl := lv_entry (av.map (ax_rv q)) (n := ax_ml k) (by rw [g1, List.length_map]; exact hlen)
  rw [lg_entry_eq]
  generalize (lg_sl (av.map (ax_rv q)) ++ List.replicate (ax_ml k - (lg_sl (av.map (ax_rv q))).length) Slot.unset).toArray = ls at hl ⊢
  have hLH : ax_LH q ls (ax_ml k) (av ++ List.replicate (ax_ml k - av.length) (xL 0)) := by
    refine ⟨hl.1, by rw [List.length_append, List.length_replicate]; omega, hl.2.1, fun i v hv => ?_⟩
    by_cases hi : i < av.length
    · rw [List.getElem?_append_left hi] at hv
      have h3 := g2 0 i (ax_rv q v) (by rw [List.getElem?_map, hv]; rfl)
      rw [Nat.zero_add] at h3
      exact Or.inr (hl.2.2 _ h3)
    · rw [List.getElem?_append_right (by omega)] at hv
      exact Or.inl ⟨0, List.eq_of_mem_replicate (List.mem_of_getElem? hv)⟩
  have hLo : ∀ v ∈ av ++ List.replicate (ax_ml k - av.length) (xL 0), ax_okv v := fun v hv => by
    rcases List.mem_append.mp hv with h1 | h1
    · exact hav v h1
    · rw [List.eq_of_mem_replicate h1]; exact ⟨by decide, by decide⟩
  have h9 := h l D tc q p e s m _ below meth c A s.heap [] ls ⟨hk, B.exec, B.bytes, B.returns, hml, findClass_of_methodNamed B.named, hts, B.notSynchronized, hK, hKC, hA⟩ hP hD va_S.rf hLH hLo (fun _ w => by cases w) hμ
  rw [hN.1] at h9
  exact h9
