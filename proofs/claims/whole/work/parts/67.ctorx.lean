theorem ax_ao_w {u U : State} (h : u.WarmedH U.vm) (g : (Cond.arrayOver (.array .int)).before #[] u = true) : (Cond.arrayOver (.array .int)).before #[] U = true := arrayOver_alikeB h.alike g
theorem ax_ao_c {U : State} {f : JFrame} {mk : MethodId} {a : Array Value} (g : (Cond.arrayOver (.array .int)).before #[] U = true) : (Cond.arrayOver (.array .int)).before #[] (U.calling f mk a) = true := arrayOver_alikeB (s := U) (U := U.calling f mk a) (Vm.Alike.refl U.vm) g
def ax_exX (U : State) : Prop := va_AO "InnChanged$Now" U ∧ (Cond.arrayOver (.array .int)).before #[] U = true ∧ va_Nw (.methodLinkNest "InnChanged" 9 yi_Text "InnChanged") U ∧ va_Nw (.methodLinkNest "InnChanged" 18 yi_Told "InnChanged") U ∧ va_Nw (.methodLinkNest "InnChanged" 42 yi_Seen "InnChanged") U
theorem ax_exX_w {u U : State} (h : u.WarmedH U.vm) (g : ax_exX u) : ax_exX U := ⟨va_AO.moved h.alike g.1, ax_ao_w h g.2.1, va_Nw.warmM h g.2.2.1, va_Nw.warmM h g.2.2.2.1, va_Nw.warmM h g.2.2.2.2⟩
theorem ax_exX_c {U : State} {f : JFrame} {mk : MethodId} {a : Array Value} (g : ax_exX U) : ax_exX (U.calling f mk a) := ⟨va_AO.moved (u := U) (U := U.calling f mk a) (Vm.Alike.refl U.vm) g.1, ax_ao_c g.2.1, va_Nw.same rfl (u := U) rfl g.2.2.1, va_Nw.same rfl (u := U) rfl g.2.2.2.1, va_Nw.same rfl (u := U) rfl g.2.2.2.2⟩
section CT2
variable {p : Program} {l : Launch} {e : Env} {R : Room} {s : State} {m : MethodId} {args : Array Value} {below : List Frame} {meth : Method} {c : Code} {H : Heap} {locs : List Loc} {cells slots : Nat} {Q : State → Prop}
variable {cc : ByteArray} {pc : Nat} {ls : Array Slot} {rest : List Value} {D : va_G} {A : Nat → Prop} {ws : va_W} {H0 : Heap} {tc : Nat → ClassId}
theorem ax_outer (c : ClassId) (N h0 : Nat) : ∀ i : Nat, Jvm.Free.Multi.outerC c N h0 i = arrV c N (fun j => va_rf (if j < i then some (h0 + 1 + j) else none))
  | 0 => by
    show ({ cls := c, slots := Array.replicate N .null, vm := .none } : Cell) = _
    rw [arrV_new]
    refine congrArg (arrV c N) (funext fun j => ?_)
    simp [va_rf]
  | i + 1 => by
    show (Jvm.Free.Multi.outerC c N h0 i).setSlot i (.ref (h0 + 1 + i)) = _
    rw [ax_outer c N h0 i, arrV_store]
    refine congrArg (arrV c N) (funext fun j => ?_)
    by_cases e : j = i
    · subst e
      simp [updV, va_rf]
    · by_cases h : j < i
      · simp [updV, e, h, Nat.lt_succ_of_lt h]
      · simp [updV, e, h, show ¬ j < i + 1 by omega]
theorem ax_mna {own : String} {index : Nat} (hx : p.tables.exec = Jvm.exec) (hb : c.code = cc) (hts : ∀ w ∈ ax_wsA, w.before args s = true) (hown : s.vm.findClass own = some m.cls) (hclink : (Cond.classLink own index "[[I").before args s = true) (hover : (Cond.arrayOver (.array .int)).before #[] s = true) (hK : va_K D ax_cl (ax_tys tc) s) (hP : va_P D ax_cl ws H) (hD : va_D A ws) (hS : va_S A H0 H locs) (hA : ∀ q : Nat, H0.size ≤ q → A q) (hcells : cells + (1 + 7) ≤ R.cells) (hslots : slots + (7 + 7 * 64) ≤ R.slots) (hdg : decode cc pc = .ok (.multianewarray index 2, 4))
    (kk : ∀ (q : Nat) (r : Nat → Nat) (H1 : Heap), va_P D ax_cl ((ws ++ [(q, (.inl (tc 3, 7, .inr (.inr (.inr (.inr (fun i => if i < 7 then some (r i) else none))))) : va_E))]) ++ (List.range 7).map (fun i => (r i, (.inl (tc 0, 64, .inl (fun _ => 0)) : va_E)))) H1 → va_D A ((ws ++ [(q, (.inl (tc 3, 7, .inr (.inr (.inr (.inr (fun i => if i < 7 then some (r i) else none))))) : va_E))]) ++ (List.range 7).map (fun i => (r i, (.inl (tc 0, 64, .inl (fun _ => 0)) : va_E)))) → va_S A H0 H1 locs → W p l e R s m args below meth c H1 locs (cells + 1 + 7) (slots + 7 + 7 * 64) Q (F0 m (pc + 4) ls (.ref q :: rest))) : W p l e R s m args below meth c H locs cells slots Q (F0 m pc ls (.int 64 :: .int 7 :: rest)) := by
  intro T hT Xs
  have e7 : (7 : Int32).toNatClampNeg = 7 := by decide
  have e64 : (64 : Int32).toNatClampNeg = 64 := by decide
  obtain ⟨vm₁, cA, comp, -, fA, fC, hO, -, X', step⟩ := Xs.multianewarray2F (ty := .int) (own := own) (index := index) (n := 7) (k := 64) hx hown hclink hover (hts _ (ax_inM (i := 143) (by decide +kernel))) (g := F0 m pc ls (.int 64 :: .int 7 :: rest)) rfl (by rw [hb]; exact hdg) rfl (by decide) (by decide) (by decide) (by decide) (by decide) rfl rfl (by rw [e7]; exact hcells) (by rw [e7, e64]; exact hslots)
  rw [e7, e64] at X'
  simp only [e7, e64] at step
  have ec : comp = tc 0 := Option.some.inj (fC.symm.trans (hK.2 0 _ rfl).2)
  have eA : cA = tc 3 := Option.some.inj (fA.symm.trans (hK.2 3 _ rfl).2)
  subst ec
  subst eA
  generalize hF : Jvm.Free.Multi.fill (T.setVm vm₁) (tc 3) (tc 0) 7 64 (defaultValue .int) 7 = F at X' step
  have hTh : (T.setVm vm₁).heap = H := hT
  obtain ⟨f1, f2, -, -⟩ := Jvm.Free.Multi.fill_facts (T.setVm vm₁) (tc 3) (tc 0) 7 64 (defaultValue .int) 7
  rw [hF, hTh] at f1 f2
  have hold : ∀ x : Nat, x < H.size → F.heap[x]? = H[x]? := fun x hx => by
    have := Jvm.Free.Multi.fill_old (T.setVm vm₁) (tc 3) (tc 0) 7 64 (defaultValue .int) (a := x) (by rw [hTh]; exact hx) 7
    rw [hF, hTh] at this
    exact this
  have hz : Jvm.Free.Multi.innerC (tc 0) 64 (defaultValue .int) = vp_cell (tc 0) (64, .inl (fun _ => 0)) := by
    show ({ cls := tc 0, slots := Array.replicate 64 (defaultValue .int), vm := .none } : Cell) = _
    rw [arrV_new]
    rfl
  have hrow : ∀ j : Nat, j < 7 → F.heap[H.size + 1 + j]? = some (vp_cell (tc 0) (64, .inl (fun _ => 0))) := fun j hj => by
    have := Jvm.Free.Multi.fill_inner (T.setVm vm₁) (tc 3) (tc 0) 7 64 (defaultValue .int) 7 j hj
    rw [hF, hTh, hz] at this
    exact this
  have hout : Jvm.Free.Multi.outerC (tc 3) 7 H.size 7 = vp_cell (tc 3) (7, .inr (.inr (.inr (.inr (fun i => if i < 7 then some (H.size + 1 + i) else none))))) := by
    rw [vp_cell_q]
    exact ax_outer (tc 3) 7 H.size 7
  rw [hout] at f2
  have hP0 : va_P D ax_cl ws F.heap := hP.kept (fun k9 x hx => hold x.1 ((hP k9 x hx).lt))
  have hP1 : va_P D ax_cl (ws ++ [(H.size, (.inl (tc 3, 7, .inr (.inr (.inr (.inr (fun i => if i < 7 then some (H.size + 1 + i) else none))))) : va_E))]) F.heap := hP0.app (fun k9 x hx => by
    have h0 : k9 < 1 := (List.getElem?_eq_some_iff.mp hx).1
    rw [show k9 = 0 by omega] at hx
    cases hx
    exact f2)
  have hP2 : va_P D ax_cl ((ws ++ [(H.size, (.inl (tc 3, 7, .inr (.inr (.inr (.inr (fun i => if i < 7 then some (H.size + 1 + i) else none))))) : va_E))]) ++ (List.range 7).map (fun i => (H.size + 1 + i, (.inl (tc 0, 64, .inl (fun _ => 0)) : va_E)))) F.heap := hP1.app (fun k9 x hx => by
    obtain ⟨i, hi, rfl⟩ := List.mem_map.mp (List.mem_of_getElem? hx)
    exact hrow i (List.mem_range.mp hi))
  have hD1 := hD.push (e := (.inl (tc 3, 7, .inr (.inr (.inr (.inr (fun i => if i < 7 then some (H.size + 1 + i) else none))))) : va_E)) hP rfl (hA _ hS.1)
  have hle : ∀ (k9 : Nat) (x : Nat × va_E), (ws ++ [(H.size, (.inl (tc 3, 7, .inr (.inr (.inr (.inr (fun i => if i < 7 then some (H.size + 1 + i) else none))))) : va_E))])[k9]? = some x → x.1 ≤ H.size := fun k9 x hx => by
    rcases List.mem_append.mp (List.mem_of_getElem? hx) with h | h
    · obtain ⟨i, hi⟩ := List.getElem?_of_mem h
      exact Nat.le_of_lt ((hP i x hi).lt)
    · rw [List.mem_singleton.mp h]; exact Nat.le_refl _
  have hr : ∀ (k9 : Nat) (x : Nat × va_E), ((List.range 7).map (fun i => (H.size + 1 + i, (.inl (tc 0, 64, .inl (fun _ => 0)) : va_E))))[k9]? = some x → x.1 = H.size + 1 + k9 := fun k9 x hx => by
    rw [List.getElem?_map] at hx
    by_cases h9 : k9 < 7
    · rw [List.getElem?_range h9] at hx
      cases hx
      rfl
    · rw [List.getElem?_eq_none (by rw [List.length_range]; omega)] at hx
      cases hx
  have hD2 : va_D A ((ws ++ [(H.size, (.inl (tc 3, 7, .inr (.inr (.inr (.inr (fun i => if i < 7 then some (H.size + 1 + i) else none))))) : va_E))]) ++ (List.range 7).map (fun i => (H.size + 1 + i, (.inl (tc 0, 64, .inl (fun _ => 0)) : va_E)))) := va_D.app hD1 ⟨fun i j x y hi hj h => by
      have := hr _ _ hi
      have := hr _ _ hj
      omega, fun k9 x hx => by
      rw [hr _ _ hx]
      exact hA _ (by have := hS.1; omega)⟩ (fun i j x y hi hj h => by
      have := hle _ _ hi
      have := hr _ _ hj
      omega)
  obtain ⟨t, a1, b1⟩ := kk H.size (fun i => H.size + 1 + i) F.heap hP2 hD2 ⟨by rw [f1]; have := hS.1; omega, fun x h1 h2 => (hold x (Nat.lt_of_lt_of_le h1 hS.1)).trans (hS.2.1 x h1 h2), hS.2.2⟩ F rfl X'
  refine ⟨t, step t ?_, b1⟩
  have e : T.heap.size = H.size := by rw [hT]
  rw [e]
  exact a1
end CT2
def yi_Plan : MethodName := ⟨"InnChanged$Plan", "<init>", "(LInnChanged$Told;LInnChanged$Now;)V"⟩
abbrev bi_Plan : ByteArray := prog_7_method_1_code
abbrev f0_Plan : List Value := [.null, .null, .null, .null, .null, .int 0, .int 0]
theorem di_Plan_0 : decode bi_Plan 0 = .ok (.aload_n 0, 1) := by decide +kernel
theorem di_Plan_1 : decode bi_Plan 1 = .ok (.invokespecial 3, 3) := by decide +kernel
theorem di_Plan_4 : decode bi_Plan 4 = .ok (.aload_n 0, 1) := by decide +kernel
theorem di_Plan_5 : decode bi_Plan 5 = .ok (.bipush 7, 2) := by decide +kernel
theorem di_Plan_7 : decode bi_Plan 7 = .ok (.bipush 64, 2) := by decide +kernel
theorem di_Plan_9 : decode bi_Plan 9 = .ok (.multianewarray 11 2, 4) := by decide +kernel
theorem di_Plan_13 : decode bi_Plan 13 = .ok (.putfield 13, 3) := by decide +kernel
theorem di_Plan_16 : decode bi_Plan 16 = .ok (.aload_n 0, 1) := by decide +kernel
theorem di_Plan_17 : decode bi_Plan 17 = .ok (.bipush 6, 2) := by decide +kernel
theorem di_Plan_19 : decode bi_Plan 19 = .ok (.newarray .int, 2) := by decide +kernel
theorem di_Plan_21 : decode bi_Plan 21 = .ok (.putfield 16, 3) := by decide +kernel
theorem di_Plan_24 : decode bi_Plan 24 = .ok (.aload_n 0, 1) := by decide +kernel
theorem di_Plan_25 : decode bi_Plan 25 = .ok (.bipush 6, 2) := by decide +kernel
theorem di_Plan_27 : decode bi_Plan 27 = .ok (.newarray .int, 2) := by decide +kernel
theorem di_Plan_29 : decode bi_Plan 29 = .ok (.putfield 20, 3) := by decide +kernel
theorem di_Plan_32 : decode bi_Plan 32 = .ok (.aload_n 0, 1) := by decide +kernel
theorem di_Plan_33 : decode bi_Plan 33 = .ok (.aload_n 1, 1) := by decide +kernel
theorem di_Plan_34 : decode bi_Plan 34 = .ok (.putfield 23, 3) := by decide +kernel
theorem di_Plan_37 : decode bi_Plan 37 = .ok (.aload_n 0, 1) := by decide +kernel
theorem di_Plan_38 : decode bi_Plan 38 = .ok (.aload_n 2, 1) := by decide +kernel
theorem di_Plan_39 : decode bi_Plan 39 = .ok (.putfield 27, 3) := by decide +kernel
theorem di_Plan_42 : decode bi_Plan 42 = .ok (.return_, 1) := by decide +kernel
abbrev wn_Plan (a1 a2 : Nat) (tc : Nat → ClassId) (h0 : Nat) (r : Nat → Nat → Nat) : va_W := (h0, .inr (5, [.ref a1, .ref a2, .ref (r 0 0), .ref (r 0 1), .ref (r 0 2), .int 0, .int 0])) :: [(r 0 0, .inl (tc 3, 7, .inr (.inr (.inr (.inr (fun i => if i < 7 then some (r 1 i) else none)))))), (r 1 0, .inl (tc 0, 64, .inl (fun _ => 0))), (r 1 1, .inl (tc 0, 64, .inl (fun _ => 0))), (r 1 2, .inl (tc 0, 64, .inl (fun _ => 0))), (r 1 3, .inl (tc 0, 64, .inl (fun _ => 0))), (r 1 4, .inl (tc 0, 64, .inl (fun _ => 0))), (r 1 5, .inl (tc 0, 64, .inl (fun _ => 0))), (r 1 6, .inl (tc 0, 64, .inl (fun _ => 0))), (r 0 1, .inl (tc 0, 6, .inl (fun _ => 0))), (r 0 2, .inl (tc 0, 6, .inl (fun _ => 0)))]
set_option maxHeartbeats 4000000 in
set_option maxRecDepth 100000 in
theorem ct_Plan (l : Launch) (a1 a2 : Nat) : ax_CT0 l yi_Plan bi_Plan 3 5 f0_Plan 10 467 1 40 (fun U => (Cond.arrayOver (.array .int)).before #[] U = true) [.ref a1, .ref a2] (wn_Plan a1 a2) := by
  intro D tc h0 sz
  refine Met.ofW (cc := bi_Plan) (maxL := 3) (ret := none) (by decide) rfl ?_
  intro p e s m args below meth c s₁ B hml hv
  obtain ⟨rfl, hsz, hP, hK, hD0, hex⟩ := hv
  have hx := B.exec
  have hb := B.bytes
  have hr := B.returns
  have hts : ∀ w ∈ ax_wsA, w.before _ s = true := fun w hw => atoms_spec (ws := ax_wc yi_Plan bi_Plan 3) B.pre w (List.mem_cons_of_mem _ hw)
  have hown : s.vm.findClass "InnChanged$Plan" = some m.cls := findClass_of_methodNamed B.named
  have hin : meth.name = "<init>" := (name_of_methodNamed B.named B.method).1
  subst hsz
  have hD := hD0.self (sz := s.heap.size)
  generalize hAe : va_A [(h0, (.inr (5, f0_Plan) : va_E))] s.heap.size = A at hD ⊢
  have hA : ∀ q : Nat, s.heap.size ≤ q → A q := fun q h => by rw [← hAe]; exact Or.inr h
  have hS : va_S A s.heap s.heap [] := va_S.rf
  have hP : va_P D ax_cl ((h0, .inr (5, [.null, .null, .null, .null, .null, .int 0, .int 0])) :: []) s.heap := hP
  have hD : va_D A ((h0, .inr (5, [.null, .null, .null, .null, .null, .int 0, .int 0])) :: []) := hD
  have hl := lv_entry ([.ref h0, .ref a1, .ref a2]) (n := 3) (Nat.le_of_ble_eq_true rfl)
  rw [lg_entry_eq]
  generalize (lg_sl ([.ref h0, .ref a1, .ref a2]) ++ List.replicate (3 - (lg_sl ([.ref h0, .ref a1, .ref a2])).length) Slot.unset).toArray = ls at hl ⊢
  have hl : lv_has ls 3 [(0, .ref h0), (1, .ref a1), (2, .ref a2)] := hl
  refine lv_aload_n hx hb di_Plan_0 rfl (lv_at hl 0 rfl) ?_
  refine W.objInit hx hb hown (hts _ (ax_inM (i := 295) (w := .methodLink "InnChanged$Plan" 3 objectInit) (by decide +kernel))) (hts _ (ax_inM (i := 101) (by decide +kernel))) (hts _ (ax_inM (i := 102) (by decide +kernel))) rfl (by rw [hml]; exact hl.1) rfl di_Plan_1 (Nat.le_of_ble_eq_true rfl) (Nat.le_of_ble_eq_true rfl) ?_
  refine W.eq (g2 := F0 m 4 ls []) rfl ?_
  refine lv_aload_n hx hb di_Plan_4 rfl (lv_at hl 0 rfl) ?_
  refine lv_bipush (v := 7) hx hb di_Plan_5 (by decide) ?_
  refine lv_bipush (v := 64) hx hb di_Plan_7 (by decide) ?_
  refine ax_mna hx hb hts hown (hts _ (ax_inM (i := 296) (by decide +kernel))) hex hK hP hD hS hA (Nat.le_of_ble_eq_true rfl) (Nat.le_of_ble_eq_true rfl) di_Plan_9 (fun q1 r1 H hP hD hS => ?_)
  have hP : va_P D ax_cl ((h0, .inr (5, [.null, .null, .null, .null, .null, .int 0, .int 0])) :: [(q1, .inl (tc 3, 7, .inr (.inr (.inr (.inr (fun i => if i < 7 then some (r1 i) else none)))))), (r1 0, .inl (tc 0, 64, .inl (fun _ => 0))), (r1 1, .inl (tc 0, 64, .inl (fun _ => 0))), (r1 2, .inl (tc 0, 64, .inl (fun _ => 0))), (r1 3, .inl (tc 0, 64, .inl (fun _ => 0))), (r1 4, .inl (tc 0, 64, .inl (fun _ => 0))), (r1 5, .inl (tc 0, 64, .inl (fun _ => 0))), (r1 6, .inl (tc 0, 64, .inl (fun _ => 0)))]) H := hP
  have hD : va_D A ((h0, .inr (5, [.null, .null, .null, .null, .null, .int 0, .int 0])) :: [(q1, .inl (tc 3, 7, .inr (.inr (.inr (.inr (fun i => if i < 7 then some (r1 i) else none)))))), (r1 0, .inl (tc 0, 64, .inl (fun _ => 0))), (r1 1, .inl (tc 0, 64, .inl (fun _ => 0))), (r1 2, .inl (tc 0, 64, .inl (fun _ => 0))), (r1 3, .inl (tc 0, 64, .inl (fun _ => 0))), (r1 4, .inl (tc 0, 64, .inl (fun _ => 0))), (r1 5, .inl (tc 0, 64, .inl (fun _ => 0))), (r1 6, .inl (tc 0, 64, .inl (fun _ => 0)))]) := hD
  refine ax_pf (own := "InnChanged$Plan") (ci := 5) (k := 2) (ty := .array (.array .int)) hx hb hts hown hin hK hP hD hS rfl (by decide) (ax_inM (i := 300) (by decide +kernel)) rfl (by decide +kernel) rfl rfl (Nat.le_of_ble_eq_true rfl) di_Plan_13 (fun H locs hP hD hS => ?_)
  have hP : va_P D ax_cl ((h0, .inr (5, [.null, .null, .ref q1, .null, .null, .int 0, .int 0])) :: [(q1, .inl (tc 3, 7, .inr (.inr (.inr (.inr (fun i => if i < 7 then some (r1 i) else none)))))), (r1 0, .inl (tc 0, 64, .inl (fun _ => 0))), (r1 1, .inl (tc 0, 64, .inl (fun _ => 0))), (r1 2, .inl (tc 0, 64, .inl (fun _ => 0))), (r1 3, .inl (tc 0, 64, .inl (fun _ => 0))), (r1 4, .inl (tc 0, 64, .inl (fun _ => 0))), (r1 5, .inl (tc 0, 64, .inl (fun _ => 0))), (r1 6, .inl (tc 0, 64, .inl (fun _ => 0)))]) H := hP
  have hD : va_D A ((h0, .inr (5, [.null, .null, .ref q1, .null, .null, .int 0, .int 0])) :: [(q1, .inl (tc 3, 7, .inr (.inr (.inr (.inr (fun i => if i < 7 then some (r1 i) else none)))))), (r1 0, .inl (tc 0, 64, .inl (fun _ => 0))), (r1 1, .inl (tc 0, 64, .inl (fun _ => 0))), (r1 2, .inl (tc 0, 64, .inl (fun _ => 0))), (r1 3, .inl (tc 0, 64, .inl (fun _ => 0))), (r1 4, .inl (tc 0, 64, .inl (fun _ => 0))), (r1 5, .inl (tc 0, 64, .inl (fun _ => 0))), (r1 6, .inl (tc 0, 64, .inl (fun _ => 0)))]) := hD
  refine lv_aload_n hx hb di_Plan_16 rfl (lv_at hl 0 rfl) ?_
  refine lv_bipush (v := 6) hx hb di_Plan_17 (by decide) ?_
  refine ax_newI (N' := 6) hx hb hts hK hP hD hS hA (by decide) (by decide) (by decide) (Nat.le_of_ble_eq_true rfl) (Nat.le_of_ble_eq_true rfl) di_Plan_19 (fun q2 H hP hD hS => ?_)
  have hP : va_P D ax_cl ((h0, .inr (5, [.null, .null, .ref q1, .null, .null, .int 0, .int 0])) :: [(q1, .inl (tc 3, 7, .inr (.inr (.inr (.inr (fun i => if i < 7 then some (r1 i) else none)))))), (r1 0, .inl (tc 0, 64, .inl (fun _ => 0))), (r1 1, .inl (tc 0, 64, .inl (fun _ => 0))), (r1 2, .inl (tc 0, 64, .inl (fun _ => 0))), (r1 3, .inl (tc 0, 64, .inl (fun _ => 0))), (r1 4, .inl (tc 0, 64, .inl (fun _ => 0))), (r1 5, .inl (tc 0, 64, .inl (fun _ => 0))), (r1 6, .inl (tc 0, 64, .inl (fun _ => 0))), (q2, .inl (tc 0, 6, .inl (fun _ => 0)))]) H := hP
  have hD : va_D A ((h0, .inr (5, [.null, .null, .ref q1, .null, .null, .int 0, .int 0])) :: [(q1, .inl (tc 3, 7, .inr (.inr (.inr (.inr (fun i => if i < 7 then some (r1 i) else none)))))), (r1 0, .inl (tc 0, 64, .inl (fun _ => 0))), (r1 1, .inl (tc 0, 64, .inl (fun _ => 0))), (r1 2, .inl (tc 0, 64, .inl (fun _ => 0))), (r1 3, .inl (tc 0, 64, .inl (fun _ => 0))), (r1 4, .inl (tc 0, 64, .inl (fun _ => 0))), (r1 5, .inl (tc 0, 64, .inl (fun _ => 0))), (r1 6, .inl (tc 0, 64, .inl (fun _ => 0))), (q2, .inl (tc 0, 6, .inl (fun _ => 0)))]) := hD
  refine ax_pf (own := "InnChanged$Plan") (ci := 5) (k := 3) (ty := .array .int) hx hb hts hown hin hK hP hD hS rfl (by decide) (ax_inM (i := 301) (by decide +kernel)) rfl (by decide +kernel) rfl rfl (Nat.le_of_ble_eq_true rfl) di_Plan_21 (fun H locs hP hD hS => ?_)
  have hP : va_P D ax_cl ((h0, .inr (5, [.null, .null, .ref q1, .ref q2, .null, .int 0, .int 0])) :: [(q1, .inl (tc 3, 7, .inr (.inr (.inr (.inr (fun i => if i < 7 then some (r1 i) else none)))))), (r1 0, .inl (tc 0, 64, .inl (fun _ => 0))), (r1 1, .inl (tc 0, 64, .inl (fun _ => 0))), (r1 2, .inl (tc 0, 64, .inl (fun _ => 0))), (r1 3, .inl (tc 0, 64, .inl (fun _ => 0))), (r1 4, .inl (tc 0, 64, .inl (fun _ => 0))), (r1 5, .inl (tc 0, 64, .inl (fun _ => 0))), (r1 6, .inl (tc 0, 64, .inl (fun _ => 0))), (q2, .inl (tc 0, 6, .inl (fun _ => 0)))]) H := hP
  have hD : va_D A ((h0, .inr (5, [.null, .null, .ref q1, .ref q2, .null, .int 0, .int 0])) :: [(q1, .inl (tc 3, 7, .inr (.inr (.inr (.inr (fun i => if i < 7 then some (r1 i) else none)))))), (r1 0, .inl (tc 0, 64, .inl (fun _ => 0))), (r1 1, .inl (tc 0, 64, .inl (fun _ => 0))), (r1 2, .inl (tc 0, 64, .inl (fun _ => 0))), (r1 3, .inl (tc 0, 64, .inl (fun _ => 0))), (r1 4, .inl (tc 0, 64, .inl (fun _ => 0))), (r1 5, .inl (tc 0, 64, .inl (fun _ => 0))), (r1 6, .inl (tc 0, 64, .inl (fun _ => 0))), (q2, .inl (tc 0, 6, .inl (fun _ => 0)))]) := hD
  refine lv_aload_n hx hb di_Plan_24 rfl (lv_at hl 0 rfl) ?_
  refine lv_bipush (v := 6) hx hb di_Plan_25 (by decide) ?_
  refine ax_newI (N' := 6) hx hb hts hK hP hD hS hA (by decide) (by decide) (by decide) (Nat.le_of_ble_eq_true rfl) (Nat.le_of_ble_eq_true rfl) di_Plan_27 (fun q3 H hP hD hS => ?_)
  have hP : va_P D ax_cl ((h0, .inr (5, [.null, .null, .ref q1, .ref q2, .null, .int 0, .int 0])) :: [(q1, .inl (tc 3, 7, .inr (.inr (.inr (.inr (fun i => if i < 7 then some (r1 i) else none)))))), (r1 0, .inl (tc 0, 64, .inl (fun _ => 0))), (r1 1, .inl (tc 0, 64, .inl (fun _ => 0))), (r1 2, .inl (tc 0, 64, .inl (fun _ => 0))), (r1 3, .inl (tc 0, 64, .inl (fun _ => 0))), (r1 4, .inl (tc 0, 64, .inl (fun _ => 0))), (r1 5, .inl (tc 0, 64, .inl (fun _ => 0))), (r1 6, .inl (tc 0, 64, .inl (fun _ => 0))), (q2, .inl (tc 0, 6, .inl (fun _ => 0))), (q3, .inl (tc 0, 6, .inl (fun _ => 0)))]) H := hP
  have hD : va_D A ((h0, .inr (5, [.null, .null, .ref q1, .ref q2, .null, .int 0, .int 0])) :: [(q1, .inl (tc 3, 7, .inr (.inr (.inr (.inr (fun i => if i < 7 then some (r1 i) else none)))))), (r1 0, .inl (tc 0, 64, .inl (fun _ => 0))), (r1 1, .inl (tc 0, 64, .inl (fun _ => 0))), (r1 2, .inl (tc 0, 64, .inl (fun _ => 0))), (r1 3, .inl (tc 0, 64, .inl (fun _ => 0))), (r1 4, .inl (tc 0, 64, .inl (fun _ => 0))), (r1 5, .inl (tc 0, 64, .inl (fun _ => 0))), (r1 6, .inl (tc 0, 64, .inl (fun _ => 0))), (q2, .inl (tc 0, 6, .inl (fun _ => 0))), (q3, .inl (tc 0, 6, .inl (fun _ => 0)))]) := hD
  refine ax_pf (own := "InnChanged$Plan") (ci := 5) (k := 4) (ty := .array .int) hx hb hts hown hin hK hP hD hS rfl (by decide) (ax_inM (i := 303) (by decide +kernel)) rfl (by decide +kernel) rfl rfl (Nat.le_of_ble_eq_true rfl) di_Plan_29 (fun H locs hP hD hS => ?_)
  have hP : va_P D ax_cl ((h0, .inr (5, [.null, .null, .ref q1, .ref q2, .ref q3, .int 0, .int 0])) :: [(q1, .inl (tc 3, 7, .inr (.inr (.inr (.inr (fun i => if i < 7 then some (r1 i) else none)))))), (r1 0, .inl (tc 0, 64, .inl (fun _ => 0))), (r1 1, .inl (tc 0, 64, .inl (fun _ => 0))), (r1 2, .inl (tc 0, 64, .inl (fun _ => 0))), (r1 3, .inl (tc 0, 64, .inl (fun _ => 0))), (r1 4, .inl (tc 0, 64, .inl (fun _ => 0))), (r1 5, .inl (tc 0, 64, .inl (fun _ => 0))), (r1 6, .inl (tc 0, 64, .inl (fun _ => 0))), (q2, .inl (tc 0, 6, .inl (fun _ => 0))), (q3, .inl (tc 0, 6, .inl (fun _ => 0)))]) H := hP
  have hD : va_D A ((h0, .inr (5, [.null, .null, .ref q1, .ref q2, .ref q3, .int 0, .int 0])) :: [(q1, .inl (tc 3, 7, .inr (.inr (.inr (.inr (fun i => if i < 7 then some (r1 i) else none)))))), (r1 0, .inl (tc 0, 64, .inl (fun _ => 0))), (r1 1, .inl (tc 0, 64, .inl (fun _ => 0))), (r1 2, .inl (tc 0, 64, .inl (fun _ => 0))), (r1 3, .inl (tc 0, 64, .inl (fun _ => 0))), (r1 4, .inl (tc 0, 64, .inl (fun _ => 0))), (r1 5, .inl (tc 0, 64, .inl (fun _ => 0))), (r1 6, .inl (tc 0, 64, .inl (fun _ => 0))), (q2, .inl (tc 0, 6, .inl (fun _ => 0))), (q3, .inl (tc 0, 6, .inl (fun _ => 0)))]) := hD
  refine lv_aload_n hx hb di_Plan_32 rfl (lv_at hl 0 rfl) ?_
  refine lv_aload_n hx hb di_Plan_33 rfl (lv_at hl 1 rfl) ?_
  refine ax_pf (own := "InnChanged$Plan") (ci := 5) (k := 0) (ty := .object "InnChanged$Told") hx hb hts hown hin hK hP hD hS rfl (by decide) (ax_inM (i := 298) (by decide +kernel)) rfl (by decide +kernel) rfl rfl (Nat.le_of_ble_eq_true rfl) di_Plan_34 (fun H locs hP hD hS => ?_)
  have hP : va_P D ax_cl ((h0, .inr (5, [.ref a1, .null, .ref q1, .ref q2, .ref q3, .int 0, .int 0])) :: [(q1, .inl (tc 3, 7, .inr (.inr (.inr (.inr (fun i => if i < 7 then some (r1 i) else none)))))), (r1 0, .inl (tc 0, 64, .inl (fun _ => 0))), (r1 1, .inl (tc 0, 64, .inl (fun _ => 0))), (r1 2, .inl (tc 0, 64, .inl (fun _ => 0))), (r1 3, .inl (tc 0, 64, .inl (fun _ => 0))), (r1 4, .inl (tc 0, 64, .inl (fun _ => 0))), (r1 5, .inl (tc 0, 64, .inl (fun _ => 0))), (r1 6, .inl (tc 0, 64, .inl (fun _ => 0))), (q2, .inl (tc 0, 6, .inl (fun _ => 0))), (q3, .inl (tc 0, 6, .inl (fun _ => 0)))]) H := hP
  have hD : va_D A ((h0, .inr (5, [.ref a1, .null, .ref q1, .ref q2, .ref q3, .int 0, .int 0])) :: [(q1, .inl (tc 3, 7, .inr (.inr (.inr (.inr (fun i => if i < 7 then some (r1 i) else none)))))), (r1 0, .inl (tc 0, 64, .inl (fun _ => 0))), (r1 1, .inl (tc 0, 64, .inl (fun _ => 0))), (r1 2, .inl (tc 0, 64, .inl (fun _ => 0))), (r1 3, .inl (tc 0, 64, .inl (fun _ => 0))), (r1 4, .inl (tc 0, 64, .inl (fun _ => 0))), (r1 5, .inl (tc 0, 64, .inl (fun _ => 0))), (r1 6, .inl (tc 0, 64, .inl (fun _ => 0))), (q2, .inl (tc 0, 6, .inl (fun _ => 0))), (q3, .inl (tc 0, 6, .inl (fun _ => 0)))]) := hD
  refine lv_aload_n hx hb di_Plan_37 rfl (lv_at hl 0 rfl) ?_
  refine lv_aload_n hx hb di_Plan_38 rfl (lv_at hl 2 rfl) ?_
  refine ax_pf (own := "InnChanged$Plan") (ci := 5) (k := 1) (ty := .object "InnChanged$Now") hx hb hts hown hin hK hP hD hS rfl (by decide) (ax_inM (i := 299) (by decide +kernel)) rfl (by decide +kernel) rfl rfl (Nat.le_of_ble_eq_true rfl) di_Plan_39 (fun H locs hP hD hS => ?_)
  have hP : va_P D ax_cl ((h0, .inr (5, [.ref a1, .ref a2, .ref q1, .ref q2, .ref q3, .int 0, .int 0])) :: [(q1, .inl (tc 3, 7, .inr (.inr (.inr (.inr (fun i => if i < 7 then some (r1 i) else none)))))), (r1 0, .inl (tc 0, 64, .inl (fun _ => 0))), (r1 1, .inl (tc 0, 64, .inl (fun _ => 0))), (r1 2, .inl (tc 0, 64, .inl (fun _ => 0))), (r1 3, .inl (tc 0, 64, .inl (fun _ => 0))), (r1 4, .inl (tc 0, 64, .inl (fun _ => 0))), (r1 5, .inl (tc 0, 64, .inl (fun _ => 0))), (r1 6, .inl (tc 0, 64, .inl (fun _ => 0))), (q2, .inl (tc 0, 6, .inl (fun _ => 0))), (q3, .inl (tc 0, 6, .inl (fun _ => 0)))]) H := hP
  have hD : va_D A ((h0, .inr (5, [.ref a1, .ref a2, .ref q1, .ref q2, .ref q3, .int 0, .int 0])) :: [(q1, .inl (tc 3, 7, .inr (.inr (.inr (.inr (fun i => if i < 7 then some (r1 i) else none)))))), (r1 0, .inl (tc 0, 64, .inl (fun _ => 0))), (r1 1, .inl (tc 0, 64, .inl (fun _ => 0))), (r1 2, .inl (tc 0, 64, .inl (fun _ => 0))), (r1 3, .inl (tc 0, 64, .inl (fun _ => 0))), (r1 4, .inl (tc 0, 64, .inl (fun _ => 0))), (r1 5, .inl (tc 0, 64, .inl (fun _ => 0))), (r1 6, .inl (tc 0, 64, .inl (fun _ => 0))), (q2, .inl (tc 0, 6, .inl (fun _ => 0))), (q3, .inl (tc 0, 6, .inl (fun _ => 0)))]) := hD
  refine W.widen (k := 10) (n := 467) (Nat.le_of_ble_eq_true rfl) (Nat.le_of_ble_eq_true rfl) ?_
  exact W.vret hx hb hr (fun t ht hW => ⟨⟨(fun t => if t = 0 then (fun k => [q1, q2, q3].getD k 0) else r1), rfl, trivial, by rw [ht]; exact hP, va_K.moved hW.alike hK, hD⟩, hS.F ht⟩) hS.2.2 di_Plan_42
def yi_X : MethodName := ⟨"InnChanged", "<init>", "()V"⟩
abbrev bi_X : ByteArray := prog_1_method_1_code
abbrev f0_X : List Value := [.null, .null, .null, .null, .int 0, .null, .null, .null, .null, .null, .null]
theorem di_X_0 : decode bi_X 0 = .ok (.aload_n 0, 1) := by decide +kernel
theorem di_X_1 : decode bi_X 1 = .ok (.invokespecial 1, 3) := by decide +kernel
theorem di_X_4 : decode bi_X 4 = .ok (.aload_n 0, 1) := by decide +kernel
theorem di_X_5 : decode bi_X 5 = .ok (.new 7, 3) := by decide +kernel
theorem di_X_8 : decode bi_X 8 = .ok (.dup, 1) := by decide +kernel
theorem di_X_9 : decode bi_X 9 = .ok (.invokespecial 9, 3) := by decide +kernel
theorem di_X_12 : decode bi_X 12 = .ok (.putfield 10, 3) := by decide +kernel
theorem di_X_15 : decode bi_X 15 = .ok (.aload_n 0, 1) := by decide +kernel
theorem di_X_16 : decode bi_X 16 = .ok (.new 16, 3) := by decide +kernel
theorem di_X_19 : decode bi_X 19 = .ok (.dup, 1) := by decide +kernel
theorem di_X_20 : decode bi_X 20 = .ok (.invokespecial 18, 3) := by decide +kernel
theorem di_X_23 : decode bi_X 23 = .ok (.putfield 19, 3) := by decide +kernel
theorem di_X_26 : decode bi_X 26 = .ok (.aload_n 0, 1) := by decide +kernel
theorem di_X_27 : decode bi_X 27 = .ok (.new 23, 3) := by decide +kernel
theorem di_X_30 : decode bi_X 30 = .ok (.dup, 1) := by decide +kernel
theorem di_X_31 : decode bi_X 31 = .ok (.aload_n 0, 1) := by decide +kernel
theorem di_X_32 : decode bi_X 32 = .ok (.getfield 19, 3) := by decide +kernel
theorem di_X_35 : decode bi_X 35 = .ok (.invokespecial 25, 3) := by decide +kernel
theorem di_X_38 : decode bi_X 38 = .ok (.putfield 28, 3) := by decide +kernel
theorem di_X_41 : decode bi_X 41 = .ok (.aload_n 0, 1) := by decide +kernel
theorem di_X_42 : decode bi_X 42 = .ok (.iconst (2), 1) := by decide +kernel
theorem di_X_43 : decode bi_X 43 = .ok (.anewarray 23, 3) := by decide +kernel
theorem di_X_46 : decode bi_X 46 = .ok (.putfield 32, 3) := by decide +kernel
theorem di_X_49 : decode bi_X 49 = .ok (.iconst (0), 1) := by decide +kernel
theorem di_X_50 : decode bi_X 50 = .ok (.istore_n 1, 1) := by decide +kernel
theorem di_X_51 : decode bi_X 51 = .ok (.iload_n 1, 1) := by decide +kernel
theorem di_X_52 : decode bi_X 52 = .ok (.iconst (2), 1) := by decide +kernel
theorem di_X_53 : decode bi_X 53 = .ok (.if_icmp .ge 26, 3) := by decide +kernel
theorem di_X_56 : decode bi_X 56 = .ok (.aload_n 0, 1) := by decide +kernel
theorem di_X_57 : decode bi_X 57 = .ok (.getfield 32, 3) := by decide +kernel
theorem di_X_60 : decode bi_X 60 = .ok (.iload_n 1, 1) := by decide +kernel
theorem di_X_61 : decode bi_X 61 = .ok (.new 23, 3) := by decide +kernel
theorem di_X_64 : decode bi_X 64 = .ok (.dup, 1) := by decide +kernel
theorem di_X_65 : decode bi_X 65 = .ok (.aload_n 0, 1) := by decide +kernel
theorem di_X_66 : decode bi_X 66 = .ok (.getfield 19, 3) := by decide +kernel
theorem di_X_69 : decode bi_X 69 = .ok (.invokespecial 25, 3) := by decide +kernel
theorem di_X_72 : decode bi_X 72 = .ok (.aastore, 1) := by decide +kernel
theorem di_X_73 : decode bi_X 73 = .ok (.iinc 1 1, 3) := by decide +kernel
theorem di_X_76 : decode bi_X 76 = .ok (.goto (-25), 3) := by decide +kernel
theorem di_X_79 : decode bi_X 79 = .ok (.aload_n 0, 1) := by decide +kernel
theorem di_X_80 : decode bi_X 80 = .ok (.iconst (0), 1) := by decide +kernel
theorem di_X_81 : decode bi_X 81 = .ok (.putfield 36, 3) := by decide +kernel
theorem di_X_84 : decode bi_X 84 = .ok (.aload_n 0, 1) := by decide +kernel
theorem di_X_85 : decode bi_X 85 = .ok (.new 40, 3) := by decide +kernel
theorem di_X_88 : decode bi_X 88 = .ok (.dup, 1) := by decide +kernel
theorem di_X_89 : decode bi_X 89 = .ok (.invokespecial 42, 3) := by decide +kernel
theorem di_X_92 : decode bi_X 92 = .ok (.putfield 43, 3) := by decide +kernel
theorem di_X_95 : decode bi_X 95 = .ok (.aload_n 0, 1) := by decide +kernel
theorem di_X_96 : decode bi_X 96 = .ok (.new 47, 3) := by decide +kernel
theorem di_X_99 : decode bi_X 99 = .ok (.dup, 1) := by decide +kernel
theorem di_X_100 : decode bi_X 100 = .ok (.aload_n 0, 1) := by decide +kernel
theorem di_X_101 : decode bi_X 101 = .ok (.getfield 19, 3) := by decide +kernel
theorem di_X_104 : decode bi_X 104 = .ok (.aload_n 0, 1) := by decide +kernel
theorem di_X_105 : decode bi_X 105 = .ok (.getfield 28, 3) := by decide +kernel
theorem di_X_108 : decode bi_X 108 = .ok (.invokespecial 49, 3) := by decide +kernel
theorem di_X_111 : decode bi_X 111 = .ok (.putfield 52, 3) := by decide +kernel
theorem di_X_114 : decode bi_X 114 = .ok (.aload_n 0, 1) := by decide +kernel
theorem di_X_115 : decode bi_X 115 = .ok (.new 56, 3) := by decide +kernel
theorem di_X_118 : decode bi_X 118 = .ok (.dup, 1) := by decide +kernel
theorem di_X_119 : decode bi_X 119 = .ok (.aload_n 0, 1) := by decide +kernel
theorem di_X_120 : decode bi_X 120 = .ok (.getfield 19, 3) := by decide +kernel
theorem di_X_123 : decode bi_X 123 = .ok (.aload_n 0, 1) := by decide +kernel
theorem di_X_124 : decode bi_X 124 = .ok (.getfield 28, 3) := by decide +kernel
theorem di_X_127 : decode bi_X 127 = .ok (.invokespecial 58, 3) := by decide +kernel
theorem di_X_130 : decode bi_X 130 = .ok (.putfield 59, 3) := by decide +kernel
theorem di_X_133 : decode bi_X 133 = .ok (.aload_n 0, 1) := by decide +kernel
theorem di_X_134 : decode bi_X 134 = .ok (.new 63, 3) := by decide +kernel
theorem di_X_137 : decode bi_X 137 = .ok (.dup, 1) := by decide +kernel
theorem di_X_138 : decode bi_X 138 = .ok (.aload_n 0, 1) := by decide +kernel
theorem di_X_139 : decode bi_X 139 = .ok (.getfield 19, 3) := by decide +kernel
theorem di_X_142 : decode bi_X 142 = .ok (.aload_n 0, 1) := by decide +kernel
theorem di_X_143 : decode bi_X 143 = .ok (.getfield 28, 3) := by decide +kernel
theorem di_X_146 : decode bi_X 146 = .ok (.aload_n 0, 1) := by decide +kernel
theorem di_X_147 : decode bi_X 147 = .ok (.getfield 43, 3) := by decide +kernel
theorem di_X_150 : decode bi_X 150 = .ok (.invokespecial 65, 3) := by decide +kernel
theorem di_X_153 : decode bi_X 153 = .ok (.putfield 68, 3) := by decide +kernel
theorem di_X_156 : decode bi_X 156 = .ok (.aload_n 0, 1) := by decide +kernel
theorem di_X_157 : decode bi_X 157 = .ok (.new 72, 3) := by decide +kernel
theorem di_X_160 : decode bi_X 160 = .ok (.dup, 1) := by decide +kernel
theorem di_X_161 : decode bi_X 161 = .ok (.aload_n 0, 1) := by decide +kernel
theorem di_X_162 : decode bi_X 162 = .ok (.getfield 19, 3) := by decide +kernel
theorem di_X_165 : decode bi_X 165 = .ok (.aload_n 0, 1) := by decide +kernel
theorem di_X_166 : decode bi_X 166 = .ok (.getfield 28, 3) := by decide +kernel
theorem di_X_169 : decode bi_X 169 = .ok (.aload_n 0, 1) := by decide +kernel
theorem di_X_170 : decode bi_X 170 = .ok (.getfield 68, 3) := by decide +kernel
theorem di_X_173 : decode bi_X 173 = .ok (.invokespecial 74, 3) := by decide +kernel
theorem di_X_176 : decode bi_X 176 = .ok (.putfield 77, 3) := by decide +kernel
theorem di_X_179 : decode bi_X 179 = .ok (.aload_n 0, 1) := by decide +kernel
theorem di_X_180 : decode bi_X 180 = .ok (.new 81, 3) := by decide +kernel
theorem di_X_183 : decode bi_X 183 = .ok (.dup, 1) := by decide +kernel
theorem di_X_184 : decode bi_X 184 = .ok (.aload_n 0, 1) := by decide +kernel
theorem di_X_185 : decode bi_X 185 = .ok (.getfield 19, 3) := by decide +kernel
theorem di_X_188 : decode bi_X 188 = .ok (.aload_n 0, 1) := by decide +kernel
theorem di_X_189 : decode bi_X 189 = .ok (.getfield 28, 3) := by decide +kernel
theorem di_X_192 : decode bi_X 192 = .ok (.aload_n 0, 1) := by decide +kernel
theorem di_X_193 : decode bi_X 193 = .ok (.getfield 68, 3) := by decide +kernel
theorem di_X_196 : decode bi_X 196 = .ok (.invokespecial 83, 3) := by decide +kernel
theorem di_X_199 : decode bi_X 199 = .ok (.putfield 84, 3) := by decide +kernel
theorem di_X_202 : decode bi_X 202 = .ok (.return_, 1) := by decide +kernel
abbrev wn_X (tc : Nat → ClassId) (h0 : Nat) (r : Nat → Nat → Nat) : va_W := (h0, .inr (9, [.ref (r 0 1), .ref (r 0 2), .ref (r 0 3), .ref (r 0 0), .int 0, .ref (r 0 6), .ref (r 0 7), .ref (r 0 8), .ref (r 0 9), .ref (r 0 10), .ref (r 0 11)])) :: ((((((((((((wn_Text  tc (r 0 1) (fun _ => r 1)) ++ (wn_Told  tc (r 0 2) (fun _ => r 2))) ++ (wn_Now ((r 0 2)) tc (r 0 3) (fun _ => r 3))) ++ ([((r 0 0), .inl (tc 2, 2, .inr (.inr (.inr (.inr (va_up (va_up (fun _ => none) 0 (some (r 0 4))) 1 (some (r 0 5))))))))])) ++ (wn_Now ((r 0 2)) tc (r 0 4) (fun _ => r 4))) ++ (wn_Now ((r 0 2)) tc (r 0 5) (fun _ => r 5))) ++ (wn_Seen  tc (r 0 6) (fun _ => r 6))) ++ (wn_Mend ((r 0 2)) ((r 0 3)) tc (r 0 7) (fun _ => r 7))) ++ (wn_Plan ((r 0 2)) ((r 0 3)) tc (r 0 8) (fun u => if u = 0 then r 8 else r 20))) ++ (wn_Fits ((r 0 2)) ((r 0 3)) ((r 0 6)) tc (r 0 9) (fun _ => r 9))) ++ (wn_Apart ((r 0 2)) ((r 0 3)) ((r 0 9)) tc (r 0 10) (fun _ => r 10))) ++ (wn_Came ((r 0 2)) ((r 0 3)) ((r 0 9)) tc (r 0 11) (fun _ => r 11)))
set_option maxHeartbeats 8000000 in
set_option maxRecDepth 100000 in
theorem ct_X (l : Launch) : ax_CT0 l yi_X bi_X 2 9 f0_X 60 2621 2 120 ax_exX [] wn_X := by
  intro D tc h0 sz
  refine Met.ofW (cc := bi_X) (maxL := 2) (ret := none) (by decide) rfl ?_
  intro p e s m args below meth c s₁ B hml hv
  obtain ⟨rfl, hsz, hP, hK, hD0, hex⟩ := hv
  have hx := B.exec
  have hb := B.bytes
  have hr := B.returns
  have hts : ∀ w ∈ ax_wsA, w.before _ s = true := fun w hw => atoms_spec (ws := ax_wc yi_X bi_X 2) B.pre w (List.mem_cons_of_mem _ hw)
  have hown : s.vm.findClass "InnChanged" = some m.cls := findClass_of_methodNamed B.named
  have hin : meth.name = "<init>" := (name_of_methodNamed B.named B.method).1
  subst hsz
  have hD := hD0.self (sz := s.heap.size)
  generalize hAe : va_A [(h0, (.inr (9, f0_X) : va_E))] s.heap.size = A at hD ⊢
  have hA : ∀ q : Nat, s.heap.size ≤ q → A q := fun q h => by rw [← hAe]; exact Or.inr h
  have hS : va_S A s.heap s.heap [] := va_S.rf
  have hP : va_P D ax_cl ((h0, .inr (9, [.null, .null, .null, .null, .int 0, .null, .null, .null, .null, .null, .null])) :: []) s.heap := hP
  have hD : va_D A ((h0, .inr (9, [.null, .null, .null, .null, .int 0, .null, .null, .null, .null, .null, .null])) :: []) := hD
  have hl := lv_entry ([.ref h0]) (n := 2) (Nat.le_of_ble_eq_true rfl)
  rw [lg_entry_eq]
  generalize (lg_sl ([.ref h0]) ++ List.replicate (2 - (lg_sl ([.ref h0])).length) Slot.unset).toArray = ls at hl ⊢
  have hl : lv_has ls 2 [(0, .ref h0)] := hl
  refine lv_aload_n hx hb di_X_0 rfl (lv_at hl 0 rfl) ?_
  refine W.objInit hx hb hown (hts _ (ax_inM (i := 100) (w := .methodLink "InnChanged" 1 objectInit) (by decide +kernel))) (hts _ (ax_inM (i := 101) (by decide +kernel))) (hts _ (ax_inM (i := 102) (by decide +kernel))) rfl (by rw [hml]; exact hl.1) rfl di_X_1 (Nat.le_of_ble_eq_true rfl) (Nat.le_of_ble_eq_true rfl) ?_
  refine W.eq (g2 := F0 m 4 ls []) rfl ?_
  refine lv_aload_n hx hb di_X_4 rfl (lv_at hl 0 rfl) ?_
  refine va_new (ci := 7) (fs := f0_Text) (C := "InnChanged$Text") (T := ax_T7) (N := 10) hx hb hts (ax_cl_ok (ci := 7) rfl).1 _ (ax_cl_ok (ci := 7) rfl).2.1 hown (hts _ (ax_inM (i := 103) (by decide +kernel))) (hts _ (ax_inM (i := 104) (by decide +kernel))) (hts _ (ax_inM (i := 76) (by decide +kernel))) hK hP hD hS hA rfl (by decide +kernel) (Nat.le_of_ble_eq_true rfl) (Nat.le_of_ble_eq_true rfl) di_X_5 (fun o1 H hP hD hS => ?_)
  refine lv_dup hx hb di_X_8 rfl ?_
  refine ax_ctorN (As := []) (n := 0) (rest := [.ref o1, .ref h0]) (ws := (h0, .inr (9, [.null, .null, .null, .null, .int 0, .null, .null, .null, .null, .null, .null])) :: ([])) hx hb hml hown hts (fun _ h => h) (ct_Text l ) hK hP hD hS hA (fun _ _ _ _ _ => trivial) (fun _ _ _ _ => trivial) trivial hex.2.2.1 (ax_inM (i := 106) (by decide +kernel)) (ax_inM (i := 76) (by decide +kernel)) (ax_inM (i := 107) (by decide +kernel)) rfl (by decide +kernel) ⟨Nat.le_of_ble_eq_true rfl, Nat.le_of_ble_eq_true rfl⟩ rfl hl.1 (Nat.le_of_ble_eq_true rfl) di_X_9 ⟨Nat.le_of_ble_eq_true rfl, Nat.le_of_ble_eq_true rfl⟩ (fun r1 H locs hP hD hS => ?_)
  have hP : va_P D ax_cl ((h0, .inr (9, [.null, .null, .null, .null, .int 0, .null, .null, .null, .null, .null, .null])) :: (wn_Text  tc o1 r1)) H := hP
  have hD : va_D A ((h0, .inr (9, [.null, .null, .null, .null, .int 0, .null, .null, .null, .null, .null, .null])) :: (wn_Text  tc o1 r1)) := hD
  refine ax_pf (own := "InnChanged") (ci := 9) (k := 0) (ty := .object "InnChanged$Text") hx hb hts hown hin hK hP hD hS rfl (by decide) (ax_inM (i := 428) (by decide +kernel)) rfl (by decide +kernel) rfl rfl (Nat.le_of_ble_eq_true rfl) di_X_12 (fun H locs hP hD hS => ?_)
  have hP : va_P D ax_cl ((h0, .inr (9, [.ref o1, .null, .null, .null, .int 0, .null, .null, .null, .null, .null, .null])) :: (wn_Text  tc o1 r1)) H := hP
  have hD : va_D A ((h0, .inr (9, [.ref o1, .null, .null, .null, .int 0, .null, .null, .null, .null, .null, .null])) :: (wn_Text  tc o1 r1)) := hD
  refine lv_aload_n hx hb di_X_15 rfl (lv_at hl 0 rfl) ?_
  refine va_new (ci := 8) (fs := f0_Told) (C := "InnChanged$Told") (T := ax_T8) (N := 10) hx hb hts (ax_cl_ok (ci := 8) rfl).1 _ (ax_cl_ok (ci := 8) rfl).2.1 hown (hts _ (ax_inM (i := 144) (by decide +kernel))) (hts _ (ax_inM (i := 145) (by decide +kernel))) (hts _ (ax_inM (i := 77) (by decide +kernel))) hK hP hD hS hA rfl (by decide +kernel) (Nat.le_of_ble_eq_true rfl) (Nat.le_of_ble_eq_true rfl) di_X_16 (fun o2 H hP hD hS => ?_)
  refine lv_dup hx hb di_X_19 rfl ?_
  refine ax_ctorN (As := []) (n := 0) (rest := [.ref o2, .ref h0]) (ws := (h0, .inr (9, [.ref o1, .null, .null, .null, .int 0, .null, .null, .null, .null, .null, .null])) :: (wn_Text  tc o1 r1)) hx hb hml hown hts (fun _ h => h) (ct_Told l ) hK hP hD hS hA (fun _ _ _ _ _ => trivial) (fun _ _ _ _ => trivial) trivial hex.2.2.2.1 (ax_inM (i := 147) (by decide +kernel)) (ax_inM (i := 77) (by decide +kernel)) (ax_inM (i := 148) (by decide +kernel)) rfl (by decide +kernel) ⟨Nat.le_of_ble_eq_true rfl, Nat.le_of_ble_eq_true rfl⟩ rfl hl.1 (Nat.le_of_ble_eq_true rfl) di_X_20 ⟨Nat.le_of_ble_eq_true rfl, Nat.le_of_ble_eq_true rfl⟩ (fun r2 H locs hP hD hS => ?_)
  have hP : va_P D ax_cl ((h0, .inr (9, [.ref o1, .null, .null, .null, .int 0, .null, .null, .null, .null, .null, .null])) :: ((wn_Text  tc o1 r1) ++ (wn_Told  tc o2 r2))) H := hP
  have hD : va_D A ((h0, .inr (9, [.ref o1, .null, .null, .null, .int 0, .null, .null, .null, .null, .null, .null])) :: ((wn_Text  tc o1 r1) ++ (wn_Told  tc o2 r2))) := hD
  refine ax_pf (own := "InnChanged") (ci := 9) (k := 1) (ty := .object "InnChanged$Told") hx hb hts hown hin hK hP hD hS rfl (by decide) (ax_inM (i := 429) (by decide +kernel)) rfl (by decide +kernel) rfl rfl (Nat.le_of_ble_eq_true rfl) di_X_23 (fun H locs hP hD hS => ?_)
  have hP : va_P D ax_cl ((h0, .inr (9, [.ref o1, .ref o2, .null, .null, .int 0, .null, .null, .null, .null, .null, .null])) :: ((wn_Text  tc o1 r1) ++ (wn_Told  tc o2 r2))) H := hP
  have hD : va_D A ((h0, .inr (9, [.ref o1, .ref o2, .null, .null, .int 0, .null, .null, .null, .null, .null, .null])) :: ((wn_Text  tc o1 r1) ++ (wn_Told  tc o2 r2))) := hD
  refine lv_aload_n hx hb di_X_26 rfl (lv_at hl 0 rfl) ?_
  refine va_new (ci := 4) (fs := f0_Now) (C := "InnChanged$Now") (T := ax_T4) (N := 8) hx hb hts (ax_cl_ok (ci := 4) rfl).1 _ (ax_cl_ok (ci := 4) rfl).2.1 hown (hts _ (ax_inM (i := 202) (by decide +kernel))) (hts _ (ax_inM (i := 203) (by decide +kernel))) (hts _ (ax_inM (i := 78) (by decide +kernel))) hK hP hD hS hA rfl (by decide +kernel) (Nat.le_of_ble_eq_true rfl) (Nat.le_of_ble_eq_true rfl) di_X_27 (fun o3 H hP hD hS => ?_)
  refine lv_dup hx hb di_X_30 rfl ?_
  refine lv_aload_n hx hb di_X_31 rfl (lv_at hl 0 rfl) ?_
  refine va_get (D := D) (ci := 9) (v := .ref o2) (C := "InnChanged") (T := ax_T9) (N := 11) hx hb hts (ax_cl_ok (ci := 9) rfl).1 hown hK hP 0 rfl rfl 1 (by decide) (hts _ (ax_inM (i := 429) (by decide +kernel))) (fun _ h9 => h9) rfl di_X_32 ?_
  refine ax_ctor (As := [.ref o2]) (n := 1) (rest := [.ref o3, .ref h0]) (ws := (h0, .inr (9, [.ref o1, .ref o2, .null, .null, .int 0, .null, .null, .null, .null, .null, .null])) :: ((wn_Text  tc o1 r1) ++ (wn_Told  tc o2 r2))) hx hb hml hown hts (fun _ h => h) (ct_Now l (o2)) hK hP hD hS hA (fun _ _ _ _ _ => trivial) (fun _ _ _ _ => trivial) trivial (ax_inM (i := 204) (by decide +kernel)) (ax_inM (i := 205) (by decide +kernel)) (ax_inM (i := 78) (by decide +kernel)) (ax_inM (i := 206) (by decide +kernel)) rfl (by decide +kernel) ⟨Nat.le_of_ble_eq_true rfl, Nat.le_of_ble_eq_true rfl⟩ rfl hl.1 (Nat.le_of_ble_eq_true rfl) di_X_35 ⟨Nat.le_of_ble_eq_true rfl, Nat.le_of_ble_eq_true rfl⟩ (fun r3 H locs hP hD hS => ?_)
  have hP : va_P D ax_cl ((h0, .inr (9, [.ref o1, .ref o2, .null, .null, .int 0, .null, .null, .null, .null, .null, .null])) :: (((wn_Text  tc o1 r1) ++ (wn_Told  tc o2 r2)) ++ (wn_Now (o2) tc o3 r3))) H := hP
  have hD : va_D A ((h0, .inr (9, [.ref o1, .ref o2, .null, .null, .int 0, .null, .null, .null, .null, .null, .null])) :: (((wn_Text  tc o1 r1) ++ (wn_Told  tc o2 r2)) ++ (wn_Now (o2) tc o3 r3))) := hD
  refine ax_pf (own := "InnChanged") (ci := 9) (k := 2) (ty := .object "InnChanged$Now") hx hb hts hown hin hK hP hD hS rfl (by decide) (ax_inM (i := 430) (by decide +kernel)) rfl (by decide +kernel) rfl rfl (Nat.le_of_ble_eq_true rfl) di_X_38 (fun H locs hP hD hS => ?_)
  have hP : va_P D ax_cl ((h0, .inr (9, [.ref o1, .ref o2, .ref o3, .null, .int 0, .null, .null, .null, .null, .null, .null])) :: (((wn_Text  tc o1 r1) ++ (wn_Told  tc o2 r2)) ++ (wn_Now (o2) tc o3 r3))) H := hP
  have hD : va_D A ((h0, .inr (9, [.ref o1, .ref o2, .ref o3, .null, .int 0, .null, .null, .null, .null, .null, .null])) :: (((wn_Text  tc o1 r1) ++ (wn_Told  tc o2 r2)) ++ (wn_Now (o2) tc o3 r3))) := hD
  refine lv_aload_n hx hb di_X_41 rfl (lv_at hl 0 rfl) ?_
  refine lv_iconst (v := 2) hx hb di_X_42 (by decide) ?_
  refine va_newq (C := "InnChanged$Now") (N' := 2) hx hb hown (hts _ (ax_inM (i := 202) (by decide +kernel))) hex.1 hK hP hD hS hA (by decide) (by decide) (by decide) (Nat.le_of_ble_eq_true rfl) (Nat.le_of_ble_eq_true rfl) di_X_43 (fun qa cA H hK1 hP hD hS => ?_)
  have e2 : cA = tc 2 := by
    obtain ⟨k1, c1, -, -, -, g1⟩ := (hK1.2 4 _ rfl).2
    obtain ⟨k2, c2, -, -, -, g2⟩ := (hK.2 2 _ rfl).2
    exact Option.some.inj (g1.symm.trans g2)
  subst e2
  have hP : va_P D ax_cl ((h0, .inr (9, [.ref o1, .ref o2, .ref o3, .null, .int 0, .null, .null, .null, .null, .null, .null])) :: ((((wn_Text  tc o1 r1) ++ (wn_Told  tc o2 r2)) ++ (wn_Now (o2) tc o3 r3)) ++ ([(qa, .inl (tc 2, 2, .inr (.inr (.inr (.inr (fun _ => none))))))]))) H := hP
  have hD : va_D A ((h0, .inr (9, [.ref o1, .ref o2, .ref o3, .null, .int 0, .null, .null, .null, .null, .null, .null])) :: ((((wn_Text  tc o1 r1) ++ (wn_Told  tc o2 r2)) ++ (wn_Now (o2) tc o3 r3)) ++ ([(qa, .inl (tc 2, 2, .inr (.inr (.inr (.inr (fun _ => none))))))]))) := hD
  refine ax_pf (own := "InnChanged") (ci := 9) (k := 3) (ty := .array (.object "InnChanged$Now")) hx hb hts hown hin hK hP hD hS rfl (by decide) (ax_inM (i := 431) (by decide +kernel)) rfl (by decide +kernel) rfl rfl (Nat.le_of_ble_eq_true rfl) di_X_46 (fun H locs hP hD hS => ?_)
  have hP : va_P D ax_cl ((h0, .inr (9, [.ref o1, .ref o2, .ref o3, .ref qa, .int 0, .null, .null, .null, .null, .null, .null])) :: ((((wn_Text  tc o1 r1) ++ (wn_Told  tc o2 r2)) ++ (wn_Now (o2) tc o3 r3)) ++ ([(qa, .inl (tc 2, 2, .inr (.inr (.inr (.inr (fun _ => none))))))]))) H := hP
  have hD : va_D A ((h0, .inr (9, [.ref o1, .ref o2, .ref o3, .ref qa, .int 0, .null, .null, .null, .null, .null, .null])) :: ((((wn_Text  tc o1 r1) ++ (wn_Told  tc o2 r2)) ++ (wn_Now (o2) tc o3 r3)) ++ ([(qa, .inl (tc 2, 2, .inr (.inr (.inr (.inr (fun _ => none))))))]))) := hD
  refine lv_iconst (v := 0) hx hb di_X_49 (by decide) ?_
  refine lv_istore_n hx hb di_X_50 rfl hl (by decide) rfl (fun ls hl => ?_)
  have hl : lv_has ls 2 [(1, .int 0), (0, .ref h0)] := hl
  refine lv_iload_n hx hb di_X_51 rfl (lv_at hl 0 rfl) ?_
  refine lv_iconst (v := 2) hx hb di_X_52 (by decide) ?_
  refine lv_icmp_ge (tgt := 79) hx hb di_X_53 (by decide) (fun hh => absurd hh (by decide)) (fun _ => ?_)
  refine lv_aload_n hx hb di_X_56 rfl (lv_at hl 1 rfl) ?_
  refine va_get (D := D) (ci := 9) (v := .ref qa) (C := "InnChanged") (T := ax_T9) (N := 11) hx hb hts (ax_cl_ok (ci := 9) rfl).1 hown hK hP 0 rfl rfl 3 (by decide) (hts _ (ax_inM (i := 431) (by decide +kernel))) (fun _ h9 => h9) rfl di_X_57 ?_
  refine lv_iload_n hx hb di_X_60 rfl (lv_at hl 0 rfl) ?_
  refine va_new (ci := 4) (fs := f0_Now) (C := "InnChanged$Now") (T := ax_T4) (N := 8) hx hb hts (ax_cl_ok (ci := 4) rfl).1 _ (ax_cl_ok (ci := 4) rfl).2.1 hown (hts _ (ax_inM (i := 202) (by decide +kernel))) (hts _ (ax_inM (i := 203) (by decide +kernel))) (hts _ (ax_inM (i := 78) (by decide +kernel))) hK hP hD hS hA rfl (by decide +kernel) (Nat.le_of_ble_eq_true rfl) (Nat.le_of_ble_eq_true rfl) di_X_61 (fun o4 H hP hD hS => ?_)
  refine lv_dup hx hb di_X_64 rfl ?_
  refine lv_aload_n hx hb di_X_65 rfl (lv_at hl 1 rfl) ?_
  refine va_get (D := D) (ci := 9) (v := .ref o2) (C := "InnChanged") (T := ax_T9) (N := 11) hx hb hts (ax_cl_ok (ci := 9) rfl).1 hown hK hP 0 rfl rfl 1 (by decide) (hts _ (ax_inM (i := 429) (by decide +kernel))) (fun _ h9 => h9) rfl di_X_66 ?_
  refine ax_ctor (As := [.ref o2]) (n := 1) (rest := [.ref o4, .int 0, .ref qa]) (ws := (h0, .inr (9, [.ref o1, .ref o2, .ref o3, .ref qa, .int 0, .null, .null, .null, .null, .null, .null])) :: ((((wn_Text  tc o1 r1) ++ (wn_Told  tc o2 r2)) ++ (wn_Now (o2) tc o3 r3)) ++ ([(qa, .inl (tc 2, 2, .inr (.inr (.inr (.inr (fun _ => none))))))]))) hx hb hml hown hts (fun _ h => h) (ct_Now l (o2)) hK hP hD hS hA (fun _ _ _ _ _ => trivial) (fun _ _ _ _ => trivial) trivial (ax_inM (i := 204) (by decide +kernel)) (ax_inM (i := 205) (by decide +kernel)) (ax_inM (i := 78) (by decide +kernel)) (ax_inM (i := 206) (by decide +kernel)) rfl (by decide +kernel) ⟨Nat.le_of_ble_eq_true rfl, Nat.le_of_ble_eq_true rfl⟩ rfl hl.1 (Nat.le_of_ble_eq_true rfl) di_X_69 ⟨Nat.le_of_ble_eq_true rfl, Nat.le_of_ble_eq_true rfl⟩ (fun r4 H locs hP hD hS => ?_)
  have hP : va_P D ax_cl ((h0, .inr (9, [.ref o1, .ref o2, .ref o3, .ref qa, .int 0, .null, .null, .null, .null, .null, .null])) :: (((((wn_Text  tc o1 r1) ++ (wn_Told  tc o2 r2)) ++ (wn_Now (o2) tc o3 r3)) ++ ([(qa, .inl (tc 2, 2, .inr (.inr (.inr (.inr (fun _ => none))))))])) ++ (wn_Now (o2) tc o4 r4))) H := hP
  have hD : va_D A ((h0, .inr (9, [.ref o1, .ref o2, .ref o3, .ref qa, .int 0, .null, .null, .null, .null, .null, .null])) :: (((((wn_Text  tc o1 r1) ++ (wn_Told  tc o2 r2)) ++ (wn_Now (o2) tc o3 r3)) ++ ([(qa, .inl (tc 2, 2, .inr (.inr (.inr (.inr (fun _ => none))))))])) ++ (wn_Now (o2) tc o4 r4))) := hD
  refine va_astq hx hb hK hP hD hS 18 2 19 4 (r := ("InnChanged$Now", ax_T4, 8)) rfl rfl rfl rfl (show ¬ ((0 : Int32) < 0 ∨ 2 ≤ (0 : Int32).toNatClampNeg) by decide) di_X_72 (fun H locs hP hD hS => ?_)
  have hP : va_P D ax_cl ((h0, .inr (9, [.ref o1, .ref o2, .ref o3, .ref qa, .int 0, .null, .null, .null, .null, .null, .null])) :: (((((wn_Text  tc o1 r1) ++ (wn_Told  tc o2 r2)) ++ (wn_Now (o2) tc o3 r3)) ++ ([(qa, .inl (tc 2, 2, .inr (.inr (.inr (.inr (va_up (fun _ => none) 0 (some o4)))))))])) ++ (wn_Now (o2) tc o4 r4))) H := hP
  have hD : va_D A ((h0, .inr (9, [.ref o1, .ref o2, .ref o3, .ref qa, .int 0, .null, .null, .null, .null, .null, .null])) :: (((((wn_Text  tc o1 r1) ++ (wn_Told  tc o2 r2)) ++ (wn_Now (o2) tc o3 r3)) ++ ([(qa, .inl (tc 2, 2, .inr (.inr (.inr (.inr (va_up (fun _ => none) 0 (some o4)))))))])) ++ (wn_Now (o2) tc o4 r4))) := hD
  refine lv_iinc (k := 0) (v := 1) hx hb di_X_73 hl rfl (by decide) (by decide) rfl (fun ls hl => ?_)
  have hl : lv_has ls 2 [(1, .int 1), (0, .ref h0)] := hl
  refine lv_goto (tgt := 51) hx hb di_X_76 (by decide) ?_
  refine lv_iload_n hx hb di_X_51 rfl (lv_at hl 0 rfl) ?_
  refine lv_iconst (v := 2) hx hb di_X_52 (by decide) ?_
  refine lv_icmp_ge (tgt := 79) hx hb di_X_53 (by decide) (fun hh => absurd hh (by decide)) (fun _ => ?_)
  refine lv_aload_n hx hb di_X_56 rfl (lv_at hl 1 rfl) ?_
  refine va_get (D := D) (ci := 9) (v := .ref qa) (C := "InnChanged") (T := ax_T9) (N := 11) hx hb hts (ax_cl_ok (ci := 9) rfl).1 hown hK hP 0 rfl rfl 3 (by decide) (hts _ (ax_inM (i := 431) (by decide +kernel))) (fun _ h9 => h9) rfl di_X_57 ?_
  refine lv_iload_n hx hb di_X_60 rfl (lv_at hl 0 rfl) ?_
  refine va_new (ci := 4) (fs := f0_Now) (C := "InnChanged$Now") (T := ax_T4) (N := 8) hx hb hts (ax_cl_ok (ci := 4) rfl).1 _ (ax_cl_ok (ci := 4) rfl).2.1 hown (hts _ (ax_inM (i := 202) (by decide +kernel))) (hts _ (ax_inM (i := 203) (by decide +kernel))) (hts _ (ax_inM (i := 78) (by decide +kernel))) hK hP hD hS hA rfl (by decide +kernel) (Nat.le_of_ble_eq_true rfl) (Nat.le_of_ble_eq_true rfl) di_X_61 (fun o5 H hP hD hS => ?_)
  refine lv_dup hx hb di_X_64 rfl ?_
  refine lv_aload_n hx hb di_X_65 rfl (lv_at hl 1 rfl) ?_
  refine va_get (D := D) (ci := 9) (v := .ref o2) (C := "InnChanged") (T := ax_T9) (N := 11) hx hb hts (ax_cl_ok (ci := 9) rfl).1 hown hK hP 0 rfl rfl 1 (by decide) (hts _ (ax_inM (i := 429) (by decide +kernel))) (fun _ h9 => h9) rfl di_X_66 ?_
  refine ax_ctor (As := [.ref o2]) (n := 1) (rest := [.ref o5, .int 1, .ref qa]) (ws := (h0, .inr (9, [.ref o1, .ref o2, .ref o3, .ref qa, .int 0, .null, .null, .null, .null, .null, .null])) :: (((((wn_Text  tc o1 r1) ++ (wn_Told  tc o2 r2)) ++ (wn_Now (o2) tc o3 r3)) ++ ([(qa, .inl (tc 2, 2, .inr (.inr (.inr (.inr (va_up (fun _ => none) 0 (some o4)))))))])) ++ (wn_Now (o2) tc o4 r4))) hx hb hml hown hts (fun _ h => h) (ct_Now l (o2)) hK hP hD hS hA (fun _ _ _ _ _ => trivial) (fun _ _ _ _ => trivial) trivial (ax_inM (i := 204) (by decide +kernel)) (ax_inM (i := 205) (by decide +kernel)) (ax_inM (i := 78) (by decide +kernel)) (ax_inM (i := 206) (by decide +kernel)) rfl (by decide +kernel) ⟨Nat.le_of_ble_eq_true rfl, Nat.le_of_ble_eq_true rfl⟩ rfl hl.1 (Nat.le_of_ble_eq_true rfl) di_X_69 ⟨Nat.le_of_ble_eq_true rfl, Nat.le_of_ble_eq_true rfl⟩ (fun r5 H locs hP hD hS => ?_)
  have hP : va_P D ax_cl ((h0, .inr (9, [.ref o1, .ref o2, .ref o3, .ref qa, .int 0, .null, .null, .null, .null, .null, .null])) :: ((((((wn_Text  tc o1 r1) ++ (wn_Told  tc o2 r2)) ++ (wn_Now (o2) tc o3 r3)) ++ ([(qa, .inl (tc 2, 2, .inr (.inr (.inr (.inr (va_up (fun _ => none) 0 (some o4)))))))])) ++ (wn_Now (o2) tc o4 r4)) ++ (wn_Now (o2) tc o5 r5))) H := hP
  have hD : va_D A ((h0, .inr (9, [.ref o1, .ref o2, .ref o3, .ref qa, .int 0, .null, .null, .null, .null, .null, .null])) :: ((((((wn_Text  tc o1 r1) ++ (wn_Told  tc o2 r2)) ++ (wn_Now (o2) tc o3 r3)) ++ ([(qa, .inl (tc 2, 2, .inr (.inr (.inr (.inr (va_up (fun _ => none) 0 (some o4)))))))])) ++ (wn_Now (o2) tc o4 r4)) ++ (wn_Now (o2) tc o5 r5))) := hD
  refine va_astq hx hb hK hP hD hS 18 2 24 4 (r := ("InnChanged$Now", ax_T4, 8)) rfl rfl rfl rfl (show ¬ ((1 : Int32) < 0 ∨ 2 ≤ (1 : Int32).toNatClampNeg) by decide) di_X_72 (fun H locs hP hD hS => ?_)
  have hP : va_P D ax_cl ((h0, .inr (9, [.ref o1, .ref o2, .ref o3, .ref qa, .int 0, .null, .null, .null, .null, .null, .null])) :: ((((((wn_Text  tc o1 r1) ++ (wn_Told  tc o2 r2)) ++ (wn_Now (o2) tc o3 r3)) ++ ([(qa, .inl (tc 2, 2, .inr (.inr (.inr (.inr (va_up (va_up (fun _ => none) 0 (some o4)) 1 (some o5)))))))])) ++ (wn_Now (o2) tc o4 r4)) ++ (wn_Now (o2) tc o5 r5))) H := hP
  have hD : va_D A ((h0, .inr (9, [.ref o1, .ref o2, .ref o3, .ref qa, .int 0, .null, .null, .null, .null, .null, .null])) :: ((((((wn_Text  tc o1 r1) ++ (wn_Told  tc o2 r2)) ++ (wn_Now (o2) tc o3 r3)) ++ ([(qa, .inl (tc 2, 2, .inr (.inr (.inr (.inr (va_up (va_up (fun _ => none) 0 (some o4)) 1 (some o5)))))))])) ++ (wn_Now (o2) tc o4 r4)) ++ (wn_Now (o2) tc o5 r5))) := hD
  refine lv_iinc (k := 0) (v := 2) hx hb di_X_73 hl rfl (by decide) (by decide) rfl (fun ls hl => ?_)
  have hl : lv_has ls 2 [(1, .int 2), (0, .ref h0)] := hl
  refine lv_goto (tgt := 51) hx hb di_X_76 (by decide) ?_
  refine lv_iload_n hx hb di_X_51 rfl (lv_at hl 0 rfl) ?_
  refine lv_iconst (v := 2) hx hb di_X_52 (by decide) ?_
  refine lv_icmp_ge (tgt := 79) hx hb di_X_53 (by decide) (fun _ => ?_) (fun hh => absurd (by decide) hh)
  refine lv_aload_n hx hb di_X_79 rfl (lv_at hl 1 rfl) ?_
  refine lv_iconst (v := 0) hx hb di_X_80 (by decide) ?_
  refine ax_pf (own := "InnChanged") (ci := 9) (k := 4) (ty := .int) hx hb hts hown hin hK hP hD hS rfl (by decide) (ax_inM (i := 432) (by decide +kernel)) rfl (by decide +kernel) rfl rfl (Nat.le_of_ble_eq_true rfl) di_X_81 (fun H locs hP hD hS => ?_)
  have hP : va_P D ax_cl ((h0, .inr (9, [.ref o1, .ref o2, .ref o3, .ref qa, .int 0, .null, .null, .null, .null, .null, .null])) :: ((((((wn_Text  tc o1 r1) ++ (wn_Told  tc o2 r2)) ++ (wn_Now (o2) tc o3 r3)) ++ ([(qa, .inl (tc 2, 2, .inr (.inr (.inr (.inr (va_up (va_up (fun _ => none) 0 (some o4)) 1 (some o5)))))))])) ++ (wn_Now (o2) tc o4 r4)) ++ (wn_Now (o2) tc o5 r5))) H := hP
  have hD : va_D A ((h0, .inr (9, [.ref o1, .ref o2, .ref o3, .ref qa, .int 0, .null, .null, .null, .null, .null, .null])) :: ((((((wn_Text  tc o1 r1) ++ (wn_Told  tc o2 r2)) ++ (wn_Now (o2) tc o3 r3)) ++ ([(qa, .inl (tc 2, 2, .inr (.inr (.inr (.inr (va_up (va_up (fun _ => none) 0 (some o4)) 1 (some o5)))))))])) ++ (wn_Now (o2) tc o4 r4)) ++ (wn_Now (o2) tc o5 r5))) := hD
  refine lv_aload_n hx hb di_X_84 rfl (lv_at hl 1 rfl) ?_
  refine va_new (ci := 6) (fs := f0_Seen) (C := "InnChanged$Seen") (T := ax_T6) (N := 4) hx hb hts (ax_cl_ok (ci := 6) rfl).1 _ (ax_cl_ok (ci := 6) rfl).2.1 hown (hts _ (ax_inM (i := 245) (by decide +kernel))) (hts _ (ax_inM (i := 246) (by decide +kernel))) (hts _ (ax_inM (i := 79) (by decide +kernel))) hK hP hD hS hA rfl (by decide +kernel) (Nat.le_of_ble_eq_true rfl) (Nat.le_of_ble_eq_true rfl) di_X_85 (fun o6 H hP hD hS => ?_)
  refine lv_dup hx hb di_X_88 rfl ?_
  refine ax_ctorN (As := []) (n := 0) (rest := [.ref o6, .ref h0]) (ws := (h0, .inr (9, [.ref o1, .ref o2, .ref o3, .ref qa, .int 0, .null, .null, .null, .null, .null, .null])) :: ((((((wn_Text  tc o1 r1) ++ (wn_Told  tc o2 r2)) ++ (wn_Now (o2) tc o3 r3)) ++ ([(qa, .inl (tc 2, 2, .inr (.inr (.inr (.inr (va_up (va_up (fun _ => none) 0 (some o4)) 1 (some o5)))))))])) ++ (wn_Now (o2) tc o4 r4)) ++ (wn_Now (o2) tc o5 r5))) hx hb hml hown hts (fun _ h => h) (ct_Seen l ) hK hP hD hS hA (fun _ _ _ _ _ => trivial) (fun _ _ _ _ => trivial) trivial hex.2.2.2.2 (ax_inM (i := 248) (by decide +kernel)) (ax_inM (i := 79) (by decide +kernel)) (ax_inM (i := 249) (by decide +kernel)) rfl (by decide +kernel) ⟨Nat.le_of_ble_eq_true rfl, Nat.le_of_ble_eq_true rfl⟩ rfl hl.1 (Nat.le_of_ble_eq_true rfl) di_X_89 ⟨Nat.le_of_ble_eq_true rfl, Nat.le_of_ble_eq_true rfl⟩ (fun r6 H locs hP hD hS => ?_)
  have hP : va_P D ax_cl ((h0, .inr (9, [.ref o1, .ref o2, .ref o3, .ref qa, .int 0, .null, .null, .null, .null, .null, .null])) :: (((((((wn_Text  tc o1 r1) ++ (wn_Told  tc o2 r2)) ++ (wn_Now (o2) tc o3 r3)) ++ ([(qa, .inl (tc 2, 2, .inr (.inr (.inr (.inr (va_up (va_up (fun _ => none) 0 (some o4)) 1 (some o5)))))))])) ++ (wn_Now (o2) tc o4 r4)) ++ (wn_Now (o2) tc o5 r5)) ++ (wn_Seen  tc o6 r6))) H := hP
  have hD : va_D A ((h0, .inr (9, [.ref o1, .ref o2, .ref o3, .ref qa, .int 0, .null, .null, .null, .null, .null, .null])) :: (((((((wn_Text  tc o1 r1) ++ (wn_Told  tc o2 r2)) ++ (wn_Now (o2) tc o3 r3)) ++ ([(qa, .inl (tc 2, 2, .inr (.inr (.inr (.inr (va_up (va_up (fun _ => none) 0 (some o4)) 1 (some o5)))))))])) ++ (wn_Now (o2) tc o4 r4)) ++ (wn_Now (o2) tc o5 r5)) ++ (wn_Seen  tc o6 r6))) := hD
  refine ax_pf (own := "InnChanged") (ci := 9) (k := 5) (ty := .object "InnChanged$Seen") hx hb hts hown hin hK hP hD hS rfl (by decide) (ax_inM (i := 433) (by decide +kernel)) rfl (by decide +kernel) rfl rfl (Nat.le_of_ble_eq_true rfl) di_X_92 (fun H locs hP hD hS => ?_)
  have hP : va_P D ax_cl ((h0, .inr (9, [.ref o1, .ref o2, .ref o3, .ref qa, .int 0, .ref o6, .null, .null, .null, .null, .null])) :: (((((((wn_Text  tc o1 r1) ++ (wn_Told  tc o2 r2)) ++ (wn_Now (o2) tc o3 r3)) ++ ([(qa, .inl (tc 2, 2, .inr (.inr (.inr (.inr (va_up (va_up (fun _ => none) 0 (some o4)) 1 (some o5)))))))])) ++ (wn_Now (o2) tc o4 r4)) ++ (wn_Now (o2) tc o5 r5)) ++ (wn_Seen  tc o6 r6))) H := hP
  have hD : va_D A ((h0, .inr (9, [.ref o1, .ref o2, .ref o3, .ref qa, .int 0, .ref o6, .null, .null, .null, .null, .null])) :: (((((((wn_Text  tc o1 r1) ++ (wn_Told  tc o2 r2)) ++ (wn_Now (o2) tc o3 r3)) ++ ([(qa, .inl (tc 2, 2, .inr (.inr (.inr (.inr (va_up (va_up (fun _ => none) 0 (some o4)) 1 (some o5)))))))])) ++ (wn_Now (o2) tc o4 r4)) ++ (wn_Now (o2) tc o5 r5)) ++ (wn_Seen  tc o6 r6))) := hD
  refine lv_aload_n hx hb di_X_95 rfl (lv_at hl 1 rfl) ?_
  refine va_new (ci := 3) (fs := f0_Mend) (C := "InnChanged$Mend") (T := ax_T3) (N := 5) hx hb hts (ax_cl_ok (ci := 3) rfl).1 _ (ax_cl_ok (ci := 3) rfl).2.1 hown (hts _ (ax_inM (i := 266) (by decide +kernel))) (hts _ (ax_inM (i := 267) (by decide +kernel))) (hts _ (ax_inM (i := 80) (by decide +kernel))) hK hP hD hS hA rfl (by decide +kernel) (Nat.le_of_ble_eq_true rfl) (Nat.le_of_ble_eq_true rfl) di_X_96 (fun o7 H hP hD hS => ?_)
  refine lv_dup hx hb di_X_99 rfl ?_
  refine lv_aload_n hx hb di_X_100 rfl (lv_at hl 1 rfl) ?_
  refine va_get (D := D) (ci := 9) (v := .ref o2) (C := "InnChanged") (T := ax_T9) (N := 11) hx hb hts (ax_cl_ok (ci := 9) rfl).1 hown hK hP 0 rfl rfl 1 (by decide) (hts _ (ax_inM (i := 429) (by decide +kernel))) (fun _ h9 => h9) rfl di_X_101 ?_
  refine lv_aload_n hx hb di_X_104 rfl (lv_at hl 1 rfl) ?_
  refine va_get (D := D) (ci := 9) (v := .ref o3) (C := "InnChanged") (T := ax_T9) (N := 11) hx hb hts (ax_cl_ok (ci := 9) rfl).1 hown hK hP 0 rfl rfl 2 (by decide) (hts _ (ax_inM (i := 430) (by decide +kernel))) (fun _ h9 => h9) rfl di_X_105 ?_
  refine ax_ctor (As := [.ref o2, .ref o3]) (n := 2) (rest := [.ref o7, .ref h0]) (ws := (h0, .inr (9, [.ref o1, .ref o2, .ref o3, .ref qa, .int 0, .ref o6, .null, .null, .null, .null, .null])) :: (((((((wn_Text  tc o1 r1) ++ (wn_Told  tc o2 r2)) ++ (wn_Now (o2) tc o3 r3)) ++ ([(qa, .inl (tc 2, 2, .inr (.inr (.inr (.inr (va_up (va_up (fun _ => none) 0 (some o4)) 1 (some o5)))))))])) ++ (wn_Now (o2) tc o4 r4)) ++ (wn_Now (o2) tc o5 r5)) ++ (wn_Seen  tc o6 r6))) hx hb hml hown hts (fun _ h => h) (ct_Mend l (o2) (o3)) hK hP hD hS hA (fun _ _ _ _ _ => trivial) (fun _ _ _ _ => trivial) trivial (ax_inM (i := 268) (by decide +kernel)) (ax_inM (i := 269) (by decide +kernel)) (ax_inM (i := 80) (by decide +kernel)) (ax_inM (i := 270) (by decide +kernel)) rfl (by decide +kernel) ⟨Nat.le_of_ble_eq_true rfl, Nat.le_of_ble_eq_true rfl⟩ rfl hl.1 (Nat.le_of_ble_eq_true rfl) di_X_108 ⟨Nat.le_of_ble_eq_true rfl, Nat.le_of_ble_eq_true rfl⟩ (fun r7 H locs hP hD hS => ?_)
  have hP : va_P D ax_cl ((h0, .inr (9, [.ref o1, .ref o2, .ref o3, .ref qa, .int 0, .ref o6, .null, .null, .null, .null, .null])) :: ((((((((wn_Text  tc o1 r1) ++ (wn_Told  tc o2 r2)) ++ (wn_Now (o2) tc o3 r3)) ++ ([(qa, .inl (tc 2, 2, .inr (.inr (.inr (.inr (va_up (va_up (fun _ => none) 0 (some o4)) 1 (some o5)))))))])) ++ (wn_Now (o2) tc o4 r4)) ++ (wn_Now (o2) tc o5 r5)) ++ (wn_Seen  tc o6 r6)) ++ (wn_Mend (o2) (o3) tc o7 r7))) H := hP
  have hD : va_D A ((h0, .inr (9, [.ref o1, .ref o2, .ref o3, .ref qa, .int 0, .ref o6, .null, .null, .null, .null, .null])) :: ((((((((wn_Text  tc o1 r1) ++ (wn_Told  tc o2 r2)) ++ (wn_Now (o2) tc o3 r3)) ++ ([(qa, .inl (tc 2, 2, .inr (.inr (.inr (.inr (va_up (va_up (fun _ => none) 0 (some o4)) 1 (some o5)))))))])) ++ (wn_Now (o2) tc o4 r4)) ++ (wn_Now (o2) tc o5 r5)) ++ (wn_Seen  tc o6 r6)) ++ (wn_Mend (o2) (o3) tc o7 r7))) := hD
  refine ax_pf (own := "InnChanged") (ci := 9) (k := 6) (ty := .object "InnChanged$Mend") hx hb hts hown hin hK hP hD hS rfl (by decide) (ax_inM (i := 434) (by decide +kernel)) rfl (by decide +kernel) rfl rfl (Nat.le_of_ble_eq_true rfl) di_X_111 (fun H locs hP hD hS => ?_)
  have hP : va_P D ax_cl ((h0, .inr (9, [.ref o1, .ref o2, .ref o3, .ref qa, .int 0, .ref o6, .ref o7, .null, .null, .null, .null])) :: ((((((((wn_Text  tc o1 r1) ++ (wn_Told  tc o2 r2)) ++ (wn_Now (o2) tc o3 r3)) ++ ([(qa, .inl (tc 2, 2, .inr (.inr (.inr (.inr (va_up (va_up (fun _ => none) 0 (some o4)) 1 (some o5)))))))])) ++ (wn_Now (o2) tc o4 r4)) ++ (wn_Now (o2) tc o5 r5)) ++ (wn_Seen  tc o6 r6)) ++ (wn_Mend (o2) (o3) tc o7 r7))) H := hP
  have hD : va_D A ((h0, .inr (9, [.ref o1, .ref o2, .ref o3, .ref qa, .int 0, .ref o6, .ref o7, .null, .null, .null, .null])) :: ((((((((wn_Text  tc o1 r1) ++ (wn_Told  tc o2 r2)) ++ (wn_Now (o2) tc o3 r3)) ++ ([(qa, .inl (tc 2, 2, .inr (.inr (.inr (.inr (va_up (va_up (fun _ => none) 0 (some o4)) 1 (some o5)))))))])) ++ (wn_Now (o2) tc o4 r4)) ++ (wn_Now (o2) tc o5 r5)) ++ (wn_Seen  tc o6 r6)) ++ (wn_Mend (o2) (o3) tc o7 r7))) := hD
  refine lv_aload_n hx hb di_X_114 rfl (lv_at hl 1 rfl) ?_
  refine va_new (ci := 5) (fs := f0_Plan) (C := "InnChanged$Plan") (T := ax_T5) (N := 7) hx hb hts (ax_cl_ok (ci := 5) rfl).1 _ (ax_cl_ok (ci := 5) rfl).2.1 hown (hts _ (ax_inM (i := 290) (by decide +kernel))) (hts _ (ax_inM (i := 291) (by decide +kernel))) (hts _ (ax_inM (i := 81) (by decide +kernel))) hK hP hD hS hA rfl (by decide +kernel) (Nat.le_of_ble_eq_true rfl) (Nat.le_of_ble_eq_true rfl) di_X_115 (fun o8 H hP hD hS => ?_)
  refine lv_dup hx hb di_X_118 rfl ?_
  refine lv_aload_n hx hb di_X_119 rfl (lv_at hl 1 rfl) ?_
  refine va_get (D := D) (ci := 9) (v := .ref o2) (C := "InnChanged") (T := ax_T9) (N := 11) hx hb hts (ax_cl_ok (ci := 9) rfl).1 hown hK hP 0 rfl rfl 1 (by decide) (hts _ (ax_inM (i := 429) (by decide +kernel))) (fun _ h9 => h9) rfl di_X_120 ?_
  refine lv_aload_n hx hb di_X_123 rfl (lv_at hl 1 rfl) ?_
  refine va_get (D := D) (ci := 9) (v := .ref o3) (C := "InnChanged") (T := ax_T9) (N := 11) hx hb hts (ax_cl_ok (ci := 9) rfl).1 hown hK hP 0 rfl rfl 2 (by decide) (hts _ (ax_inM (i := 430) (by decide +kernel))) (fun _ h9 => h9) rfl di_X_124 ?_
  refine ax_ctor (As := [.ref o2, .ref o3]) (n := 2) (rest := [.ref o8, .ref h0]) (ws := (h0, .inr (9, [.ref o1, .ref o2, .ref o3, .ref qa, .int 0, .ref o6, .ref o7, .null, .null, .null, .null])) :: ((((((((wn_Text  tc o1 r1) ++ (wn_Told  tc o2 r2)) ++ (wn_Now (o2) tc o3 r3)) ++ ([(qa, .inl (tc 2, 2, .inr (.inr (.inr (.inr (va_up (va_up (fun _ => none) 0 (some o4)) 1 (some o5)))))))])) ++ (wn_Now (o2) tc o4 r4)) ++ (wn_Now (o2) tc o5 r5)) ++ (wn_Seen  tc o6 r6)) ++ (wn_Mend (o2) (o3) tc o7 r7))) hx hb hml hown hts (fun _ h => h) (ct_Plan l (o2) (o3)) hK hP hD hS hA (fun U g mk a h => ax_ao_c h) (fun u U h g => ax_ao_w h g) hex.2.1 (ax_inM (i := 292) (by decide +kernel)) (ax_inM (i := 293) (by decide +kernel)) (ax_inM (i := 81) (by decide +kernel)) (ax_inM (i := 294) (by decide +kernel)) rfl (by decide +kernel) ⟨Nat.le_of_ble_eq_true rfl, Nat.le_of_ble_eq_true rfl⟩ rfl hl.1 (Nat.le_of_ble_eq_true rfl) di_X_127 ⟨Nat.le_of_ble_eq_true rfl, Nat.le_of_ble_eq_true rfl⟩ (fun r8 H locs hP hD hS => ?_)
  have hP : va_P D ax_cl ((h0, .inr (9, [.ref o1, .ref o2, .ref o3, .ref qa, .int 0, .ref o6, .ref o7, .null, .null, .null, .null])) :: (((((((((wn_Text  tc o1 r1) ++ (wn_Told  tc o2 r2)) ++ (wn_Now (o2) tc o3 r3)) ++ ([(qa, .inl (tc 2, 2, .inr (.inr (.inr (.inr (va_up (va_up (fun _ => none) 0 (some o4)) 1 (some o5)))))))])) ++ (wn_Now (o2) tc o4 r4)) ++ (wn_Now (o2) tc o5 r5)) ++ (wn_Seen  tc o6 r6)) ++ (wn_Mend (o2) (o3) tc o7 r7)) ++ (wn_Plan (o2) (o3) tc o8 r8))) H := hP
  have hD : va_D A ((h0, .inr (9, [.ref o1, .ref o2, .ref o3, .ref qa, .int 0, .ref o6, .ref o7, .null, .null, .null, .null])) :: (((((((((wn_Text  tc o1 r1) ++ (wn_Told  tc o2 r2)) ++ (wn_Now (o2) tc o3 r3)) ++ ([(qa, .inl (tc 2, 2, .inr (.inr (.inr (.inr (va_up (va_up (fun _ => none) 0 (some o4)) 1 (some o5)))))))])) ++ (wn_Now (o2) tc o4 r4)) ++ (wn_Now (o2) tc o5 r5)) ++ (wn_Seen  tc o6 r6)) ++ (wn_Mend (o2) (o3) tc o7 r7)) ++ (wn_Plan (o2) (o3) tc o8 r8))) := hD
  refine ax_pf (own := "InnChanged") (ci := 9) (k := 7) (ty := .object "InnChanged$Plan") hx hb hts hown hin hK hP hD hS rfl (by decide) (ax_inM (i := 435) (by decide +kernel)) rfl (by decide +kernel) rfl rfl (Nat.le_of_ble_eq_true rfl) di_X_130 (fun H locs hP hD hS => ?_)
  have hP : va_P D ax_cl ((h0, .inr (9, [.ref o1, .ref o2, .ref o3, .ref qa, .int 0, .ref o6, .ref o7, .ref o8, .null, .null, .null])) :: (((((((((wn_Text  tc o1 r1) ++ (wn_Told  tc o2 r2)) ++ (wn_Now (o2) tc o3 r3)) ++ ([(qa, .inl (tc 2, 2, .inr (.inr (.inr (.inr (va_up (va_up (fun _ => none) 0 (some o4)) 1 (some o5)))))))])) ++ (wn_Now (o2) tc o4 r4)) ++ (wn_Now (o2) tc o5 r5)) ++ (wn_Seen  tc o6 r6)) ++ (wn_Mend (o2) (o3) tc o7 r7)) ++ (wn_Plan (o2) (o3) tc o8 r8))) H := hP
  have hD : va_D A ((h0, .inr (9, [.ref o1, .ref o2, .ref o3, .ref qa, .int 0, .ref o6, .ref o7, .ref o8, .null, .null, .null])) :: (((((((((wn_Text  tc o1 r1) ++ (wn_Told  tc o2 r2)) ++ (wn_Now (o2) tc o3 r3)) ++ ([(qa, .inl (tc 2, 2, .inr (.inr (.inr (.inr (va_up (va_up (fun _ => none) 0 (some o4)) 1 (some o5)))))))])) ++ (wn_Now (o2) tc o4 r4)) ++ (wn_Now (o2) tc o5 r5)) ++ (wn_Seen  tc o6 r6)) ++ (wn_Mend (o2) (o3) tc o7 r7)) ++ (wn_Plan (o2) (o3) tc o8 r8))) := hD
  refine lv_aload_n hx hb di_X_133 rfl (lv_at hl 1 rfl) ?_
  refine va_new (ci := 2) (fs := f0_Fits) (C := "InnChanged$Fits") (T := ax_T2) (N := 8) hx hb hts (ax_cl_ok (ci := 2) rfl).1 _ (ax_cl_ok (ci := 2) rfl).2.1 hown (hts _ (ax_inM (i := 324) (by decide +kernel))) (hts _ (ax_inM (i := 325) (by decide +kernel))) (hts _ (ax_inM (i := 82) (by decide +kernel))) hK hP hD hS hA rfl (by decide +kernel) (Nat.le_of_ble_eq_true rfl) (Nat.le_of_ble_eq_true rfl) di_X_134 (fun o9 H hP hD hS => ?_)
  refine lv_dup hx hb di_X_137 rfl ?_
  refine lv_aload_n hx hb di_X_138 rfl (lv_at hl 1 rfl) ?_
  refine va_get (D := D) (ci := 9) (v := .ref o2) (C := "InnChanged") (T := ax_T9) (N := 11) hx hb hts (ax_cl_ok (ci := 9) rfl).1 hown hK hP 0 rfl rfl 1 (by decide) (hts _ (ax_inM (i := 429) (by decide +kernel))) (fun _ h9 => h9) rfl di_X_139 ?_
  refine lv_aload_n hx hb di_X_142 rfl (lv_at hl 1 rfl) ?_
  refine va_get (D := D) (ci := 9) (v := .ref o3) (C := "InnChanged") (T := ax_T9) (N := 11) hx hb hts (ax_cl_ok (ci := 9) rfl).1 hown hK hP 0 rfl rfl 2 (by decide) (hts _ (ax_inM (i := 430) (by decide +kernel))) (fun _ h9 => h9) rfl di_X_143 ?_
  refine lv_aload_n hx hb di_X_146 rfl (lv_at hl 1 rfl) ?_
  refine va_get (D := D) (ci := 9) (v := .ref o6) (C := "InnChanged") (T := ax_T9) (N := 11) hx hb hts (ax_cl_ok (ci := 9) rfl).1 hown hK hP 0 rfl rfl 5 (by decide) (hts _ (ax_inM (i := 433) (by decide +kernel))) (fun _ h9 => h9) rfl di_X_147 ?_
  refine ax_ctor (As := [.ref o2, .ref o3, .ref o6]) (n := 3) (rest := [.ref o9, .ref h0]) (ws := (h0, .inr (9, [.ref o1, .ref o2, .ref o3, .ref qa, .int 0, .ref o6, .ref o7, .ref o8, .null, .null, .null])) :: (((((((((wn_Text  tc o1 r1) ++ (wn_Told  tc o2 r2)) ++ (wn_Now (o2) tc o3 r3)) ++ ([(qa, .inl (tc 2, 2, .inr (.inr (.inr (.inr (va_up (va_up (fun _ => none) 0 (some o4)) 1 (some o5)))))))])) ++ (wn_Now (o2) tc o4 r4)) ++ (wn_Now (o2) tc o5 r5)) ++ (wn_Seen  tc o6 r6)) ++ (wn_Mend (o2) (o3) tc o7 r7)) ++ (wn_Plan (o2) (o3) tc o8 r8))) hx hb hml hown hts (fun _ h => h) (ct_Fits l (o2) (o3) (o6)) hK hP hD hS hA (fun _ _ _ _ _ => trivial) (fun _ _ _ _ => trivial) trivial (ax_inM (i := 326) (by decide +kernel)) (ax_inM (i := 327) (by decide +kernel)) (ax_inM (i := 82) (by decide +kernel)) (ax_inM (i := 328) (by decide +kernel)) rfl (by decide +kernel) ⟨Nat.le_of_ble_eq_true rfl, Nat.le_of_ble_eq_true rfl⟩ rfl hl.1 (Nat.le_of_ble_eq_true rfl) di_X_150 ⟨Nat.le_of_ble_eq_true rfl, Nat.le_of_ble_eq_true rfl⟩ (fun r9 H locs hP hD hS => ?_)
  have hP : va_P D ax_cl ((h0, .inr (9, [.ref o1, .ref o2, .ref o3, .ref qa, .int 0, .ref o6, .ref o7, .ref o8, .null, .null, .null])) :: ((((((((((wn_Text  tc o1 r1) ++ (wn_Told  tc o2 r2)) ++ (wn_Now (o2) tc o3 r3)) ++ ([(qa, .inl (tc 2, 2, .inr (.inr (.inr (.inr (va_up (va_up (fun _ => none) 0 (some o4)) 1 (some o5)))))))])) ++ (wn_Now (o2) tc o4 r4)) ++ (wn_Now (o2) tc o5 r5)) ++ (wn_Seen  tc o6 r6)) ++ (wn_Mend (o2) (o3) tc o7 r7)) ++ (wn_Plan (o2) (o3) tc o8 r8)) ++ (wn_Fits (o2) (o3) (o6) tc o9 r9))) H := hP
  have hD : va_D A ((h0, .inr (9, [.ref o1, .ref o2, .ref o3, .ref qa, .int 0, .ref o6, .ref o7, .ref o8, .null, .null, .null])) :: ((((((((((wn_Text  tc o1 r1) ++ (wn_Told  tc o2 r2)) ++ (wn_Now (o2) tc o3 r3)) ++ ([(qa, .inl (tc 2, 2, .inr (.inr (.inr (.inr (va_up (va_up (fun _ => none) 0 (some o4)) 1 (some o5)))))))])) ++ (wn_Now (o2) tc o4 r4)) ++ (wn_Now (o2) tc o5 r5)) ++ (wn_Seen  tc o6 r6)) ++ (wn_Mend (o2) (o3) tc o7 r7)) ++ (wn_Plan (o2) (o3) tc o8 r8)) ++ (wn_Fits (o2) (o3) (o6) tc o9 r9))) := hD
  refine ax_pf (own := "InnChanged") (ci := 9) (k := 8) (ty := .object "InnChanged$Fits") hx hb hts hown hin hK hP hD hS rfl (by decide) (ax_inM (i := 436) (by decide +kernel)) rfl (by decide +kernel) rfl rfl (Nat.le_of_ble_eq_true rfl) di_X_153 (fun H locs hP hD hS => ?_)
  have hP : va_P D ax_cl ((h0, .inr (9, [.ref o1, .ref o2, .ref o3, .ref qa, .int 0, .ref o6, .ref o7, .ref o8, .ref o9, .null, .null])) :: ((((((((((wn_Text  tc o1 r1) ++ (wn_Told  tc o2 r2)) ++ (wn_Now (o2) tc o3 r3)) ++ ([(qa, .inl (tc 2, 2, .inr (.inr (.inr (.inr (va_up (va_up (fun _ => none) 0 (some o4)) 1 (some o5)))))))])) ++ (wn_Now (o2) tc o4 r4)) ++ (wn_Now (o2) tc o5 r5)) ++ (wn_Seen  tc o6 r6)) ++ (wn_Mend (o2) (o3) tc o7 r7)) ++ (wn_Plan (o2) (o3) tc o8 r8)) ++ (wn_Fits (o2) (o3) (o6) tc o9 r9))) H := hP
  have hD : va_D A ((h0, .inr (9, [.ref o1, .ref o2, .ref o3, .ref qa, .int 0, .ref o6, .ref o7, .ref o8, .ref o9, .null, .null])) :: ((((((((((wn_Text  tc o1 r1) ++ (wn_Told  tc o2 r2)) ++ (wn_Now (o2) tc o3 r3)) ++ ([(qa, .inl (tc 2, 2, .inr (.inr (.inr (.inr (va_up (va_up (fun _ => none) 0 (some o4)) 1 (some o5)))))))])) ++ (wn_Now (o2) tc o4 r4)) ++ (wn_Now (o2) tc o5 r5)) ++ (wn_Seen  tc o6 r6)) ++ (wn_Mend (o2) (o3) tc o7 r7)) ++ (wn_Plan (o2) (o3) tc o8 r8)) ++ (wn_Fits (o2) (o3) (o6) tc o9 r9))) := hD
  refine lv_aload_n hx hb di_X_156 rfl (lv_at hl 1 rfl) ?_
  refine va_new (ci := 0) (fs := f0_Apart) (C := "InnChanged$Apart") (T := ax_T0) (N := 8) hx hb hts (ax_cl_ok (ci := 0) rfl).1 _ (ax_cl_ok (ci := 0) rfl).2.1 hown (hts _ (ax_inM (i := 360) (by decide +kernel))) (hts _ (ax_inM (i := 361) (by decide +kernel))) (hts _ (ax_inM (i := 83) (by decide +kernel))) hK hP hD hS hA rfl (by decide +kernel) (Nat.le_of_ble_eq_true rfl) (Nat.le_of_ble_eq_true rfl) di_X_157 (fun o10 H hP hD hS => ?_)
  refine lv_dup hx hb di_X_160 rfl ?_
  refine lv_aload_n hx hb di_X_161 rfl (lv_at hl 1 rfl) ?_
  refine va_get (D := D) (ci := 9) (v := .ref o2) (C := "InnChanged") (T := ax_T9) (N := 11) hx hb hts (ax_cl_ok (ci := 9) rfl).1 hown hK hP 0 rfl rfl 1 (by decide) (hts _ (ax_inM (i := 429) (by decide +kernel))) (fun _ h9 => h9) rfl di_X_162 ?_
  refine lv_aload_n hx hb di_X_165 rfl (lv_at hl 1 rfl) ?_
  refine va_get (D := D) (ci := 9) (v := .ref o3) (C := "InnChanged") (T := ax_T9) (N := 11) hx hb hts (ax_cl_ok (ci := 9) rfl).1 hown hK hP 0 rfl rfl 2 (by decide) (hts _ (ax_inM (i := 430) (by decide +kernel))) (fun _ h9 => h9) rfl di_X_166 ?_
  refine lv_aload_n hx hb di_X_169 rfl (lv_at hl 1 rfl) ?_
  refine va_get (D := D) (ci := 9) (v := .ref o9) (C := "InnChanged") (T := ax_T9) (N := 11) hx hb hts (ax_cl_ok (ci := 9) rfl).1 hown hK hP 0 rfl rfl 8 (by decide) (hts _ (ax_inM (i := 436) (by decide +kernel))) (fun _ h9 => h9) rfl di_X_170 ?_
  refine ax_ctor (As := [.ref o2, .ref o3, .ref o9]) (n := 3) (rest := [.ref o10, .ref h0]) (ws := (h0, .inr (9, [.ref o1, .ref o2, .ref o3, .ref qa, .int 0, .ref o6, .ref o7, .ref o8, .ref o9, .null, .null])) :: ((((((((((wn_Text  tc o1 r1) ++ (wn_Told  tc o2 r2)) ++ (wn_Now (o2) tc o3 r3)) ++ ([(qa, .inl (tc 2, 2, .inr (.inr (.inr (.inr (va_up (va_up (fun _ => none) 0 (some o4)) 1 (some o5)))))))])) ++ (wn_Now (o2) tc o4 r4)) ++ (wn_Now (o2) tc o5 r5)) ++ (wn_Seen  tc o6 r6)) ++ (wn_Mend (o2) (o3) tc o7 r7)) ++ (wn_Plan (o2) (o3) tc o8 r8)) ++ (wn_Fits (o2) (o3) (o6) tc o9 r9))) hx hb hml hown hts (fun _ h => h) (ct_Apart l (o2) (o3) (o9)) hK hP hD hS hA (fun _ _ _ _ _ => trivial) (fun _ _ _ _ => trivial) trivial (ax_inM (i := 362) (by decide +kernel)) (ax_inM (i := 363) (by decide +kernel)) (ax_inM (i := 83) (by decide +kernel)) (ax_inM (i := 364) (by decide +kernel)) rfl (by decide +kernel) ⟨Nat.le_of_ble_eq_true rfl, Nat.le_of_ble_eq_true rfl⟩ rfl hl.1 (Nat.le_of_ble_eq_true rfl) di_X_173 ⟨Nat.le_of_ble_eq_true rfl, Nat.le_of_ble_eq_true rfl⟩ (fun r10 H locs hP hD hS => ?_)
  have hP : va_P D ax_cl ((h0, .inr (9, [.ref o1, .ref o2, .ref o3, .ref qa, .int 0, .ref o6, .ref o7, .ref o8, .ref o9, .null, .null])) :: (((((((((((wn_Text  tc o1 r1) ++ (wn_Told  tc o2 r2)) ++ (wn_Now (o2) tc o3 r3)) ++ ([(qa, .inl (tc 2, 2, .inr (.inr (.inr (.inr (va_up (va_up (fun _ => none) 0 (some o4)) 1 (some o5)))))))])) ++ (wn_Now (o2) tc o4 r4)) ++ (wn_Now (o2) tc o5 r5)) ++ (wn_Seen  tc o6 r6)) ++ (wn_Mend (o2) (o3) tc o7 r7)) ++ (wn_Plan (o2) (o3) tc o8 r8)) ++ (wn_Fits (o2) (o3) (o6) tc o9 r9)) ++ (wn_Apart (o2) (o3) (o9) tc o10 r10))) H := hP
  have hD : va_D A ((h0, .inr (9, [.ref o1, .ref o2, .ref o3, .ref qa, .int 0, .ref o6, .ref o7, .ref o8, .ref o9, .null, .null])) :: (((((((((((wn_Text  tc o1 r1) ++ (wn_Told  tc o2 r2)) ++ (wn_Now (o2) tc o3 r3)) ++ ([(qa, .inl (tc 2, 2, .inr (.inr (.inr (.inr (va_up (va_up (fun _ => none) 0 (some o4)) 1 (some o5)))))))])) ++ (wn_Now (o2) tc o4 r4)) ++ (wn_Now (o2) tc o5 r5)) ++ (wn_Seen  tc o6 r6)) ++ (wn_Mend (o2) (o3) tc o7 r7)) ++ (wn_Plan (o2) (o3) tc o8 r8)) ++ (wn_Fits (o2) (o3) (o6) tc o9 r9)) ++ (wn_Apart (o2) (o3) (o9) tc o10 r10))) := hD
  refine ax_pf (own := "InnChanged") (ci := 9) (k := 9) (ty := .object "InnChanged$Apart") hx hb hts hown hin hK hP hD hS rfl (by decide) (ax_inM (i := 437) (by decide +kernel)) rfl (by decide +kernel) rfl rfl (Nat.le_of_ble_eq_true rfl) di_X_176 (fun H locs hP hD hS => ?_)
  have hP : va_P D ax_cl ((h0, .inr (9, [.ref o1, .ref o2, .ref o3, .ref qa, .int 0, .ref o6, .ref o7, .ref o8, .ref o9, .ref o10, .null])) :: (((((((((((wn_Text  tc o1 r1) ++ (wn_Told  tc o2 r2)) ++ (wn_Now (o2) tc o3 r3)) ++ ([(qa, .inl (tc 2, 2, .inr (.inr (.inr (.inr (va_up (va_up (fun _ => none) 0 (some o4)) 1 (some o5)))))))])) ++ (wn_Now (o2) tc o4 r4)) ++ (wn_Now (o2) tc o5 r5)) ++ (wn_Seen  tc o6 r6)) ++ (wn_Mend (o2) (o3) tc o7 r7)) ++ (wn_Plan (o2) (o3) tc o8 r8)) ++ (wn_Fits (o2) (o3) (o6) tc o9 r9)) ++ (wn_Apart (o2) (o3) (o9) tc o10 r10))) H := hP
  have hD : va_D A ((h0, .inr (9, [.ref o1, .ref o2, .ref o3, .ref qa, .int 0, .ref o6, .ref o7, .ref o8, .ref o9, .ref o10, .null])) :: (((((((((((wn_Text  tc o1 r1) ++ (wn_Told  tc o2 r2)) ++ (wn_Now (o2) tc o3 r3)) ++ ([(qa, .inl (tc 2, 2, .inr (.inr (.inr (.inr (va_up (va_up (fun _ => none) 0 (some o4)) 1 (some o5)))))))])) ++ (wn_Now (o2) tc o4 r4)) ++ (wn_Now (o2) tc o5 r5)) ++ (wn_Seen  tc o6 r6)) ++ (wn_Mend (o2) (o3) tc o7 r7)) ++ (wn_Plan (o2) (o3) tc o8 r8)) ++ (wn_Fits (o2) (o3) (o6) tc o9 r9)) ++ (wn_Apart (o2) (o3) (o9) tc o10 r10))) := hD
  refine lv_aload_n hx hb di_X_179 rfl (lv_at hl 1 rfl) ?_
  refine va_new (ci := 1) (fs := f0_Came) (C := "InnChanged$Came") (T := ax_T1) (N := 9) hx hb hts (ax_cl_ok (ci := 1) rfl).1 _ (ax_cl_ok (ci := 1) rfl).2.1 hown (hts _ (ax_inM (i := 392) (by decide +kernel))) (hts _ (ax_inM (i := 393) (by decide +kernel))) (hts _ (ax_inM (i := 84) (by decide +kernel))) hK hP hD hS hA rfl (by decide +kernel) (Nat.le_of_ble_eq_true rfl) (Nat.le_of_ble_eq_true rfl) di_X_180 (fun o11 H hP hD hS => ?_)
  refine lv_dup hx hb di_X_183 rfl ?_
  refine lv_aload_n hx hb di_X_184 rfl (lv_at hl 1 rfl) ?_
  refine va_get (D := D) (ci := 9) (v := .ref o2) (C := "InnChanged") (T := ax_T9) (N := 11) hx hb hts (ax_cl_ok (ci := 9) rfl).1 hown hK hP 0 rfl rfl 1 (by decide) (hts _ (ax_inM (i := 429) (by decide +kernel))) (fun _ h9 => h9) rfl di_X_185 ?_
  refine lv_aload_n hx hb di_X_188 rfl (lv_at hl 1 rfl) ?_
  refine va_get (D := D) (ci := 9) (v := .ref o3) (C := "InnChanged") (T := ax_T9) (N := 11) hx hb hts (ax_cl_ok (ci := 9) rfl).1 hown hK hP 0 rfl rfl 2 (by decide) (hts _ (ax_inM (i := 430) (by decide +kernel))) (fun _ h9 => h9) rfl di_X_189 ?_
  refine lv_aload_n hx hb di_X_192 rfl (lv_at hl 1 rfl) ?_
  refine va_get (D := D) (ci := 9) (v := .ref o9) (C := "InnChanged") (T := ax_T9) (N := 11) hx hb hts (ax_cl_ok (ci := 9) rfl).1 hown hK hP 0 rfl rfl 8 (by decide) (hts _ (ax_inM (i := 436) (by decide +kernel))) (fun _ h9 => h9) rfl di_X_193 ?_
  refine ax_ctor (As := [.ref o2, .ref o3, .ref o9]) (n := 3) (rest := [.ref o11, .ref h0]) (ws := (h0, .inr (9, [.ref o1, .ref o2, .ref o3, .ref qa, .int 0, .ref o6, .ref o7, .ref o8, .ref o9, .ref o10, .null])) :: (((((((((((wn_Text  tc o1 r1) ++ (wn_Told  tc o2 r2)) ++ (wn_Now (o2) tc o3 r3)) ++ ([(qa, .inl (tc 2, 2, .inr (.inr (.inr (.inr (va_up (va_up (fun _ => none) 0 (some o4)) 1 (some o5)))))))])) ++ (wn_Now (o2) tc o4 r4)) ++ (wn_Now (o2) tc o5 r5)) ++ (wn_Seen  tc o6 r6)) ++ (wn_Mend (o2) (o3) tc o7 r7)) ++ (wn_Plan (o2) (o3) tc o8 r8)) ++ (wn_Fits (o2) (o3) (o6) tc o9 r9)) ++ (wn_Apart (o2) (o3) (o9) tc o10 r10))) hx hb hml hown hts (fun _ h => h) (ct_Came l (o2) (o3) (o9)) hK hP hD hS hA (fun _ _ _ _ _ => trivial) (fun _ _ _ _ => trivial) trivial (ax_inM (i := 394) (by decide +kernel)) (ax_inM (i := 395) (by decide +kernel)) (ax_inM (i := 84) (by decide +kernel)) (ax_inM (i := 396) (by decide +kernel)) rfl (by decide +kernel) ⟨Nat.le_of_ble_eq_true rfl, Nat.le_of_ble_eq_true rfl⟩ rfl hl.1 (Nat.le_of_ble_eq_true rfl) di_X_196 ⟨Nat.le_of_ble_eq_true rfl, Nat.le_of_ble_eq_true rfl⟩ (fun r11 H locs hP hD hS => ?_)
  have hP : va_P D ax_cl ((h0, .inr (9, [.ref o1, .ref o2, .ref o3, .ref qa, .int 0, .ref o6, .ref o7, .ref o8, .ref o9, .ref o10, .null])) :: ((((((((((((wn_Text  tc o1 r1) ++ (wn_Told  tc o2 r2)) ++ (wn_Now (o2) tc o3 r3)) ++ ([(qa, .inl (tc 2, 2, .inr (.inr (.inr (.inr (va_up (va_up (fun _ => none) 0 (some o4)) 1 (some o5)))))))])) ++ (wn_Now (o2) tc o4 r4)) ++ (wn_Now (o2) tc o5 r5)) ++ (wn_Seen  tc o6 r6)) ++ (wn_Mend (o2) (o3) tc o7 r7)) ++ (wn_Plan (o2) (o3) tc o8 r8)) ++ (wn_Fits (o2) (o3) (o6) tc o9 r9)) ++ (wn_Apart (o2) (o3) (o9) tc o10 r10)) ++ (wn_Came (o2) (o3) (o9) tc o11 r11))) H := hP
  have hD : va_D A ((h0, .inr (9, [.ref o1, .ref o2, .ref o3, .ref qa, .int 0, .ref o6, .ref o7, .ref o8, .ref o9, .ref o10, .null])) :: ((((((((((((wn_Text  tc o1 r1) ++ (wn_Told  tc o2 r2)) ++ (wn_Now (o2) tc o3 r3)) ++ ([(qa, .inl (tc 2, 2, .inr (.inr (.inr (.inr (va_up (va_up (fun _ => none) 0 (some o4)) 1 (some o5)))))))])) ++ (wn_Now (o2) tc o4 r4)) ++ (wn_Now (o2) tc o5 r5)) ++ (wn_Seen  tc o6 r6)) ++ (wn_Mend (o2) (o3) tc o7 r7)) ++ (wn_Plan (o2) (o3) tc o8 r8)) ++ (wn_Fits (o2) (o3) (o6) tc o9 r9)) ++ (wn_Apart (o2) (o3) (o9) tc o10 r10)) ++ (wn_Came (o2) (o3) (o9) tc o11 r11))) := hD
  refine ax_pf (own := "InnChanged") (ci := 9) (k := 10) (ty := .object "InnChanged$Came") hx hb hts hown hin hK hP hD hS rfl (by decide) (ax_inM (i := 438) (by decide +kernel)) rfl (by decide +kernel) rfl rfl (Nat.le_of_ble_eq_true rfl) di_X_199 (fun H locs hP hD hS => ?_)
  have hP : va_P D ax_cl ((h0, .inr (9, [.ref o1, .ref o2, .ref o3, .ref qa, .int 0, .ref o6, .ref o7, .ref o8, .ref o9, .ref o10, .ref o11])) :: ((((((((((((wn_Text  tc o1 r1) ++ (wn_Told  tc o2 r2)) ++ (wn_Now (o2) tc o3 r3)) ++ ([(qa, .inl (tc 2, 2, .inr (.inr (.inr (.inr (va_up (va_up (fun _ => none) 0 (some o4)) 1 (some o5)))))))])) ++ (wn_Now (o2) tc o4 r4)) ++ (wn_Now (o2) tc o5 r5)) ++ (wn_Seen  tc o6 r6)) ++ (wn_Mend (o2) (o3) tc o7 r7)) ++ (wn_Plan (o2) (o3) tc o8 r8)) ++ (wn_Fits (o2) (o3) (o6) tc o9 r9)) ++ (wn_Apart (o2) (o3) (o9) tc o10 r10)) ++ (wn_Came (o2) (o3) (o9) tc o11 r11))) H := hP
  have hD : va_D A ((h0, .inr (9, [.ref o1, .ref o2, .ref o3, .ref qa, .int 0, .ref o6, .ref o7, .ref o8, .ref o9, .ref o10, .ref o11])) :: ((((((((((((wn_Text  tc o1 r1) ++ (wn_Told  tc o2 r2)) ++ (wn_Now (o2) tc o3 r3)) ++ ([(qa, .inl (tc 2, 2, .inr (.inr (.inr (.inr (va_up (va_up (fun _ => none) 0 (some o4)) 1 (some o5)))))))])) ++ (wn_Now (o2) tc o4 r4)) ++ (wn_Now (o2) tc o5 r5)) ++ (wn_Seen  tc o6 r6)) ++ (wn_Mend (o2) (o3) tc o7 r7)) ++ (wn_Plan (o2) (o3) tc o8 r8)) ++ (wn_Fits (o2) (o3) (o6) tc o9 r9)) ++ (wn_Apart (o2) (o3) (o9) tc o10 r10)) ++ (wn_Came (o2) (o3) (o9) tc o11 r11))) := hD
  refine W.widen (k := 60) (n := 2621) (Nat.le_of_ble_eq_true rfl) (Nat.le_of_ble_eq_true rfl) ?_
  exact W.vret hx hb hr (fun t ht hW => ⟨⟨(fun t => ([(fun k => [qa, o1, o2, o3, o4, o5, o6, o7, o8, o9, o10, o11].getD k 0), r1 0, r2 0, r3 0, r4 0, r5 0, r6 0, r7 0, r8 0, r9 0, r10 0, r11 0] : List (Nat → Nat)).getD t (r8 1)), rfl, trivial, by rw [ht]; exact hP, va_K.moved hW.alike hK, hD⟩, hS.F ht⟩) hS.2.2 di_X_202
