/-! constructors -/
section CT
variable {p : Program} {l : Launch} {e : Env} {R : Room} {s : State} {m : MethodId} {args : Array Value} {below : List Frame} {meth : Method} {c : Code} {H : Heap} {locs : List Loc} {cells slots : Nat} {Q : State → Prop}
variable {cc : ByteArray} {pc : Nat} {ls : Array Slot} {rest : List Value} {D : va_G} {A : Nat → Prop} {ws : va_W} {H0 : Heap} {tc : Nat → ClassId}
theorem ax_newI (hx : p.tables.exec = Jvm.exec) (hb : c.code = cc) (hts : ∀ w ∈ ax_wsA, w.before args s = true) (hK : va_K D ax_cl (ax_tys tc) s) (hP : va_P D ax_cl ws H) (hD : va_D A ws) (hS : va_S A H0 H locs) (hA : ∀ q : Nat, H0.size ≤ q → A q) {n : Int32} {N' : Nat} (hn : ¬ n < 0) (hN : n.toNatClampNeg = N') (hbytes : N' ≤ 6000) (hcells : cells + 1 ≤ R.cells) (hslots : slots + N' ≤ R.slots) (hdg : decode cc pc = .ok (.newarray .int, 2))
    (kk : ∀ (q : Nat) (H1 : Heap), va_P D ax_cl (ws ++ [(q, .inl (tc 0, N', .inl (fun _ => 0)))]) H1 → va_D A (ws ++ [(q, .inl (tc 0, N', .inl (fun _ => 0)))]) → va_S A H0 H1 locs → W p l e R s m args below meth c H1 locs (cells + 1) (slots + N') Q (F0 m (pc + 2) ls (.ref q :: rest))) : W p l e R s m args below meth c H locs cells slots Q (F0 m pc ls (.int n :: rest)) := by
  refine va_newa (ty := .int) (a0 := (N', .inl (fun _ => 0))) hx hb (hts _ (ax_inM (i := 143) (by decide +kernel))) rfl hK hP hD hS hA (fun _ => rfl) hn hN (Nat.le_trans (Nat.mul_le_mul_left N' (show componentBytes .int ≤ 4 by decide)) (by omega)) hcells hslots hdg (fun q cA H1 hK1 hP1 hD1 hS1 => ?_)
  have e1 : s.vm.findClass ("[" ++ (FieldType.toString .int)) = some cA := (hK1.2 4 _ rfl).2
  have e0 : s.vm.findClass ("[" ++ (FieldType.toString .int)) = some (tc 0) := (hK.2 0 _ rfl).2
  have e2 : cA = tc 0 := Option.some.inj (e1.symm.trans e0)
  subst e2
  exact kk q H1 hP1 hD1 hS1
theorem ax_newB (hx : p.tables.exec = Jvm.exec) (hb : c.code = cc) (hts : ∀ w ∈ ax_wsA, w.before args s = true) (hK : va_K D ax_cl (ax_tys tc) s) (hP : va_P D ax_cl ws H) (hD : va_D A ws) (hS : va_S A H0 H locs) (hA : ∀ q : Nat, H0.size ≤ q → A q) {n : Int32} {N' : Nat} (hn : ¬ n < 0) (hN : n.toNatClampNeg = N') (hbytes : N' ≤ 6000) (hcells : cells + 1 ≤ R.cells) (hslots : slots + N' ≤ R.slots) (hdg : decode cc pc = .ok (.newarray .boolean, 2))
    (kk : ∀ (q : Nat) (H1 : Heap), va_P D ax_cl (ws ++ [(q, .inl (tc 1, N', .inl (fun _ => 0)))]) H1 → va_D A (ws ++ [(q, .inl (tc 1, N', .inl (fun _ => 0)))]) → va_S A H0 H1 locs → W p l e R s m args below meth c H1 locs (cells + 1) (slots + N') Q (F0 m (pc + 2) ls (.ref q :: rest))) : W p l e R s m args below meth c H locs cells slots Q (F0 m pc ls (.int n :: rest)) := by
  refine va_newa (ty := .boolean) (a0 := (N', .inl (fun _ => 0))) hx hb (hts _ (ax_inM (i := 265) (by decide +kernel))) rfl hK hP hD hS hA (fun _ => rfl) hn hN (Nat.le_trans (Nat.mul_le_mul_left N' (show componentBytes .boolean ≤ 4 by decide)) (by omega)) hcells hslots hdg (fun q cA H1 hK1 hP1 hD1 hS1 => ?_)
  have e1 : s.vm.findClass ("[" ++ (FieldType.toString .boolean)) = some cA := (hK1.2 4 _ rfl).2
  have e0 : s.vm.findClass ("[" ++ (FieldType.toString .boolean)) = some (tc 1) := (hK.2 1 _ rfl).2
  have e2 : cA = tc 1 := Option.some.inj (e1.symm.trans e0)
  subst e2
  exact kk q H1 hP1 hD1 hS1
theorem ax_pf {own C : String} {T : u_T} {N ci index k a : Nat} {fs : List Value} {ty : FieldType} {v : Value} (hx : p.tables.exec = Jvm.exec) (hb : c.code = cc) (hts : ∀ w ∈ ax_wsA, w.before args s = true) (hown : s.vm.findClass own = some m.cls) (hname : meth.name = "<init>") (hK : va_K D ax_cl (ax_tys tc) s) (hP : va_P D ax_cl ((a, .inr (ci, fs)) :: ws) H) (hD : va_D A ((a, .inr (ci, fs)) :: ws)) (hS : va_S A H0 H locs) (hc : ax_cl[ci]? = some (C, T, N)) (hk : k < N) (hlink : .fieldLink own index (T k).1 (T k).2.1 (T k).2.2.1 ∈ ax_wsA) (hdecl : (T k).1 = own) (hd : parseFieldDescriptor (T k).2.2.1 = some ty) (hn : narrow ty v = v) (hfit : fits ty v = true) (hl : k < fs.length) (hdg : decode cc pc = .ok (.putfield index, 3))
    (kk : ∀ (H1 : Heap) (locs1 : List Loc), va_P D ax_cl ((a, .inr (ci, fs.set k v)) :: ws) H1 → va_D A ((a, .inr (ci, fs.set k v)) :: ws) → va_S A H0 H1 locs1 → W p l e R s m args below meth c H1 locs1 cells slots Q (F0 m (pc + 3) ls rest)) : W p l e R s m args below meth c H locs cells slots Q (F0 m pc ls (v :: .ref a :: rest)) := by
  have hcl := ax_cl_ok hc
  cases hf : (T k).2.2.2 with
  | true => exact va_putF (ci := ci) (C := C) (T := T) (N := N) hx hb hts hcl.1 _ hcl.2.1 hcl.2.2 hown hK hP hD hS 0 rfl hc k hk (hts _ hlink) (fun _ h9 => h9) hf hname hdecl hd hn hfit hl hdg kk
  | false => exact va_put (ci := ci) (C := C) (T := T) (N := N) hx hb hts hcl.1 _ hcl.2.1 hcl.2.2 hown hK hP hD hS 0 rfl hc k hk (hts _ hlink) (fun _ h9 => h9) hf hd hn hfit hl hdg kk
def ax_wc (y : MethodName) (b : ByteArray) (n : Nat) : List Cond := Cond.code y b n none :: ax_wsA
def ax_CT0 (l : Launch) (y : MethodName) (bs : ByteArray) (ml ci : Nat) (fs0 : List Value) (mc ms fr lo : Nat) (ex : State → Prop) (As : List Value) (wn : (Nat → ClassId) → Nat → (Nat → Nat → Nat) → va_W) : Prop := ∀ (D : va_G) (tc : Nat → ClassId) (h0 sz : Nat),
  Met l y (ax_wc y bs ml) { frames := fr, cells := mc, slots := ms, locals := lo } (va_Pc (.ref h0 :: As) (fun U => U.heap.size = sz ∧ va_P D ax_cl [(h0, .inr (ci, fs0))] U.heap ∧ va_K D ax_cl (ax_tys tc) U ∧ va_D (fun _ => True) [(h0, .inr (ci, fs0))] ∧ ex U))
    (va_Qv (fun _ : Nat → Nat → Nat => True) (fun r t => va_P D ax_cl (wn tc h0 r) t.heap ∧ va_K D ax_cl (ax_tys tc) t ∧ va_D (va_A [(h0, .inr (ci, fs0))] sz) (wn tc h0 r)) (va_A [(h0, .inr (ci, fs0))] sz)) mc ms (va_A [(h0, .inr (ci, fs0))] sz)
theorem ax_ctor {own : String} {Ts : List Cond} {y : MethodName} {bs : ByteArray} {ml ci mc ms fr lo n index q5 nL : Nat} {fs0 As : List Value} {ex : State → Prop} {wn : (Nat → ClassId) → Nat → (Nat → Nat → Nat) → va_W} (hx : p.tables.exec = Jvm.exec) (hb : c.code = cc) (hml : c.maxLocals = nL) (hown : s.vm.findClass own = some m.cls) (hts : ∀ w ∈ Ts, w.before args s = true) (hG : ∀ w ∈ ax_wsA, w ∈ Ts) (hM : ax_CT0 l y bs ml ci fs0 mc ms fr lo ex As wn) (hK : va_K D ax_cl (ax_tys tc) s)
    (hP : va_P D ax_cl (ws ++ [(q5, .inr (ci, fs0))]) H) (hD : va_D A (ws ++ [(q5, .inr (ci, fs0))])) (hS : va_S A s.heap H locs) (hA : ∀ q : Nat, s.heap.size ≤ q → A q) (hm1 : ∀ (U : State) (g : JFrame) (mk : MethodId) (a : Array Value), ex U → ex (U.calling g mk a)) (hm2 : ∀ u U : State, u.WarmedH U.vm → ex u → ex U) (hex : ex s) (w1 : .methodLink own index y ∈ ax_wsA) (w2 : .instanceMethod y ∈ ax_wsA) (w3 : .initialized y.cls ∈ ax_wsA) (w4 : .code y bs ml none ∈ ax_wsA) (hy : y.name = "<init>") (hd : y.cls ≠ "java/lang/invoke/MethodHandle" ∧ y.cls ≠ "java/lang/invoke/VarHandle" ∧ (parseMethodDescriptor y.desc).map (fun d => d.parameters.length) = some n) (hR : fr + 1 ≤ R.frames ∧ 8 + (ml + 11) + lo ≤ R.locals)
    (hn : As.length = n) (hsize : ls.size = nL) (hrest : (rest.map fun v => v.category).sum ≤ 8) (hdg : decode cc pc = .ok (.invokespecial index, 3)) (hf : cells + mc ≤ R.cells ∧ slots + ms ≤ R.slots)
    (kk : ∀ (r : Nat → Nat → Nat) (H1 : Heap) (locs1 : List Loc), va_P D ax_cl (ws ++ wn tc q5 r) H1 → va_D A (ws ++ wn tc q5 r) → va_S A s.heap H1 locs1 → W p l e R s m args below meth c H1 locs1 (cells + mc) (slots + ms) Q (F0 m (pc + 3) ls rest)) : W p l e R s m args below meth c H locs cells slots Q (F0 m pc ls (As.reverse ++ Value.ref q5 :: rest)) := by
  have hlast : (ws ++ [(q5, (.inr (ci, fs0) : va_E))])[ws.length]? = some (q5, .inr (ci, fs0)) := by
    rw [List.getElem?_append_right (Nat.le_refl _), Nat.sub_self]; rfl
  have hleft : ∀ (k : Nat) (x : Nat × va_E), ws[k]? = some x → (ws ++ [(q5, (.inr (ci, fs0) : va_E))])[k]? = some x := fun k x hk => by
    rw [List.getElem?_append_left (List.getElem?_eq_some_iff.mp hk).1]; exact hk
  have hPc : va_P D ax_cl [(q5, .inr (ci, fs0))] H := fun k x hk => by
    have h0 : k < 1 := (List.getElem?_eq_some_iff.mp hk).1
    rw [show k = 0 by omega] at hk
    cases hk
    exact hP ws.length _ hlast
  have hDc : va_D (fun _ => True) [(q5, (.inr (ci, fs0) : va_E))] := ⟨fun i j p q hi hj _ => by
    have h1 : i < 1 := (List.getElem?_eq_some_iff.mp hi).1
    have h2 : j < 1 := (List.getElem?_eq_some_iff.mp hj).1
    omega, fun _ _ _ => trivial⟩
  have hFc : ∀ x : Nat, va_A [(q5, .inr (ci, fs0))] H.size x → A x := fun x h => by
    rcases h with ⟨k, e, h⟩ | h
    · have h0 : k < 1 := (List.getElem?_eq_some_iff.mp h).1
      rw [show k = 0 by omega] at h
      cases h
      exact hD.2 ws.length _ hlast
    · exact hA x (Nat.le_trans hS.1 h)
  have hGI : GoodIn Ts (ax_wc y bs ml) := fun w hw => by
    rcases List.mem_cons.mp hw with rfl | hw
    · exact ⟨hG _ w4, (lw_goodW w4).2⟩
    · exact ⟨hG _ hw, (lw_goodW hw).2⟩
  refine va_callv (va_runI (As := As) (rest := rest) ⟨hx, hb, hml, hown, hts⟩ (hM D tc q5 H.size) (cwI n hts hGI rfl rfl rfl (hts _ (hG _ w3)) (hts _ (hG _ w1)) (hts _ (hG _ w2)) hy hd hR) ⟨fun a U g mk w => by
    obtain ⟨q0, q1, qP, qK, qD, qE⟩ := w
    exact ⟨q0, q1, qP, va_K.moved (u := U) (U := U.calling g mk a) (Vm.Alike.refl U.vm) qK, qD, hm1 U g mk a qE⟩, fun U hU hW => ⟨rfl, by rw [hU], by rw [hU]; exact hPc, va_K.moved hW.alike hK, hDc, hm2 s U hW hex⟩⟩ rfl hn hsize rfl (lv_room hrest) hdg hf) hS (fun x _ w => hFc x w) hFc (fun r t H1 locs1 ht hvm _ hB hz hk1 hS1 => ?_)
  obtain ⟨hP1, hK1, hD1⟩ := hB
  rw [ht] at hP1
  have hna : ∀ (k : Nat) (x : Nat × va_E), ws[k]? = some x → ¬ va_A [(q5, (.inr (ci, fs0) : va_E))] H.size x.1 := fun k x hk h => by
    rcases h with ⟨k2, e2, h⟩ | h
    · have h0 : k2 < 1 := (List.getElem?_eq_some_iff.mp h).1
      rw [show k2 = 0 by omega] at h
      have h9 : q5 = x.1 := congrArg Prod.fst (Option.some.inj h)
      have := hD.1 k ws.length x _ (hleft k x hk) hlast h9.symm
      have := (List.getElem?_eq_some_iff.mp hk).1
      omega
    · have := (hP k x (hleft k x hk)).lt
      omega
  refine kk r H1 locs1 (va_P.app (fun k x hk => (hP k x (hleft k x hk)).kept (hk1 x.1 (hP k x (hleft k x hk)).lt (hna k x hk))) hP1) (va_D.app ⟨fun i j p q hi hj h => hD.1 i j p q (hleft i p hi) (hleft j q hj) h, fun k q hk => hD.2 k q (hleft k q hk)⟩ (hD1.weaken (fun _ x _ hx => hFc x.1 hx)) (fun i j x y hi hj h => hna i x hi (by rw [h]; exact hD1.2 j y hj))) hS1
theorem ax_ctorN {own host : String} {Ts : List Cond} {y : MethodName} {bs : ByteArray} {ml ci mc ms fr lo n index q5 nL : Nat} {fs0 As : List Value} {ex : State → Prop} {wn : (Nat → ClassId) → Nat → (Nat → Nat → Nat) → va_W} (hx : p.tables.exec = Jvm.exec) (hb : c.code = cc) (hml : c.maxLocals = nL) (hown : s.vm.findClass own = some m.cls) (hts : ∀ w ∈ Ts, w.before args s = true) (hG : ∀ w ∈ ax_wsA, w ∈ Ts) (hM : ax_CT0 l y bs ml ci fs0 mc ms fr lo ex As wn) (hK : va_K D ax_cl (ax_tys tc) s)
    (hP : va_P D ax_cl (ws ++ [(q5, .inr (ci, fs0))]) H) (hD : va_D A (ws ++ [(q5, .inr (ci, fs0))])) (hS : va_S A s.heap H locs) (hA : ∀ q : Nat, s.heap.size ≤ q → A q) (hm1 : ∀ (U : State) (g : JFrame) (mk : MethodId) (a : Array Value), ex U → ex (U.calling g mk a)) (hm2 : ∀ u U : State, u.WarmedH U.vm → ex u → ex U) (hex : ex s) (w1 : va_Nw (.methodLinkNest own index y host) s) (w2 : .instanceMethod y ∈ ax_wsA) (w3 : .initialized y.cls ∈ ax_wsA) (w4 : .code y bs ml none ∈ ax_wsA) (hy : y.name = "<init>") (hd : y.cls ≠ "java/lang/invoke/MethodHandle" ∧ y.cls ≠ "java/lang/invoke/VarHandle" ∧ (parseMethodDescriptor y.desc).map (fun d => d.parameters.length) = some n) (hR : fr + 1 ≤ R.frames ∧ 8 + (ml + 11) + lo ≤ R.locals)
    (hn : As.length = n) (hsize : ls.size = nL) (hrest : (rest.map fun v => v.category).sum ≤ 8) (hdg : decode cc pc = .ok (.invokespecial index, 3)) (hf : cells + mc ≤ R.cells ∧ slots + ms ≤ R.slots)
    (kk : ∀ (r : Nat → Nat → Nat) (H1 : Heap) (locs1 : List Loc), va_P D ax_cl (ws ++ wn tc q5 r) H1 → va_D A (ws ++ wn tc q5 r) → va_S A s.heap H1 locs1 → W p l e R s m args below meth c H1 locs1 (cells + mc) (slots + ms) Q (F0 m (pc + 3) ls rest)) : W p l e R s m args below meth c H locs cells slots Q (F0 m pc ls (As.reverse ++ Value.ref q5 :: rest)) := by
  have hlast : (ws ++ [(q5, (.inr (ci, fs0) : va_E))])[ws.length]? = some (q5, .inr (ci, fs0)) := by
    rw [List.getElem?_append_right (Nat.le_refl _), Nat.sub_self]; rfl
  have hleft : ∀ (k : Nat) (x : Nat × va_E), ws[k]? = some x → (ws ++ [(q5, (.inr (ci, fs0) : va_E))])[k]? = some x := fun k x hk => by
    rw [List.getElem?_append_left (List.getElem?_eq_some_iff.mp hk).1]; exact hk
  have hPc : va_P D ax_cl [(q5, .inr (ci, fs0))] H := fun k x hk => by
    have h0 : k < 1 := (List.getElem?_eq_some_iff.mp hk).1
    rw [show k = 0 by omega] at hk
    cases hk
    exact hP ws.length _ hlast
  have hDc : va_D (fun _ => True) [(q5, (.inr (ci, fs0) : va_E))] := ⟨fun i j p q hi hj _ => by
    have h1 : i < 1 := (List.getElem?_eq_some_iff.mp hi).1
    have h2 : j < 1 := (List.getElem?_eq_some_iff.mp hj).1
    omega, fun _ _ _ => trivial⟩
  have hFc : ∀ x : Nat, va_A [(q5, .inr (ci, fs0))] H.size x → A x := fun x h => by
    rcases h with ⟨k, e, h⟩ | h
    · have h0 : k < 1 := (List.getElem?_eq_some_iff.mp h).1
      rw [show k = 0 by omega] at h
      cases h
      exact hD.2 ws.length _ hlast
    · exact hA x (Nat.le_trans hS.1 h)
  have hGI : GoodIn Ts (ax_wc y bs ml) := fun w hw => by
    rcases List.mem_cons.mp hw with rfl | hw
    · exact ⟨hG _ w4, (lw_goodW w4).2⟩
    · exact ⟨hG _ hw, (lw_goodW hw).2⟩
  refine va_callv (va_runIN (As := As) (rest := rest) ⟨hx, hb, hml, hown, hts⟩ (hM D tc q5 H.size) ⟨va_cnB n hts hGI rfl rfl rfl w1 (hts _ (hG _ w3)) hd hR, hy, hts _ (hG _ w2)⟩ ⟨fun a U g mk w => by
    obtain ⟨q0, q1, qP, qK, qD, qE⟩ := w
    exact ⟨q0, q1, qP, va_K.moved (u := U) (U := U.calling g mk a) (Vm.Alike.refl U.vm) qK, qD, hm1 U g mk a qE⟩, fun U hU hW => ⟨rfl, by rw [hU], by rw [hU]; exact hPc, va_K.moved hW.alike hK, hDc, hm2 s U hW hex⟩⟩ rfl hn hsize rfl (lv_room hrest) hdg hf) hS (fun x _ w => hFc x w) hFc (fun r t H1 locs1 ht hvm _ hB hz hk1 hS1 => ?_)
  obtain ⟨hP1, hK1, hD1⟩ := hB
  rw [ht] at hP1
  have hna : ∀ (k : Nat) (x : Nat × va_E), ws[k]? = some x → ¬ va_A [(q5, (.inr (ci, fs0) : va_E))] H.size x.1 := fun k x hk h => by
    rcases h with ⟨k2, e2, h⟩ | h
    · have h0 : k2 < 1 := (List.getElem?_eq_some_iff.mp h).1
      rw [show k2 = 0 by omega] at h
      have h9 : q5 = x.1 := congrArg Prod.fst (Option.some.inj h)
      have := hD.1 k ws.length x _ (hleft k x hk) hlast h9.symm
      have := (List.getElem?_eq_some_iff.mp hk).1
      omega
    · have := (hP k x (hleft k x hk)).lt
      omega
  refine kk r H1 locs1 (va_P.app (fun k x hk => (hP k x (hleft k x hk)).kept (hk1 x.1 (hP k x (hleft k x hk)).lt (hna k x hk))) hP1) (va_D.app ⟨fun i j p q hi hj h => hD.1 i j p q (hleft i p hi) (hleft j q hj) h, fun k q hk => hD.2 k q (hleft k q hk)⟩ (hD1.weaken (fun _ x _ hx => hFc x.1 hx)) (fun i j x y hi hj h => hna i x hi (by rw [h]; exact hD1.2 j y hj))) hS1
end CT
def yi_Text : MethodName := ⟨"InnChanged$Text", "<init>", "()V"⟩
abbrev bi_Text : ByteArray := prog_9_method_1_code
abbrev f0_Text : List Value := [.null, .int 0, .null, .null, .int 0, .int 0, .int 0, .int 0, .int 0, .int 0]
theorem di_Text_0 : decode bi_Text 0 = .ok (.aload_n 0, 1) := by decide +kernel
theorem di_Text_1 : decode bi_Text 1 = .ok (.invokespecial 3, 3) := by decide +kernel
theorem di_Text_4 : decode bi_Text 4 = .ok (.aload_n 0, 1) := by decide +kernel
theorem di_Text_5 : decode bi_Text 5 = .ok (.sipush 160, 3) := by decide +kernel
theorem di_Text_8 : decode bi_Text 8 = .ok (.newarray .int, 2) := by decide +kernel
theorem di_Text_10 : decode bi_Text 10 = .ok (.putfield 9, 3) := by decide +kernel
theorem di_Text_13 : decode bi_Text 13 = .ok (.aload_n 0, 1) := by decide +kernel
theorem di_Text_14 : decode bi_Text 14 = .ok (.bipush 14, 2) := by decide +kernel
theorem di_Text_16 : decode bi_Text 16 = .ok (.newarray .int, 2) := by decide +kernel
theorem di_Text_18 : decode bi_Text 18 = .ok (.putfield 15, 3) := by decide +kernel
theorem di_Text_21 : decode bi_Text 21 = .ok (.aload_n 0, 1) := by decide +kernel
theorem di_Text_22 : decode bi_Text 22 = .ok (.bipush 56, 2) := by decide +kernel
theorem di_Text_24 : decode bi_Text 24 = .ok (.newarray .int, 2) := by decide +kernel
theorem di_Text_26 : decode bi_Text 26 = .ok (.putfield 18, 3) := by decide +kernel
theorem di_Text_29 : decode bi_Text 29 = .ok (.return_, 1) := by decide +kernel
abbrev wn_Text (tc : Nat → ClassId) (h0 : Nat) (r : Nat → Nat → Nat) : va_W := (h0, .inr (7, [.ref (r 0 0), .int 0, .ref (r 0 1), .ref (r 0 2), .int 0, .int 0, .int 0, .int 0, .int 0, .int 0])) :: [(r 0 0, .inl (tc 0, 160, .inl (fun _ => 0))), (r 0 1, .inl (tc 0, 14, .inl (fun _ => 0))), (r 0 2, .inl (tc 0, 56, .inl (fun _ => 0)))]
set_option maxHeartbeats 4000000 in
set_option maxRecDepth 100000 in
theorem ct_Text (l : Launch) : ax_CT0 l yi_Text bi_Text 1 7 f0_Text 3 230 1 40 (fun _ => True) [] (wn_Text) := by
  intro D tc h0 sz
  refine Met.ofW (cc := bi_Text) (maxL := 1) (ret := none) (by decide) rfl ?_
  intro p e s m args below meth c s₁ B hml hv
  obtain ⟨rfl, hsz, hP, hK, hD0, hex⟩ := hv
  have hx := B.exec
  have hb := B.bytes
  have hr := B.returns
  have hts : ∀ w ∈ ax_wsA, w.before _ s = true := fun w hw => atoms_spec (ws := ax_wc yi_Text bi_Text 1) B.pre w (List.mem_cons_of_mem _ hw)
  have hown : s.vm.findClass "InnChanged$Text" = some m.cls := findClass_of_methodNamed B.named
  have hin : meth.name = "<init>" := (name_of_methodNamed B.named B.method).1
  subst hsz
  have hD := hD0.self (sz := s.heap.size)
  generalize hAe : va_A [(h0, (.inr (7, f0_Text) : va_E))] s.heap.size = A at hD ⊢
  have hA : ∀ q : Nat, s.heap.size ≤ q → A q := fun q h => by rw [← hAe]; exact Or.inr h
  have hS : va_S A s.heap s.heap [] := va_S.rf
  have hP : va_P D ax_cl ((h0, .inr (7, [.null, .int 0, .null, .null, .int 0, .int 0, .int 0, .int 0, .int 0, .int 0])) :: []) s.heap := hP
  have hD : va_D A ((h0, .inr (7, [.null, .int 0, .null, .null, .int 0, .int 0, .int 0, .int 0, .int 0, .int 0])) :: []) := hD
  have hl := lv_entry ([.ref h0]) (n := 1) (Nat.le_of_ble_eq_true rfl)
  rw [lg_entry_eq]
  generalize (lg_sl ([.ref h0]) ++ List.replicate (1 - (lg_sl ([.ref h0])).length) Slot.unset).toArray = ls at hl ⊢
  have hl : lv_has ls 1 [(0, .ref h0)] := hl
  refine lv_aload_n hx hb di_Text_0 rfl (lv_at hl 0 rfl) ?_
  refine W.objInit hx hb hown (hts _ (ax_inM (i := 108) (w := .methodLink "InnChanged$Text" 3 objectInit) (by decide +kernel))) (hts _ (ax_inM (i := 101) (by decide +kernel))) (hts _ (ax_inM (i := 102) (by decide +kernel))) rfl (by rw [hml]; exact hl.1) rfl di_Text_1 (Nat.le_of_ble_eq_true rfl) (Nat.le_of_ble_eq_true rfl) ?_
  refine W.eq (g2 := F0 m 4 ls []) rfl ?_
  refine lv_aload_n hx hb di_Text_4 rfl (lv_at hl 0 rfl) ?_
  refine lv_sipush (v := 160) hx hb di_Text_5 (by decide) ?_
  refine ax_newI (N' := 160) hx hb hts hK hP hD hS hA (by decide) (by decide) (by decide) (Nat.le_of_ble_eq_true rfl) (Nat.le_of_ble_eq_true rfl) di_Text_8 (fun q1 H hP hD hS => ?_)
  have hP : va_P D ax_cl ((h0, .inr (7, [.null, .int 0, .null, .null, .int 0, .int 0, .int 0, .int 0, .int 0, .int 0])) :: [(q1, .inl (tc 0, 160, .inl (fun _ => 0)))]) H := hP
  have hD : va_D A ((h0, .inr (7, [.null, .int 0, .null, .null, .int 0, .int 0, .int 0, .int 0, .int 0, .int 0])) :: [(q1, .inl (tc 0, 160, .inl (fun _ => 0)))]) := hD
  refine ax_pf (own := "InnChanged$Text") (ci := 7) (k := 0) (ty := .array .int) hx hb hts hown hin hK hP hD hS rfl (by decide) (ax_inM (i := 109) (by decide +kernel)) rfl (by decide +kernel) rfl rfl (Nat.le_of_ble_eq_true rfl) di_Text_10 (fun H locs hP hD hS => ?_)
  have hP : va_P D ax_cl ((h0, .inr (7, [.ref q1, .int 0, .null, .null, .int 0, .int 0, .int 0, .int 0, .int 0, .int 0])) :: [(q1, .inl (tc 0, 160, .inl (fun _ => 0)))]) H := hP
  have hD : va_D A ((h0, .inr (7, [.ref q1, .int 0, .null, .null, .int 0, .int 0, .int 0, .int 0, .int 0, .int 0])) :: [(q1, .inl (tc 0, 160, .inl (fun _ => 0)))]) := hD
  refine lv_aload_n hx hb di_Text_13 rfl (lv_at hl 0 rfl) ?_
  refine lv_bipush (v := 14) hx hb di_Text_14 (by decide) ?_
  refine ax_newI (N' := 14) hx hb hts hK hP hD hS hA (by decide) (by decide) (by decide) (Nat.le_of_ble_eq_true rfl) (Nat.le_of_ble_eq_true rfl) di_Text_16 (fun q2 H hP hD hS => ?_)
  have hP : va_P D ax_cl ((h0, .inr (7, [.ref q1, .int 0, .null, .null, .int 0, .int 0, .int 0, .int 0, .int 0, .int 0])) :: [(q1, .inl (tc 0, 160, .inl (fun _ => 0))), (q2, .inl (tc 0, 14, .inl (fun _ => 0)))]) H := hP
  have hD : va_D A ((h0, .inr (7, [.ref q1, .int 0, .null, .null, .int 0, .int 0, .int 0, .int 0, .int 0, .int 0])) :: [(q1, .inl (tc 0, 160, .inl (fun _ => 0))), (q2, .inl (tc 0, 14, .inl (fun _ => 0)))]) := hD
  refine ax_pf (own := "InnChanged$Text") (ci := 7) (k := 2) (ty := .array .int) hx hb hts hown hin hK hP hD hS rfl (by decide) (ax_inM (i := 112) (by decide +kernel)) rfl (by decide +kernel) rfl rfl (Nat.le_of_ble_eq_true rfl) di_Text_18 (fun H locs hP hD hS => ?_)
  have hP : va_P D ax_cl ((h0, .inr (7, [.ref q1, .int 0, .ref q2, .null, .int 0, .int 0, .int 0, .int 0, .int 0, .int 0])) :: [(q1, .inl (tc 0, 160, .inl (fun _ => 0))), (q2, .inl (tc 0, 14, .inl (fun _ => 0)))]) H := hP
  have hD : va_D A ((h0, .inr (7, [.ref q1, .int 0, .ref q2, .null, .int 0, .int 0, .int 0, .int 0, .int 0, .int 0])) :: [(q1, .inl (tc 0, 160, .inl (fun _ => 0))), (q2, .inl (tc 0, 14, .inl (fun _ => 0)))]) := hD
  refine lv_aload_n hx hb di_Text_21 rfl (lv_at hl 0 rfl) ?_
  refine lv_bipush (v := 56) hx hb di_Text_22 (by decide) ?_
  refine ax_newI (N' := 56) hx hb hts hK hP hD hS hA (by decide) (by decide) (by decide) (Nat.le_of_ble_eq_true rfl) (Nat.le_of_ble_eq_true rfl) di_Text_24 (fun q3 H hP hD hS => ?_)
  have hP : va_P D ax_cl ((h0, .inr (7, [.ref q1, .int 0, .ref q2, .null, .int 0, .int 0, .int 0, .int 0, .int 0, .int 0])) :: [(q1, .inl (tc 0, 160, .inl (fun _ => 0))), (q2, .inl (tc 0, 14, .inl (fun _ => 0))), (q3, .inl (tc 0, 56, .inl (fun _ => 0)))]) H := hP
  have hD : va_D A ((h0, .inr (7, [.ref q1, .int 0, .ref q2, .null, .int 0, .int 0, .int 0, .int 0, .int 0, .int 0])) :: [(q1, .inl (tc 0, 160, .inl (fun _ => 0))), (q2, .inl (tc 0, 14, .inl (fun _ => 0))), (q3, .inl (tc 0, 56, .inl (fun _ => 0)))]) := hD
  refine ax_pf (own := "InnChanged$Text") (ci := 7) (k := 3) (ty := .array .int) hx hb hts hown hin hK hP hD hS rfl (by decide) (ax_inM (i := 114) (by decide +kernel)) rfl (by decide +kernel) rfl rfl (Nat.le_of_ble_eq_true rfl) di_Text_26 (fun H locs hP hD hS => ?_)
  have hP : va_P D ax_cl ((h0, .inr (7, [.ref q1, .int 0, .ref q2, .ref q3, .int 0, .int 0, .int 0, .int 0, .int 0, .int 0])) :: [(q1, .inl (tc 0, 160, .inl (fun _ => 0))), (q2, .inl (tc 0, 14, .inl (fun _ => 0))), (q3, .inl (tc 0, 56, .inl (fun _ => 0)))]) H := hP
  have hD : va_D A ((h0, .inr (7, [.ref q1, .int 0, .ref q2, .ref q3, .int 0, .int 0, .int 0, .int 0, .int 0, .int 0])) :: [(q1, .inl (tc 0, 160, .inl (fun _ => 0))), (q2, .inl (tc 0, 14, .inl (fun _ => 0))), (q3, .inl (tc 0, 56, .inl (fun _ => 0)))]) := hD
  refine W.widen (k := 3) (n := 230) (Nat.le_of_ble_eq_true rfl) (Nat.le_of_ble_eq_true rfl) ?_
  exact W.vret hx hb hr (fun t ht hW => ⟨⟨(fun _ k => [q1, q2, q3].getD k 0), rfl, trivial, by rw [ht]; exact hP, va_K.moved hW.alike hK, hD⟩, hS.F ht⟩) hS.2.2 di_Text_29
def yi_Told : MethodName := ⟨"InnChanged$Told", "<init>", "()V"⟩
abbrev bi_Told : ByteArray := prog_10_method_1_code
abbrev f0_Told : List Value := [.int 0, .int 0, .int 0, .null, .null, .null, .null, .null, .null, .null]
theorem di_Told_0 : decode bi_Told 0 = .ok (.aload_n 0, 1) := by decide +kernel
theorem di_Told_1 : decode bi_Told 1 = .ok (.invokespecial 3, 3) := by decide +kernel
theorem di_Told_4 : decode bi_Told 4 = .ok (.aload_n 0, 1) := by decide +kernel
theorem di_Told_5 : decode bi_Told 5 = .ok (.iconst (5), 1) := by decide +kernel
theorem di_Told_6 : decode bi_Told 6 = .ok (.newarray .int, 2) := by decide +kernel
theorem di_Told_8 : decode bi_Told 8 = .ok (.putfield 9, 3) := by decide +kernel
theorem di_Told_11 : decode bi_Told 11 = .ok (.aload_n 0, 1) := by decide +kernel
theorem di_Told_12 : decode bi_Told 12 = .ok (.bipush 6, 2) := by decide +kernel
theorem di_Told_14 : decode bi_Told 14 = .ok (.newarray .int, 2) := by decide +kernel
theorem di_Told_16 : decode bi_Told 16 = .ok (.putfield 15, 3) := by decide +kernel
theorem di_Told_19 : decode bi_Told 19 = .ok (.aload_n 0, 1) := by decide +kernel
theorem di_Told_20 : decode bi_Told 20 = .ok (.bipush 6, 2) := by decide +kernel
theorem di_Told_22 : decode bi_Told 22 = .ok (.newarray .int, 2) := by decide +kernel
theorem di_Told_24 : decode bi_Told 24 = .ok (.putfield 18, 3) := by decide +kernel
theorem di_Told_27 : decode bi_Told 27 = .ok (.aload_n 0, 1) := by decide +kernel
theorem di_Told_28 : decode bi_Told 28 = .ok (.bipush 6, 2) := by decide +kernel
theorem di_Told_30 : decode bi_Told 30 = .ok (.newarray .int, 2) := by decide +kernel
theorem di_Told_32 : decode bi_Told 32 = .ok (.putfield 21, 3) := by decide +kernel
theorem di_Told_35 : decode bi_Told 35 = .ok (.aload_n 0, 1) := by decide +kernel
theorem di_Told_36 : decode bi_Told 36 = .ok (.bipush 6, 2) := by decide +kernel
theorem di_Told_38 : decode bi_Told 38 = .ok (.newarray .int, 2) := by decide +kernel
theorem di_Told_40 : decode bi_Told 40 = .ok (.putfield 24, 3) := by decide +kernel
theorem di_Told_43 : decode bi_Told 43 = .ok (.aload_n 0, 1) := by decide +kernel
theorem di_Told_44 : decode bi_Told 44 = .ok (.bipush 6, 2) := by decide +kernel
theorem di_Told_46 : decode bi_Told 46 = .ok (.newarray .int, 2) := by decide +kernel
theorem di_Told_48 : decode bi_Told 48 = .ok (.putfield 27, 3) := by decide +kernel
theorem di_Told_51 : decode bi_Told 51 = .ok (.aload_n 0, 1) := by decide +kernel
theorem di_Told_52 : decode bi_Told 52 = .ok (.bipush 6, 2) := by decide +kernel
theorem di_Told_54 : decode bi_Told 54 = .ok (.newarray .int, 2) := by decide +kernel
theorem di_Told_56 : decode bi_Told 56 = .ok (.putfield 30, 3) := by decide +kernel
theorem di_Told_59 : decode bi_Told 59 = .ok (.return_, 1) := by decide +kernel
abbrev wn_Told (tc : Nat → ClassId) (h0 : Nat) (r : Nat → Nat → Nat) : va_W := (h0, .inr (8, [.int 0, .int 0, .int 0, .ref (r 0 0), .ref (r 0 1), .ref (r 0 2), .ref (r 0 3), .ref (r 0 4), .ref (r 0 5), .ref (r 0 6)])) :: [(r 0 0, .inl (tc 0, 5, .inl (fun _ => 0))), (r 0 1, .inl (tc 0, 6, .inl (fun _ => 0))), (r 0 2, .inl (tc 0, 6, .inl (fun _ => 0))), (r 0 3, .inl (tc 0, 6, .inl (fun _ => 0))), (r 0 4, .inl (tc 0, 6, .inl (fun _ => 0))), (r 0 5, .inl (tc 0, 6, .inl (fun _ => 0))), (r 0 6, .inl (tc 0, 6, .inl (fun _ => 0)))]
set_option maxHeartbeats 4000000 in
set_option maxRecDepth 100000 in
theorem ct_Told (l : Launch) : ax_CT0 l yi_Told bi_Told 1 8 f0_Told 7 41 1 40 (fun _ => True) [] (wn_Told) := by
  intro D tc h0 sz
  refine Met.ofW (cc := bi_Told) (maxL := 1) (ret := none) (by decide) rfl ?_
  intro p e s m args below meth c s₁ B hml hv
  obtain ⟨rfl, hsz, hP, hK, hD0, hex⟩ := hv
  have hx := B.exec
  have hb := B.bytes
  have hr := B.returns
  have hts : ∀ w ∈ ax_wsA, w.before _ s = true := fun w hw => atoms_spec (ws := ax_wc yi_Told bi_Told 1) B.pre w (List.mem_cons_of_mem _ hw)
  have hown : s.vm.findClass "InnChanged$Told" = some m.cls := findClass_of_methodNamed B.named
  have hin : meth.name = "<init>" := (name_of_methodNamed B.named B.method).1
  subst hsz
  have hD := hD0.self (sz := s.heap.size)
  generalize hAe : va_A [(h0, (.inr (8, f0_Told) : va_E))] s.heap.size = A at hD ⊢
  have hA : ∀ q : Nat, s.heap.size ≤ q → A q := fun q h => by rw [← hAe]; exact Or.inr h
  have hS : va_S A s.heap s.heap [] := va_S.rf
  have hP : va_P D ax_cl ((h0, .inr (8, [.int 0, .int 0, .int 0, .null, .null, .null, .null, .null, .null, .null])) :: []) s.heap := hP
  have hD : va_D A ((h0, .inr (8, [.int 0, .int 0, .int 0, .null, .null, .null, .null, .null, .null, .null])) :: []) := hD
  have hl := lv_entry ([.ref h0]) (n := 1) (Nat.le_of_ble_eq_true rfl)
  rw [lg_entry_eq]
  generalize (lg_sl ([.ref h0]) ++ List.replicate (1 - (lg_sl ([.ref h0])).length) Slot.unset).toArray = ls at hl ⊢
  have hl : lv_has ls 1 [(0, .ref h0)] := hl
  refine lv_aload_n hx hb di_Told_0 rfl (lv_at hl 0 rfl) ?_
  refine W.objInit hx hb hown (hts _ (ax_inM (i := 149) (w := .methodLink "InnChanged$Told" 3 objectInit) (by decide +kernel))) (hts _ (ax_inM (i := 101) (by decide +kernel))) (hts _ (ax_inM (i := 102) (by decide +kernel))) rfl (by rw [hml]; exact hl.1) rfl di_Told_1 (Nat.le_of_ble_eq_true rfl) (Nat.le_of_ble_eq_true rfl) ?_
  refine W.eq (g2 := F0 m 4 ls []) rfl ?_
  refine lv_aload_n hx hb di_Told_4 rfl (lv_at hl 0 rfl) ?_
  refine lv_iconst (v := 5) hx hb di_Told_5 (by decide) ?_
  refine ax_newI (N' := 5) hx hb hts hK hP hD hS hA (by decide) (by decide) (by decide) (Nat.le_of_ble_eq_true rfl) (Nat.le_of_ble_eq_true rfl) di_Told_6 (fun q1 H hP hD hS => ?_)
  have hP : va_P D ax_cl ((h0, .inr (8, [.int 0, .int 0, .int 0, .null, .null, .null, .null, .null, .null, .null])) :: [(q1, .inl (tc 0, 5, .inl (fun _ => 0)))]) H := hP
  have hD : va_D A ((h0, .inr (8, [.int 0, .int 0, .int 0, .null, .null, .null, .null, .null, .null, .null])) :: [(q1, .inl (tc 0, 5, .inl (fun _ => 0)))]) := hD
  refine ax_pf (own := "InnChanged$Told") (ci := 8) (k := 3) (ty := .array .int) hx hb hts hown hin hK hP hD hS rfl (by decide) (ax_inM (i := 163) (by decide +kernel)) rfl (by decide +kernel) rfl rfl (Nat.le_of_ble_eq_true rfl) di_Told_8 (fun H locs hP hD hS => ?_)
  have hP : va_P D ax_cl ((h0, .inr (8, [.int 0, .int 0, .int 0, .ref q1, .null, .null, .null, .null, .null, .null])) :: [(q1, .inl (tc 0, 5, .inl (fun _ => 0)))]) H := hP
  have hD : va_D A ((h0, .inr (8, [.int 0, .int 0, .int 0, .ref q1, .null, .null, .null, .null, .null, .null])) :: [(q1, .inl (tc 0, 5, .inl (fun _ => 0)))]) := hD
  refine lv_aload_n hx hb di_Told_11 rfl (lv_at hl 0 rfl) ?_
  refine lv_bipush (v := 6) hx hb di_Told_12 (by decide) ?_
  refine ax_newI (N' := 6) hx hb hts hK hP hD hS hA (by decide) (by decide) (by decide) (Nat.le_of_ble_eq_true rfl) (Nat.le_of_ble_eq_true rfl) di_Told_14 (fun q2 H hP hD hS => ?_)
  have hP : va_P D ax_cl ((h0, .inr (8, [.int 0, .int 0, .int 0, .ref q1, .null, .null, .null, .null, .null, .null])) :: [(q1, .inl (tc 0, 5, .inl (fun _ => 0))), (q2, .inl (tc 0, 6, .inl (fun _ => 0)))]) H := hP
  have hD : va_D A ((h0, .inr (8, [.int 0, .int 0, .int 0, .ref q1, .null, .null, .null, .null, .null, .null])) :: [(q1, .inl (tc 0, 5, .inl (fun _ => 0))), (q2, .inl (tc 0, 6, .inl (fun _ => 0)))]) := hD
  refine ax_pf (own := "InnChanged$Told") (ci := 8) (k := 4) (ty := .array .int) hx hb hts hown hin hK hP hD hS rfl (by decide) (ax_inM (i := 165) (by decide +kernel)) rfl (by decide +kernel) rfl rfl (Nat.le_of_ble_eq_true rfl) di_Told_16 (fun H locs hP hD hS => ?_)
  have hP : va_P D ax_cl ((h0, .inr (8, [.int 0, .int 0, .int 0, .ref q1, .ref q2, .null, .null, .null, .null, .null])) :: [(q1, .inl (tc 0, 5, .inl (fun _ => 0))), (q2, .inl (tc 0, 6, .inl (fun _ => 0)))]) H := hP
  have hD : va_D A ((h0, .inr (8, [.int 0, .int 0, .int 0, .ref q1, .ref q2, .null, .null, .null, .null, .null])) :: [(q1, .inl (tc 0, 5, .inl (fun _ => 0))), (q2, .inl (tc 0, 6, .inl (fun _ => 0)))]) := hD
  refine lv_aload_n hx hb di_Told_19 rfl (lv_at hl 0 rfl) ?_
  refine lv_bipush (v := 6) hx hb di_Told_20 (by decide) ?_
  refine ax_newI (N' := 6) hx hb hts hK hP hD hS hA (by decide) (by decide) (by decide) (Nat.le_of_ble_eq_true rfl) (Nat.le_of_ble_eq_true rfl) di_Told_22 (fun q3 H hP hD hS => ?_)
  have hP : va_P D ax_cl ((h0, .inr (8, [.int 0, .int 0, .int 0, .ref q1, .ref q2, .null, .null, .null, .null, .null])) :: [(q1, .inl (tc 0, 5, .inl (fun _ => 0))), (q2, .inl (tc 0, 6, .inl (fun _ => 0))), (q3, .inl (tc 0, 6, .inl (fun _ => 0)))]) H := hP
  have hD : va_D A ((h0, .inr (8, [.int 0, .int 0, .int 0, .ref q1, .ref q2, .null, .null, .null, .null, .null])) :: [(q1, .inl (tc 0, 5, .inl (fun _ => 0))), (q2, .inl (tc 0, 6, .inl (fun _ => 0))), (q3, .inl (tc 0, 6, .inl (fun _ => 0)))]) := hD
  refine ax_pf (own := "InnChanged$Told") (ci := 8) (k := 5) (ty := .array .int) hx hb hts hown hin hK hP hD hS rfl (by decide) (ax_inM (i := 168) (by decide +kernel)) rfl (by decide +kernel) rfl rfl (Nat.le_of_ble_eq_true rfl) di_Told_24 (fun H locs hP hD hS => ?_)
  have hP : va_P D ax_cl ((h0, .inr (8, [.int 0, .int 0, .int 0, .ref q1, .ref q2, .ref q3, .null, .null, .null, .null])) :: [(q1, .inl (tc 0, 5, .inl (fun _ => 0))), (q2, .inl (tc 0, 6, .inl (fun _ => 0))), (q3, .inl (tc 0, 6, .inl (fun _ => 0)))]) H := hP
  have hD : va_D A ((h0, .inr (8, [.int 0, .int 0, .int 0, .ref q1, .ref q2, .ref q3, .null, .null, .null, .null])) :: [(q1, .inl (tc 0, 5, .inl (fun _ => 0))), (q2, .inl (tc 0, 6, .inl (fun _ => 0))), (q3, .inl (tc 0, 6, .inl (fun _ => 0)))]) := hD
  refine lv_aload_n hx hb di_Told_27 rfl (lv_at hl 0 rfl) ?_
  refine lv_bipush (v := 6) hx hb di_Told_28 (by decide) ?_
  refine ax_newI (N' := 6) hx hb hts hK hP hD hS hA (by decide) (by decide) (by decide) (Nat.le_of_ble_eq_true rfl) (Nat.le_of_ble_eq_true rfl) di_Told_30 (fun q4 H hP hD hS => ?_)
  have hP : va_P D ax_cl ((h0, .inr (8, [.int 0, .int 0, .int 0, .ref q1, .ref q2, .ref q3, .null, .null, .null, .null])) :: [(q1, .inl (tc 0, 5, .inl (fun _ => 0))), (q2, .inl (tc 0, 6, .inl (fun _ => 0))), (q3, .inl (tc 0, 6, .inl (fun _ => 0))), (q4, .inl (tc 0, 6, .inl (fun _ => 0)))]) H := hP
  have hD : va_D A ((h0, .inr (8, [.int 0, .int 0, .int 0, .ref q1, .ref q2, .ref q3, .null, .null, .null, .null])) :: [(q1, .inl (tc 0, 5, .inl (fun _ => 0))), (q2, .inl (tc 0, 6, .inl (fun _ => 0))), (q3, .inl (tc 0, 6, .inl (fun _ => 0))), (q4, .inl (tc 0, 6, .inl (fun _ => 0)))]) := hD
  refine ax_pf (own := "InnChanged$Told") (ci := 8) (k := 6) (ty := .array .int) hx hb hts hown hin hK hP hD hS rfl (by decide) (ax_inM (i := 172) (by decide +kernel)) rfl (by decide +kernel) rfl rfl (Nat.le_of_ble_eq_true rfl) di_Told_32 (fun H locs hP hD hS => ?_)
  have hP : va_P D ax_cl ((h0, .inr (8, [.int 0, .int 0, .int 0, .ref q1, .ref q2, .ref q3, .ref q4, .null, .null, .null])) :: [(q1, .inl (tc 0, 5, .inl (fun _ => 0))), (q2, .inl (tc 0, 6, .inl (fun _ => 0))), (q3, .inl (tc 0, 6, .inl (fun _ => 0))), (q4, .inl (tc 0, 6, .inl (fun _ => 0)))]) H := hP
  have hD : va_D A ((h0, .inr (8, [.int 0, .int 0, .int 0, .ref q1, .ref q2, .ref q3, .ref q4, .null, .null, .null])) :: [(q1, .inl (tc 0, 5, .inl (fun _ => 0))), (q2, .inl (tc 0, 6, .inl (fun _ => 0))), (q3, .inl (tc 0, 6, .inl (fun _ => 0))), (q4, .inl (tc 0, 6, .inl (fun _ => 0)))]) := hD
  refine lv_aload_n hx hb di_Told_35 rfl (lv_at hl 0 rfl) ?_
  refine lv_bipush (v := 6) hx hb di_Told_36 (by decide) ?_
  refine ax_newI (N' := 6) hx hb hts hK hP hD hS hA (by decide) (by decide) (by decide) (Nat.le_of_ble_eq_true rfl) (Nat.le_of_ble_eq_true rfl) di_Told_38 (fun q5 H hP hD hS => ?_)
  have hP : va_P D ax_cl ((h0, .inr (8, [.int 0, .int 0, .int 0, .ref q1, .ref q2, .ref q3, .ref q4, .null, .null, .null])) :: [(q1, .inl (tc 0, 5, .inl (fun _ => 0))), (q2, .inl (tc 0, 6, .inl (fun _ => 0))), (q3, .inl (tc 0, 6, .inl (fun _ => 0))), (q4, .inl (tc 0, 6, .inl (fun _ => 0))), (q5, .inl (tc 0, 6, .inl (fun _ => 0)))]) H := hP
  have hD : va_D A ((h0, .inr (8, [.int 0, .int 0, .int 0, .ref q1, .ref q2, .ref q3, .ref q4, .null, .null, .null])) :: [(q1, .inl (tc 0, 5, .inl (fun _ => 0))), (q2, .inl (tc 0, 6, .inl (fun _ => 0))), (q3, .inl (tc 0, 6, .inl (fun _ => 0))), (q4, .inl (tc 0, 6, .inl (fun _ => 0))), (q5, .inl (tc 0, 6, .inl (fun _ => 0)))]) := hD
  refine ax_pf (own := "InnChanged$Told") (ci := 8) (k := 7) (ty := .array .int) hx hb hts hown hin hK hP hD hS rfl (by decide) (ax_inM (i := 175) (by decide +kernel)) rfl (by decide +kernel) rfl rfl (Nat.le_of_ble_eq_true rfl) di_Told_40 (fun H locs hP hD hS => ?_)
  have hP : va_P D ax_cl ((h0, .inr (8, [.int 0, .int 0, .int 0, .ref q1, .ref q2, .ref q3, .ref q4, .ref q5, .null, .null])) :: [(q1, .inl (tc 0, 5, .inl (fun _ => 0))), (q2, .inl (tc 0, 6, .inl (fun _ => 0))), (q3, .inl (tc 0, 6, .inl (fun _ => 0))), (q4, .inl (tc 0, 6, .inl (fun _ => 0))), (q5, .inl (tc 0, 6, .inl (fun _ => 0)))]) H := hP
  have hD : va_D A ((h0, .inr (8, [.int 0, .int 0, .int 0, .ref q1, .ref q2, .ref q3, .ref q4, .ref q5, .null, .null])) :: [(q1, .inl (tc 0, 5, .inl (fun _ => 0))), (q2, .inl (tc 0, 6, .inl (fun _ => 0))), (q3, .inl (tc 0, 6, .inl (fun _ => 0))), (q4, .inl (tc 0, 6, .inl (fun _ => 0))), (q5, .inl (tc 0, 6, .inl (fun _ => 0)))]) := hD
  refine lv_aload_n hx hb di_Told_43 rfl (lv_at hl 0 rfl) ?_
  refine lv_bipush (v := 6) hx hb di_Told_44 (by decide) ?_
  refine ax_newI (N' := 6) hx hb hts hK hP hD hS hA (by decide) (by decide) (by decide) (Nat.le_of_ble_eq_true rfl) (Nat.le_of_ble_eq_true rfl) di_Told_46 (fun q6 H hP hD hS => ?_)
  have hP : va_P D ax_cl ((h0, .inr (8, [.int 0, .int 0, .int 0, .ref q1, .ref q2, .ref q3, .ref q4, .ref q5, .null, .null])) :: [(q1, .inl (tc 0, 5, .inl (fun _ => 0))), (q2, .inl (tc 0, 6, .inl (fun _ => 0))), (q3, .inl (tc 0, 6, .inl (fun _ => 0))), (q4, .inl (tc 0, 6, .inl (fun _ => 0))), (q5, .inl (tc 0, 6, .inl (fun _ => 0))), (q6, .inl (tc 0, 6, .inl (fun _ => 0)))]) H := hP
  have hD : va_D A ((h0, .inr (8, [.int 0, .int 0, .int 0, .ref q1, .ref q2, .ref q3, .ref q4, .ref q5, .null, .null])) :: [(q1, .inl (tc 0, 5, .inl (fun _ => 0))), (q2, .inl (tc 0, 6, .inl (fun _ => 0))), (q3, .inl (tc 0, 6, .inl (fun _ => 0))), (q4, .inl (tc 0, 6, .inl (fun _ => 0))), (q5, .inl (tc 0, 6, .inl (fun _ => 0))), (q6, .inl (tc 0, 6, .inl (fun _ => 0)))]) := hD
  refine ax_pf (own := "InnChanged$Told") (ci := 8) (k := 8) (ty := .array .int) hx hb hts hown hin hK hP hD hS rfl (by decide) (ax_inM (i := 177) (by decide +kernel)) rfl (by decide +kernel) rfl rfl (Nat.le_of_ble_eq_true rfl) di_Told_48 (fun H locs hP hD hS => ?_)
  have hP : va_P D ax_cl ((h0, .inr (8, [.int 0, .int 0, .int 0, .ref q1, .ref q2, .ref q3, .ref q4, .ref q5, .ref q6, .null])) :: [(q1, .inl (tc 0, 5, .inl (fun _ => 0))), (q2, .inl (tc 0, 6, .inl (fun _ => 0))), (q3, .inl (tc 0, 6, .inl (fun _ => 0))), (q4, .inl (tc 0, 6, .inl (fun _ => 0))), (q5, .inl (tc 0, 6, .inl (fun _ => 0))), (q6, .inl (tc 0, 6, .inl (fun _ => 0)))]) H := hP
  have hD : va_D A ((h0, .inr (8, [.int 0, .int 0, .int 0, .ref q1, .ref q2, .ref q3, .ref q4, .ref q5, .ref q6, .null])) :: [(q1, .inl (tc 0, 5, .inl (fun _ => 0))), (q2, .inl (tc 0, 6, .inl (fun _ => 0))), (q3, .inl (tc 0, 6, .inl (fun _ => 0))), (q4, .inl (tc 0, 6, .inl (fun _ => 0))), (q5, .inl (tc 0, 6, .inl (fun _ => 0))), (q6, .inl (tc 0, 6, .inl (fun _ => 0)))]) := hD
  refine lv_aload_n hx hb di_Told_51 rfl (lv_at hl 0 rfl) ?_
  refine lv_bipush (v := 6) hx hb di_Told_52 (by decide) ?_
  refine ax_newI (N' := 6) hx hb hts hK hP hD hS hA (by decide) (by decide) (by decide) (Nat.le_of_ble_eq_true rfl) (Nat.le_of_ble_eq_true rfl) di_Told_54 (fun q7 H hP hD hS => ?_)
  have hP : va_P D ax_cl ((h0, .inr (8, [.int 0, .int 0, .int 0, .ref q1, .ref q2, .ref q3, .ref q4, .ref q5, .ref q6, .null])) :: [(q1, .inl (tc 0, 5, .inl (fun _ => 0))), (q2, .inl (tc 0, 6, .inl (fun _ => 0))), (q3, .inl (tc 0, 6, .inl (fun _ => 0))), (q4, .inl (tc 0, 6, .inl (fun _ => 0))), (q5, .inl (tc 0, 6, .inl (fun _ => 0))), (q6, .inl (tc 0, 6, .inl (fun _ => 0))), (q7, .inl (tc 0, 6, .inl (fun _ => 0)))]) H := hP
  have hD : va_D A ((h0, .inr (8, [.int 0, .int 0, .int 0, .ref q1, .ref q2, .ref q3, .ref q4, .ref q5, .ref q6, .null])) :: [(q1, .inl (tc 0, 5, .inl (fun _ => 0))), (q2, .inl (tc 0, 6, .inl (fun _ => 0))), (q3, .inl (tc 0, 6, .inl (fun _ => 0))), (q4, .inl (tc 0, 6, .inl (fun _ => 0))), (q5, .inl (tc 0, 6, .inl (fun _ => 0))), (q6, .inl (tc 0, 6, .inl (fun _ => 0))), (q7, .inl (tc 0, 6, .inl (fun _ => 0)))]) := hD
  refine ax_pf (own := "InnChanged$Told") (ci := 8) (k := 9) (ty := .array .int) hx hb hts hown hin hK hP hD hS rfl (by decide) (ax_inM (i := 180) (by decide +kernel)) rfl (by decide +kernel) rfl rfl (Nat.le_of_ble_eq_true rfl) di_Told_56 (fun H locs hP hD hS => ?_)
  have hP : va_P D ax_cl ((h0, .inr (8, [.int 0, .int 0, .int 0, .ref q1, .ref q2, .ref q3, .ref q4, .ref q5, .ref q6, .ref q7])) :: [(q1, .inl (tc 0, 5, .inl (fun _ => 0))), (q2, .inl (tc 0, 6, .inl (fun _ => 0))), (q3, .inl (tc 0, 6, .inl (fun _ => 0))), (q4, .inl (tc 0, 6, .inl (fun _ => 0))), (q5, .inl (tc 0, 6, .inl (fun _ => 0))), (q6, .inl (tc 0, 6, .inl (fun _ => 0))), (q7, .inl (tc 0, 6, .inl (fun _ => 0)))]) H := hP
  have hD : va_D A ((h0, .inr (8, [.int 0, .int 0, .int 0, .ref q1, .ref q2, .ref q3, .ref q4, .ref q5, .ref q6, .ref q7])) :: [(q1, .inl (tc 0, 5, .inl (fun _ => 0))), (q2, .inl (tc 0, 6, .inl (fun _ => 0))), (q3, .inl (tc 0, 6, .inl (fun _ => 0))), (q4, .inl (tc 0, 6, .inl (fun _ => 0))), (q5, .inl (tc 0, 6, .inl (fun _ => 0))), (q6, .inl (tc 0, 6, .inl (fun _ => 0))), (q7, .inl (tc 0, 6, .inl (fun _ => 0)))]) := hD
  refine W.widen (k := 7) (n := 41) (Nat.le_of_ble_eq_true rfl) (Nat.le_of_ble_eq_true rfl) ?_
  exact W.vret hx hb hr (fun t ht hW => ⟨⟨(fun _ k => [q1, q2, q3, q4, q5, q6, q7].getD k 0), rfl, trivial, by rw [ht]; exact hP, va_K.moved hW.alike hK, hD⟩, hS.F ht⟩) hS.2.2 di_Told_59
def yi_Now : MethodName := ⟨"InnChanged$Now", "<init>", "(LInnChanged$Told;)V"⟩
abbrev bi_Now : ByteArray := prog_6_method_1_code
abbrev f0_Now : List Value := [.null, .int 0, .int 0, .int 0, .null, .null, .null, .null]
theorem di_Now_0 : decode bi_Now 0 = .ok (.aload_n 0, 1) := by decide +kernel
theorem di_Now_1 : decode bi_Now 1 = .ok (.invokespecial 3, 3) := by decide +kernel
theorem di_Now_4 : decode bi_Now 4 = .ok (.aload_n 0, 1) := by decide +kernel
theorem di_Now_5 : decode bi_Now 5 = .ok (.bipush 6, 2) := by decide +kernel
theorem di_Now_7 : decode bi_Now 7 = .ok (.newarray .int, 2) := by decide +kernel
theorem di_Now_9 : decode bi_Now 9 = .ok (.putfield 9, 3) := by decide +kernel
theorem di_Now_12 : decode bi_Now 12 = .ok (.aload_n 0, 1) := by decide +kernel
theorem di_Now_13 : decode bi_Now 13 = .ok (.bipush 6, 2) := by decide +kernel
theorem di_Now_15 : decode bi_Now 15 = .ok (.newarray .int, 2) := by decide +kernel
theorem di_Now_17 : decode bi_Now 17 = .ok (.putfield 15, 3) := by decide +kernel
theorem di_Now_20 : decode bi_Now 20 = .ok (.aload_n 0, 1) := by decide +kernel
theorem di_Now_21 : decode bi_Now 21 = .ok (.bipush 6, 2) := by decide +kernel
theorem di_Now_23 : decode bi_Now 23 = .ok (.newarray .int, 2) := by decide +kernel
theorem di_Now_25 : decode bi_Now 25 = .ok (.putfield 18, 3) := by decide +kernel
theorem di_Now_28 : decode bi_Now 28 = .ok (.aload_n 0, 1) := by decide +kernel
theorem di_Now_29 : decode bi_Now 29 = .ok (.bipush 6, 2) := by decide +kernel
theorem di_Now_31 : decode bi_Now 31 = .ok (.newarray .int, 2) := by decide +kernel
theorem di_Now_33 : decode bi_Now 33 = .ok (.putfield 21, 3) := by decide +kernel
theorem di_Now_36 : decode bi_Now 36 = .ok (.aload_n 0, 1) := by decide +kernel
theorem di_Now_37 : decode bi_Now 37 = .ok (.aload_n 1, 1) := by decide +kernel
theorem di_Now_38 : decode bi_Now 38 = .ok (.putfield 24, 3) := by decide +kernel
theorem di_Now_41 : decode bi_Now 41 = .ok (.return_, 1) := by decide +kernel
abbrev wn_Now (a1 : Nat) (tc : Nat → ClassId) (h0 : Nat) (r : Nat → Nat → Nat) : va_W := (h0, .inr (4, [.ref a1, .int 0, .int 0, .int 0, .ref (r 0 0), .ref (r 0 1), .ref (r 0 2), .ref (r 0 3)])) :: [(r 0 0, .inl (tc 0, 6, .inl (fun _ => 0))), (r 0 1, .inl (tc 0, 6, .inl (fun _ => 0))), (r 0 2, .inl (tc 0, 6, .inl (fun _ => 0))), (r 0 3, .inl (tc 0, 6, .inl (fun _ => 0)))]
set_option maxHeartbeats 4000000 in
set_option maxRecDepth 100000 in
theorem ct_Now (l : Launch) (a1 : Nat) : ax_CT0 l yi_Now bi_Now 2 4 f0_Now 4 24 1 40 (fun _ => True) [.ref a1] (wn_Now a1) := by
  intro D tc h0 sz
  refine Met.ofW (cc := bi_Now) (maxL := 2) (ret := none) (by decide) rfl ?_
  intro p e s m args below meth c s₁ B hml hv
  obtain ⟨rfl, hsz, hP, hK, hD0, hex⟩ := hv
  have hx := B.exec
  have hb := B.bytes
  have hr := B.returns
  have hts : ∀ w ∈ ax_wsA, w.before _ s = true := fun w hw => atoms_spec (ws := ax_wc yi_Now bi_Now 2) B.pre w (List.mem_cons_of_mem _ hw)
  have hown : s.vm.findClass "InnChanged$Now" = some m.cls := findClass_of_methodNamed B.named
  have hin : meth.name = "<init>" := (name_of_methodNamed B.named B.method).1
  subst hsz
  have hD := hD0.self (sz := s.heap.size)
  generalize hAe : va_A [(h0, (.inr (4, f0_Now) : va_E))] s.heap.size = A at hD ⊢
  have hA : ∀ q : Nat, s.heap.size ≤ q → A q := fun q h => by rw [← hAe]; exact Or.inr h
  have hS : va_S A s.heap s.heap [] := va_S.rf
  have hP : va_P D ax_cl ((h0, .inr (4, [.null, .int 0, .int 0, .int 0, .null, .null, .null, .null])) :: []) s.heap := hP
  have hD : va_D A ((h0, .inr (4, [.null, .int 0, .int 0, .int 0, .null, .null, .null, .null])) :: []) := hD
  have hl := lv_entry ([.ref h0, .ref a1]) (n := 2) (Nat.le_of_ble_eq_true rfl)
  rw [lg_entry_eq]
  generalize (lg_sl ([.ref h0, .ref a1]) ++ List.replicate (2 - (lg_sl ([.ref h0, .ref a1])).length) Slot.unset).toArray = ls at hl ⊢
  have hl : lv_has ls 2 [(0, .ref h0), (1, .ref a1)] := hl
  refine lv_aload_n hx hb di_Now_0 rfl (lv_at hl 0 rfl) ?_
  refine W.objInit hx hb hown (hts _ (ax_inM (i := 207) (w := .methodLink "InnChanged$Now" 3 objectInit) (by decide +kernel))) (hts _ (ax_inM (i := 101) (by decide +kernel))) (hts _ (ax_inM (i := 102) (by decide +kernel))) rfl (by rw [hml]; exact hl.1) rfl di_Now_1 (Nat.le_of_ble_eq_true rfl) (Nat.le_of_ble_eq_true rfl) ?_
  refine W.eq (g2 := F0 m 4 ls []) rfl ?_
  refine lv_aload_n hx hb di_Now_4 rfl (lv_at hl 0 rfl) ?_
  refine lv_bipush (v := 6) hx hb di_Now_5 (by decide) ?_
  refine ax_newI (N' := 6) hx hb hts hK hP hD hS hA (by decide) (by decide) (by decide) (Nat.le_of_ble_eq_true rfl) (Nat.le_of_ble_eq_true rfl) di_Now_7 (fun q1 H hP hD hS => ?_)
  have hP : va_P D ax_cl ((h0, .inr (4, [.null, .int 0, .int 0, .int 0, .null, .null, .null, .null])) :: [(q1, .inl (tc 0, 6, .inl (fun _ => 0)))]) H := hP
  have hD : va_D A ((h0, .inr (4, [.null, .int 0, .int 0, .int 0, .null, .null, .null, .null])) :: [(q1, .inl (tc 0, 6, .inl (fun _ => 0)))]) := hD
  refine ax_pf (own := "InnChanged$Now") (ci := 4) (k := 4) (ty := .array .int) hx hb hts hown hin hK hP hD hS rfl (by decide) (ax_inM (i := 217) (by decide +kernel)) rfl (by decide +kernel) rfl rfl (Nat.le_of_ble_eq_true rfl) di_Now_9 (fun H locs hP hD hS => ?_)
  have hP : va_P D ax_cl ((h0, .inr (4, [.null, .int 0, .int 0, .int 0, .ref q1, .null, .null, .null])) :: [(q1, .inl (tc 0, 6, .inl (fun _ => 0)))]) H := hP
  have hD : va_D A ((h0, .inr (4, [.null, .int 0, .int 0, .int 0, .ref q1, .null, .null, .null])) :: [(q1, .inl (tc 0, 6, .inl (fun _ => 0)))]) := hD
  refine lv_aload_n hx hb di_Now_12 rfl (lv_at hl 0 rfl) ?_
  refine lv_bipush (v := 6) hx hb di_Now_13 (by decide) ?_
  refine ax_newI (N' := 6) hx hb hts hK hP hD hS hA (by decide) (by decide) (by decide) (Nat.le_of_ble_eq_true rfl) (Nat.le_of_ble_eq_true rfl) di_Now_15 (fun q2 H hP hD hS => ?_)
  have hP : va_P D ax_cl ((h0, .inr (4, [.null, .int 0, .int 0, .int 0, .ref q1, .null, .null, .null])) :: [(q1, .inl (tc 0, 6, .inl (fun _ => 0))), (q2, .inl (tc 0, 6, .inl (fun _ => 0)))]) H := hP
  have hD : va_D A ((h0, .inr (4, [.null, .int 0, .int 0, .int 0, .ref q1, .null, .null, .null])) :: [(q1, .inl (tc 0, 6, .inl (fun _ => 0))), (q2, .inl (tc 0, 6, .inl (fun _ => 0)))]) := hD
  refine ax_pf (own := "InnChanged$Now") (ci := 4) (k := 5) (ty := .array .int) hx hb hts hown hin hK hP hD hS rfl (by decide) (ax_inM (i := 221) (by decide +kernel)) rfl (by decide +kernel) rfl rfl (Nat.le_of_ble_eq_true rfl) di_Now_17 (fun H locs hP hD hS => ?_)
  have hP : va_P D ax_cl ((h0, .inr (4, [.null, .int 0, .int 0, .int 0, .ref q1, .ref q2, .null, .null])) :: [(q1, .inl (tc 0, 6, .inl (fun _ => 0))), (q2, .inl (tc 0, 6, .inl (fun _ => 0)))]) H := hP
  have hD : va_D A ((h0, .inr (4, [.null, .int 0, .int 0, .int 0, .ref q1, .ref q2, .null, .null])) :: [(q1, .inl (tc 0, 6, .inl (fun _ => 0))), (q2, .inl (tc 0, 6, .inl (fun _ => 0)))]) := hD
  refine lv_aload_n hx hb di_Now_20 rfl (lv_at hl 0 rfl) ?_
  refine lv_bipush (v := 6) hx hb di_Now_21 (by decide) ?_
  refine ax_newI (N' := 6) hx hb hts hK hP hD hS hA (by decide) (by decide) (by decide) (Nat.le_of_ble_eq_true rfl) (Nat.le_of_ble_eq_true rfl) di_Now_23 (fun q3 H hP hD hS => ?_)
  have hP : va_P D ax_cl ((h0, .inr (4, [.null, .int 0, .int 0, .int 0, .ref q1, .ref q2, .null, .null])) :: [(q1, .inl (tc 0, 6, .inl (fun _ => 0))), (q2, .inl (tc 0, 6, .inl (fun _ => 0))), (q3, .inl (tc 0, 6, .inl (fun _ => 0)))]) H := hP
  have hD : va_D A ((h0, .inr (4, [.null, .int 0, .int 0, .int 0, .ref q1, .ref q2, .null, .null])) :: [(q1, .inl (tc 0, 6, .inl (fun _ => 0))), (q2, .inl (tc 0, 6, .inl (fun _ => 0))), (q3, .inl (tc 0, 6, .inl (fun _ => 0)))]) := hD
  refine ax_pf (own := "InnChanged$Now") (ci := 4) (k := 6) (ty := .array .int) hx hb hts hown hin hK hP hD hS rfl (by decide) (ax_inM (i := 223) (by decide +kernel)) rfl (by decide +kernel) rfl rfl (Nat.le_of_ble_eq_true rfl) di_Now_25 (fun H locs hP hD hS => ?_)
  have hP : va_P D ax_cl ((h0, .inr (4, [.null, .int 0, .int 0, .int 0, .ref q1, .ref q2, .ref q3, .null])) :: [(q1, .inl (tc 0, 6, .inl (fun _ => 0))), (q2, .inl (tc 0, 6, .inl (fun _ => 0))), (q3, .inl (tc 0, 6, .inl (fun _ => 0)))]) H := hP
  have hD : va_D A ((h0, .inr (4, [.null, .int 0, .int 0, .int 0, .ref q1, .ref q2, .ref q3, .null])) :: [(q1, .inl (tc 0, 6, .inl (fun _ => 0))), (q2, .inl (tc 0, 6, .inl (fun _ => 0))), (q3, .inl (tc 0, 6, .inl (fun _ => 0)))]) := hD
  refine lv_aload_n hx hb di_Now_28 rfl (lv_at hl 0 rfl) ?_
  refine lv_bipush (v := 6) hx hb di_Now_29 (by decide) ?_
  refine ax_newI (N' := 6) hx hb hts hK hP hD hS hA (by decide) (by decide) (by decide) (Nat.le_of_ble_eq_true rfl) (Nat.le_of_ble_eq_true rfl) di_Now_31 (fun q4 H hP hD hS => ?_)
  have hP : va_P D ax_cl ((h0, .inr (4, [.null, .int 0, .int 0, .int 0, .ref q1, .ref q2, .ref q3, .null])) :: [(q1, .inl (tc 0, 6, .inl (fun _ => 0))), (q2, .inl (tc 0, 6, .inl (fun _ => 0))), (q3, .inl (tc 0, 6, .inl (fun _ => 0))), (q4, .inl (tc 0, 6, .inl (fun _ => 0)))]) H := hP
  have hD : va_D A ((h0, .inr (4, [.null, .int 0, .int 0, .int 0, .ref q1, .ref q2, .ref q3, .null])) :: [(q1, .inl (tc 0, 6, .inl (fun _ => 0))), (q2, .inl (tc 0, 6, .inl (fun _ => 0))), (q3, .inl (tc 0, 6, .inl (fun _ => 0))), (q4, .inl (tc 0, 6, .inl (fun _ => 0)))]) := hD
  refine ax_pf (own := "InnChanged$Now") (ci := 4) (k := 7) (ty := .array .int) hx hb hts hown hin hK hP hD hS rfl (by decide) (ax_inM (i := 225) (by decide +kernel)) rfl (by decide +kernel) rfl rfl (Nat.le_of_ble_eq_true rfl) di_Now_33 (fun H locs hP hD hS => ?_)
  have hP : va_P D ax_cl ((h0, .inr (4, [.null, .int 0, .int 0, .int 0, .ref q1, .ref q2, .ref q3, .ref q4])) :: [(q1, .inl (tc 0, 6, .inl (fun _ => 0))), (q2, .inl (tc 0, 6, .inl (fun _ => 0))), (q3, .inl (tc 0, 6, .inl (fun _ => 0))), (q4, .inl (tc 0, 6, .inl (fun _ => 0)))]) H := hP
  have hD : va_D A ((h0, .inr (4, [.null, .int 0, .int 0, .int 0, .ref q1, .ref q2, .ref q3, .ref q4])) :: [(q1, .inl (tc 0, 6, .inl (fun _ => 0))), (q2, .inl (tc 0, 6, .inl (fun _ => 0))), (q3, .inl (tc 0, 6, .inl (fun _ => 0))), (q4, .inl (tc 0, 6, .inl (fun _ => 0)))]) := hD
  refine lv_aload_n hx hb di_Now_36 rfl (lv_at hl 0 rfl) ?_
  refine lv_aload_n hx hb di_Now_37 rfl (lv_at hl 1 rfl) ?_
  refine ax_pf (own := "InnChanged$Now") (ci := 4) (k := 0) (ty := .object "InnChanged$Told") hx hb hts hown hin hK hP hD hS rfl (by decide) (ax_inM (i := 208) (by decide +kernel)) rfl (by decide +kernel) rfl rfl (Nat.le_of_ble_eq_true rfl) di_Now_38 (fun H locs hP hD hS => ?_)
  have hP : va_P D ax_cl ((h0, .inr (4, [.ref a1, .int 0, .int 0, .int 0, .ref q1, .ref q2, .ref q3, .ref q4])) :: [(q1, .inl (tc 0, 6, .inl (fun _ => 0))), (q2, .inl (tc 0, 6, .inl (fun _ => 0))), (q3, .inl (tc 0, 6, .inl (fun _ => 0))), (q4, .inl (tc 0, 6, .inl (fun _ => 0)))]) H := hP
  have hD : va_D A ((h0, .inr (4, [.ref a1, .int 0, .int 0, .int 0, .ref q1, .ref q2, .ref q3, .ref q4])) :: [(q1, .inl (tc 0, 6, .inl (fun _ => 0))), (q2, .inl (tc 0, 6, .inl (fun _ => 0))), (q3, .inl (tc 0, 6, .inl (fun _ => 0))), (q4, .inl (tc 0, 6, .inl (fun _ => 0)))]) := hD
  refine W.widen (k := 4) (n := 24) (Nat.le_of_ble_eq_true rfl) (Nat.le_of_ble_eq_true rfl) ?_
  exact W.vret hx hb hr (fun t ht hW => ⟨⟨(fun _ k => [q1, q2, q3, q4].getD k 0), rfl, trivial, by rw [ht]; exact hP, va_K.moved hW.alike hK, hD⟩, hS.F ht⟩) hS.2.2 di_Now_41
def yi_Seen : MethodName := ⟨"InnChanged$Seen", "<init>", "()V"⟩
abbrev bi_Seen : ByteArray := prog_8_method_1_code
abbrev f0_Seen : List Value := [.int 0, .null, .null, .null]
theorem di_Seen_0 : decode bi_Seen 0 = .ok (.aload_n 0, 1) := by decide +kernel
theorem di_Seen_1 : decode bi_Seen 1 = .ok (.invokespecial 3, 3) := by decide +kernel
theorem di_Seen_4 : decode bi_Seen 4 = .ok (.aload_n 0, 1) := by decide +kernel
theorem di_Seen_5 : decode bi_Seen 5 = .ok (.bipush 10, 2) := by decide +kernel
theorem di_Seen_7 : decode bi_Seen 7 = .ok (.newarray .int, 2) := by decide +kernel
theorem di_Seen_9 : decode bi_Seen 9 = .ok (.putfield 9, 3) := by decide +kernel
theorem di_Seen_12 : decode bi_Seen 12 = .ok (.aload_n 0, 1) := by decide +kernel
theorem di_Seen_13 : decode bi_Seen 13 = .ok (.bipush 10, 2) := by decide +kernel
theorem di_Seen_15 : decode bi_Seen 15 = .ok (.newarray .int, 2) := by decide +kernel
theorem di_Seen_17 : decode bi_Seen 17 = .ok (.putfield 15, 3) := by decide +kernel
theorem di_Seen_20 : decode bi_Seen 20 = .ok (.aload_n 0, 1) := by decide +kernel
theorem di_Seen_21 : decode bi_Seen 21 = .ok (.bipush 10, 2) := by decide +kernel
theorem di_Seen_23 : decode bi_Seen 23 = .ok (.newarray .boolean, 2) := by decide +kernel
theorem di_Seen_25 : decode bi_Seen 25 = .ok (.putfield 18, 3) := by decide +kernel
theorem di_Seen_28 : decode bi_Seen 28 = .ok (.return_, 1) := by decide +kernel
abbrev wn_Seen (tc : Nat → ClassId) (h0 : Nat) (r : Nat → Nat → Nat) : va_W := (h0, .inr (6, [.int 0, .ref (r 0 0), .ref (r 0 1), .ref (r 0 2)])) :: [(r 0 0, .inl (tc 0, 10, .inl (fun _ => 0))), (r 0 1, .inl (tc 0, 10, .inl (fun _ => 0))), (r 0 2, .inl (tc 1, 10, .inl (fun _ => 0)))]
set_option maxHeartbeats 4000000 in
set_option maxRecDepth 100000 in
theorem ct_Seen (l : Launch) : ax_CT0 l yi_Seen bi_Seen 1 6 f0_Seen 3 30 1 40 (fun _ => True) [] (wn_Seen) := by
  intro D tc h0 sz
  refine Met.ofW (cc := bi_Seen) (maxL := 1) (ret := none) (by decide) rfl ?_
  intro p e s m args below meth c s₁ B hml hv
  obtain ⟨rfl, hsz, hP, hK, hD0, hex⟩ := hv
  have hx := B.exec
  have hb := B.bytes
  have hr := B.returns
  have hts : ∀ w ∈ ax_wsA, w.before _ s = true := fun w hw => atoms_spec (ws := ax_wc yi_Seen bi_Seen 1) B.pre w (List.mem_cons_of_mem _ hw)
  have hown : s.vm.findClass "InnChanged$Seen" = some m.cls := findClass_of_methodNamed B.named
  have hin : meth.name = "<init>" := (name_of_methodNamed B.named B.method).1
  subst hsz
  have hD := hD0.self (sz := s.heap.size)
  generalize hAe : va_A [(h0, (.inr (6, f0_Seen) : va_E))] s.heap.size = A at hD ⊢
  have hA : ∀ q : Nat, s.heap.size ≤ q → A q := fun q h => by rw [← hAe]; exact Or.inr h
  have hS : va_S A s.heap s.heap [] := va_S.rf
  have hP : va_P D ax_cl ((h0, .inr (6, [.int 0, .null, .null, .null])) :: []) s.heap := hP
  have hD : va_D A ((h0, .inr (6, [.int 0, .null, .null, .null])) :: []) := hD
  have hl := lv_entry ([.ref h0]) (n := 1) (Nat.le_of_ble_eq_true rfl)
  rw [lg_entry_eq]
  generalize (lg_sl ([.ref h0]) ++ List.replicate (1 - (lg_sl ([.ref h0])).length) Slot.unset).toArray = ls at hl ⊢
  have hl : lv_has ls 1 [(0, .ref h0)] := hl
  refine lv_aload_n hx hb di_Seen_0 rfl (lv_at hl 0 rfl) ?_
  refine W.objInit hx hb hown (hts _ (ax_inM (i := 250) (w := .methodLink "InnChanged$Seen" 3 objectInit) (by decide +kernel))) (hts _ (ax_inM (i := 101) (by decide +kernel))) (hts _ (ax_inM (i := 102) (by decide +kernel))) rfl (by rw [hml]; exact hl.1) rfl di_Seen_1 (Nat.le_of_ble_eq_true rfl) (Nat.le_of_ble_eq_true rfl) ?_
  refine W.eq (g2 := F0 m 4 ls []) rfl ?_
  refine lv_aload_n hx hb di_Seen_4 rfl (lv_at hl 0 rfl) ?_
  refine lv_bipush (v := 10) hx hb di_Seen_5 (by decide) ?_
  refine ax_newI (N' := 10) hx hb hts hK hP hD hS hA (by decide) (by decide) (by decide) (Nat.le_of_ble_eq_true rfl) (Nat.le_of_ble_eq_true rfl) di_Seen_7 (fun q1 H hP hD hS => ?_)
  have hP : va_P D ax_cl ((h0, .inr (6, [.int 0, .null, .null, .null])) :: [(q1, .inl (tc 0, 10, .inl (fun _ => 0)))]) H := hP
  have hD : va_D A ((h0, .inr (6, [.int 0, .null, .null, .null])) :: [(q1, .inl (tc 0, 10, .inl (fun _ => 0)))]) := hD
  refine ax_pf (own := "InnChanged$Seen") (ci := 6) (k := 1) (ty := .array .int) hx hb hts hown hin hK hP hD hS rfl (by decide) (ax_inM (i := 253) (by decide +kernel)) rfl (by decide +kernel) rfl rfl (Nat.le_of_ble_eq_true rfl) di_Seen_9 (fun H locs hP hD hS => ?_)
  have hP : va_P D ax_cl ((h0, .inr (6, [.int 0, .ref q1, .null, .null])) :: [(q1, .inl (tc 0, 10, .inl (fun _ => 0)))]) H := hP
  have hD : va_D A ((h0, .inr (6, [.int 0, .ref q1, .null, .null])) :: [(q1, .inl (tc 0, 10, .inl (fun _ => 0)))]) := hD
  refine lv_aload_n hx hb di_Seen_12 rfl (lv_at hl 0 rfl) ?_
  refine lv_bipush (v := 10) hx hb di_Seen_13 (by decide) ?_
  refine ax_newI (N' := 10) hx hb hts hK hP hD hS hA (by decide) (by decide) (by decide) (Nat.le_of_ble_eq_true rfl) (Nat.le_of_ble_eq_true rfl) di_Seen_15 (fun q2 H hP hD hS => ?_)
  have hP : va_P D ax_cl ((h0, .inr (6, [.int 0, .ref q1, .null, .null])) :: [(q1, .inl (tc 0, 10, .inl (fun _ => 0))), (q2, .inl (tc 0, 10, .inl (fun _ => 0)))]) H := hP
  have hD : va_D A ((h0, .inr (6, [.int 0, .ref q1, .null, .null])) :: [(q1, .inl (tc 0, 10, .inl (fun _ => 0))), (q2, .inl (tc 0, 10, .inl (fun _ => 0)))]) := hD
  refine ax_pf (own := "InnChanged$Seen") (ci := 6) (k := 2) (ty := .array .int) hx hb hts hown hin hK hP hD hS rfl (by decide) (ax_inM (i := 254) (by decide +kernel)) rfl (by decide +kernel) rfl rfl (Nat.le_of_ble_eq_true rfl) di_Seen_17 (fun H locs hP hD hS => ?_)
  have hP : va_P D ax_cl ((h0, .inr (6, [.int 0, .ref q1, .ref q2, .null])) :: [(q1, .inl (tc 0, 10, .inl (fun _ => 0))), (q2, .inl (tc 0, 10, .inl (fun _ => 0)))]) H := hP
  have hD : va_D A ((h0, .inr (6, [.int 0, .ref q1, .ref q2, .null])) :: [(q1, .inl (tc 0, 10, .inl (fun _ => 0))), (q2, .inl (tc 0, 10, .inl (fun _ => 0)))]) := hD
  refine lv_aload_n hx hb di_Seen_20 rfl (lv_at hl 0 rfl) ?_
  refine lv_bipush (v := 10) hx hb di_Seen_21 (by decide) ?_
  refine ax_newB (N' := 10) hx hb hts hK hP hD hS hA (by decide) (by decide) (by decide) (Nat.le_of_ble_eq_true rfl) (Nat.le_of_ble_eq_true rfl) di_Seen_23 (fun q3 H hP hD hS => ?_)
  have hP : va_P D ax_cl ((h0, .inr (6, [.int 0, .ref q1, .ref q2, .null])) :: [(q1, .inl (tc 0, 10, .inl (fun _ => 0))), (q2, .inl (tc 0, 10, .inl (fun _ => 0))), (q3, .inl (tc 1, 10, .inl (fun _ => 0)))]) H := hP
  have hD : va_D A ((h0, .inr (6, [.int 0, .ref q1, .ref q2, .null])) :: [(q1, .inl (tc 0, 10, .inl (fun _ => 0))), (q2, .inl (tc 0, 10, .inl (fun _ => 0))), (q3, .inl (tc 1, 10, .inl (fun _ => 0)))]) := hD
  refine ax_pf (own := "InnChanged$Seen") (ci := 6) (k := 3) (ty := .array .boolean) hx hb hts hown hin hK hP hD hS rfl (by decide) (ax_inM (i := 255) (by decide +kernel)) rfl (by decide +kernel) rfl rfl (Nat.le_of_ble_eq_true rfl) di_Seen_25 (fun H locs hP hD hS => ?_)
  have hP : va_P D ax_cl ((h0, .inr (6, [.int 0, .ref q1, .ref q2, .ref q3])) :: [(q1, .inl (tc 0, 10, .inl (fun _ => 0))), (q2, .inl (tc 0, 10, .inl (fun _ => 0))), (q3, .inl (tc 1, 10, .inl (fun _ => 0)))]) H := hP
  have hD : va_D A ((h0, .inr (6, [.int 0, .ref q1, .ref q2, .ref q3])) :: [(q1, .inl (tc 0, 10, .inl (fun _ => 0))), (q2, .inl (tc 0, 10, .inl (fun _ => 0))), (q3, .inl (tc 1, 10, .inl (fun _ => 0)))]) := hD
  refine W.widen (k := 3) (n := 30) (Nat.le_of_ble_eq_true rfl) (Nat.le_of_ble_eq_true rfl) ?_
  exact W.vret hx hb hr (fun t ht hW => ⟨⟨(fun _ k => [q1, q2, q3].getD k 0), rfl, trivial, by rw [ht]; exact hP, va_K.moved hW.alike hK, hD⟩, hS.F ht⟩) hS.2.2 di_Seen_28
def yi_Mend : MethodName := ⟨"InnChanged$Mend", "<init>", "(LInnChanged$Told;LInnChanged$Now;)V"⟩
abbrev bi_Mend : ByteArray := prog_5_method_1_code
abbrev f0_Mend : List Value := [.null, .null, .null, .null, .null]
theorem di_Mend_0 : decode bi_Mend 0 = .ok (.aload_n 0, 1) := by decide +kernel
theorem di_Mend_1 : decode bi_Mend 1 = .ok (.invokespecial 3, 3) := by decide +kernel
theorem di_Mend_4 : decode bi_Mend 4 = .ok (.aload_n 0, 1) := by decide +kernel
theorem di_Mend_5 : decode bi_Mend 5 = .ok (.bipush 6, 2) := by decide +kernel
theorem di_Mend_7 : decode bi_Mend 7 = .ok (.newarray .int, 2) := by decide +kernel
theorem di_Mend_9 : decode bi_Mend 9 = .ok (.putfield 9, 3) := by decide +kernel
theorem di_Mend_12 : decode bi_Mend 12 = .ok (.aload_n 0, 1) := by decide +kernel
theorem di_Mend_13 : decode bi_Mend 13 = .ok (.bipush 6, 2) := by decide +kernel
theorem di_Mend_15 : decode bi_Mend 15 = .ok (.newarray .int, 2) := by decide +kernel
theorem di_Mend_17 : decode bi_Mend 17 = .ok (.putfield 15, 3) := by decide +kernel
theorem di_Mend_20 : decode bi_Mend 20 = .ok (.aload_n 0, 1) := by decide +kernel
theorem di_Mend_21 : decode bi_Mend 21 = .ok (.bipush 6, 2) := by decide +kernel
theorem di_Mend_23 : decode bi_Mend 23 = .ok (.newarray .int, 2) := by decide +kernel
theorem di_Mend_25 : decode bi_Mend 25 = .ok (.putfield 18, 3) := by decide +kernel
theorem di_Mend_28 : decode bi_Mend 28 = .ok (.aload_n 0, 1) := by decide +kernel
theorem di_Mend_29 : decode bi_Mend 29 = .ok (.aload_n 1, 1) := by decide +kernel
theorem di_Mend_30 : decode bi_Mend 30 = .ok (.putfield 21, 3) := by decide +kernel
theorem di_Mend_33 : decode bi_Mend 33 = .ok (.aload_n 0, 1) := by decide +kernel
theorem di_Mend_34 : decode bi_Mend 34 = .ok (.aload_n 2, 1) := by decide +kernel
theorem di_Mend_35 : decode bi_Mend 35 = .ok (.putfield 25, 3) := by decide +kernel
theorem di_Mend_38 : decode bi_Mend 38 = .ok (.return_, 1) := by decide +kernel
abbrev wn_Mend (a1 a2 : Nat) (tc : Nat → ClassId) (h0 : Nat) (r : Nat → Nat → Nat) : va_W := (h0, .inr (3, [.ref a1, .ref a2, .ref (r 0 0), .ref (r 0 1), .ref (r 0 2)])) :: [(r 0 0, .inl (tc 0, 6, .inl (fun _ => 0))), (r 0 1, .inl (tc 0, 6, .inl (fun _ => 0))), (r 0 2, .inl (tc 0, 6, .inl (fun _ => 0)))]
set_option maxHeartbeats 4000000 in
set_option maxRecDepth 100000 in
theorem ct_Mend (l : Launch) (a1 a2 : Nat) : ax_CT0 l yi_Mend bi_Mend 3 3 f0_Mend 3 18 1 40 (fun _ => True) [.ref a1, .ref a2] (wn_Mend a1 a2) := by
  intro D tc h0 sz
  refine Met.ofW (cc := bi_Mend) (maxL := 3) (ret := none) (by decide) rfl ?_
  intro p e s m args below meth c s₁ B hml hv
  obtain ⟨rfl, hsz, hP, hK, hD0, hex⟩ := hv
  have hx := B.exec
  have hb := B.bytes
  have hr := B.returns
  have hts : ∀ w ∈ ax_wsA, w.before _ s = true := fun w hw => atoms_spec (ws := ax_wc yi_Mend bi_Mend 3) B.pre w (List.mem_cons_of_mem _ hw)
  have hown : s.vm.findClass "InnChanged$Mend" = some m.cls := findClass_of_methodNamed B.named
  have hin : meth.name = "<init>" := (name_of_methodNamed B.named B.method).1
  subst hsz
  have hD := hD0.self (sz := s.heap.size)
  generalize hAe : va_A [(h0, (.inr (3, f0_Mend) : va_E))] s.heap.size = A at hD ⊢
  have hA : ∀ q : Nat, s.heap.size ≤ q → A q := fun q h => by rw [← hAe]; exact Or.inr h
  have hS : va_S A s.heap s.heap [] := va_S.rf
  have hP : va_P D ax_cl ((h0, .inr (3, [.null, .null, .null, .null, .null])) :: []) s.heap := hP
  have hD : va_D A ((h0, .inr (3, [.null, .null, .null, .null, .null])) :: []) := hD
  have hl := lv_entry ([.ref h0, .ref a1, .ref a2]) (n := 3) (Nat.le_of_ble_eq_true rfl)
  rw [lg_entry_eq]
  generalize (lg_sl ([.ref h0, .ref a1, .ref a2]) ++ List.replicate (3 - (lg_sl ([.ref h0, .ref a1, .ref a2])).length) Slot.unset).toArray = ls at hl ⊢
  have hl : lv_has ls 3 [(0, .ref h0), (1, .ref a1), (2, .ref a2)] := hl
  refine lv_aload_n hx hb di_Mend_0 rfl (lv_at hl 0 rfl) ?_
  refine W.objInit hx hb hown (hts _ (ax_inM (i := 271) (w := .methodLink "InnChanged$Mend" 3 objectInit) (by decide +kernel))) (hts _ (ax_inM (i := 101) (by decide +kernel))) (hts _ (ax_inM (i := 102) (by decide +kernel))) rfl (by rw [hml]; exact hl.1) rfl di_Mend_1 (Nat.le_of_ble_eq_true rfl) (Nat.le_of_ble_eq_true rfl) ?_
  refine W.eq (g2 := F0 m 4 ls []) rfl ?_
  refine lv_aload_n hx hb di_Mend_4 rfl (lv_at hl 0 rfl) ?_
  refine lv_bipush (v := 6) hx hb di_Mend_5 (by decide) ?_
  refine ax_newI (N' := 6) hx hb hts hK hP hD hS hA (by decide) (by decide) (by decide) (Nat.le_of_ble_eq_true rfl) (Nat.le_of_ble_eq_true rfl) di_Mend_7 (fun q1 H hP hD hS => ?_)
  have hP : va_P D ax_cl ((h0, .inr (3, [.null, .null, .null, .null, .null])) :: [(q1, .inl (tc 0, 6, .inl (fun _ => 0)))]) H := hP
  have hD : va_D A ((h0, .inr (3, [.null, .null, .null, .null, .null])) :: [(q1, .inl (tc 0, 6, .inl (fun _ => 0)))]) := hD
  refine ax_pf (own := "InnChanged$Mend") (ci := 3) (k := 2) (ty := .array .int) hx hb hts hown hin hK hP hD hS rfl (by decide) (ax_inM (i := 274) (by decide +kernel)) rfl (by decide +kernel) rfl rfl (Nat.le_of_ble_eq_true rfl) di_Mend_9 (fun H locs hP hD hS => ?_)
  have hP : va_P D ax_cl ((h0, .inr (3, [.null, .null, .ref q1, .null, .null])) :: [(q1, .inl (tc 0, 6, .inl (fun _ => 0)))]) H := hP
  have hD : va_D A ((h0, .inr (3, [.null, .null, .ref q1, .null, .null])) :: [(q1, .inl (tc 0, 6, .inl (fun _ => 0)))]) := hD
  refine lv_aload_n hx hb di_Mend_12 rfl (lv_at hl 0 rfl) ?_
  refine lv_bipush (v := 6) hx hb di_Mend_13 (by decide) ?_
  refine ax_newI (N' := 6) hx hb hts hK hP hD hS hA (by decide) (by decide) (by decide) (Nat.le_of_ble_eq_true rfl) (Nat.le_of_ble_eq_true rfl) di_Mend_15 (fun q2 H hP hD hS => ?_)
  have hP : va_P D ax_cl ((h0, .inr (3, [.null, .null, .ref q1, .null, .null])) :: [(q1, .inl (tc 0, 6, .inl (fun _ => 0))), (q2, .inl (tc 0, 6, .inl (fun _ => 0)))]) H := hP
  have hD : va_D A ((h0, .inr (3, [.null, .null, .ref q1, .null, .null])) :: [(q1, .inl (tc 0, 6, .inl (fun _ => 0))), (q2, .inl (tc 0, 6, .inl (fun _ => 0)))]) := hD
  refine ax_pf (own := "InnChanged$Mend") (ci := 3) (k := 3) (ty := .array .int) hx hb hts hown hin hK hP hD hS rfl (by decide) (ax_inM (i := 276) (by decide +kernel)) rfl (by decide +kernel) rfl rfl (Nat.le_of_ble_eq_true rfl) di_Mend_17 (fun H locs hP hD hS => ?_)
  have hP : va_P D ax_cl ((h0, .inr (3, [.null, .null, .ref q1, .ref q2, .null])) :: [(q1, .inl (tc 0, 6, .inl (fun _ => 0))), (q2, .inl (tc 0, 6, .inl (fun _ => 0)))]) H := hP
  have hD : va_D A ((h0, .inr (3, [.null, .null, .ref q1, .ref q2, .null])) :: [(q1, .inl (tc 0, 6, .inl (fun _ => 0))), (q2, .inl (tc 0, 6, .inl (fun _ => 0)))]) := hD
  refine lv_aload_n hx hb di_Mend_20 rfl (lv_at hl 0 rfl) ?_
  refine lv_bipush (v := 6) hx hb di_Mend_21 (by decide) ?_
  refine ax_newI (N' := 6) hx hb hts hK hP hD hS hA (by decide) (by decide) (by decide) (Nat.le_of_ble_eq_true rfl) (Nat.le_of_ble_eq_true rfl) di_Mend_23 (fun q3 H hP hD hS => ?_)
  have hP : va_P D ax_cl ((h0, .inr (3, [.null, .null, .ref q1, .ref q2, .null])) :: [(q1, .inl (tc 0, 6, .inl (fun _ => 0))), (q2, .inl (tc 0, 6, .inl (fun _ => 0))), (q3, .inl (tc 0, 6, .inl (fun _ => 0)))]) H := hP
  have hD : va_D A ((h0, .inr (3, [.null, .null, .ref q1, .ref q2, .null])) :: [(q1, .inl (tc 0, 6, .inl (fun _ => 0))), (q2, .inl (tc 0, 6, .inl (fun _ => 0))), (q3, .inl (tc 0, 6, .inl (fun _ => 0)))]) := hD
  refine ax_pf (own := "InnChanged$Mend") (ci := 3) (k := 4) (ty := .array .int) hx hb hts hown hin hK hP hD hS rfl (by decide) (ax_inM (i := 278) (by decide +kernel)) rfl (by decide +kernel) rfl rfl (Nat.le_of_ble_eq_true rfl) di_Mend_25 (fun H locs hP hD hS => ?_)
  have hP : va_P D ax_cl ((h0, .inr (3, [.null, .null, .ref q1, .ref q2, .ref q3])) :: [(q1, .inl (tc 0, 6, .inl (fun _ => 0))), (q2, .inl (tc 0, 6, .inl (fun _ => 0))), (q3, .inl (tc 0, 6, .inl (fun _ => 0)))]) H := hP
  have hD : va_D A ((h0, .inr (3, [.null, .null, .ref q1, .ref q2, .ref q3])) :: [(q1, .inl (tc 0, 6, .inl (fun _ => 0))), (q2, .inl (tc 0, 6, .inl (fun _ => 0))), (q3, .inl (tc 0, 6, .inl (fun _ => 0)))]) := hD
  refine lv_aload_n hx hb di_Mend_28 rfl (lv_at hl 0 rfl) ?_
  refine lv_aload_n hx hb di_Mend_29 rfl (lv_at hl 1 rfl) ?_
  refine ax_pf (own := "InnChanged$Mend") (ci := 3) (k := 0) (ty := .object "InnChanged$Told") hx hb hts hown hin hK hP hD hS rfl (by decide) (ax_inM (i := 272) (by decide +kernel)) rfl (by decide +kernel) rfl rfl (Nat.le_of_ble_eq_true rfl) di_Mend_30 (fun H locs hP hD hS => ?_)
  have hP : va_P D ax_cl ((h0, .inr (3, [.ref a1, .null, .ref q1, .ref q2, .ref q3])) :: [(q1, .inl (tc 0, 6, .inl (fun _ => 0))), (q2, .inl (tc 0, 6, .inl (fun _ => 0))), (q3, .inl (tc 0, 6, .inl (fun _ => 0)))]) H := hP
  have hD : va_D A ((h0, .inr (3, [.ref a1, .null, .ref q1, .ref q2, .ref q3])) :: [(q1, .inl (tc 0, 6, .inl (fun _ => 0))), (q2, .inl (tc 0, 6, .inl (fun _ => 0))), (q3, .inl (tc 0, 6, .inl (fun _ => 0)))]) := hD
  refine lv_aload_n hx hb di_Mend_33 rfl (lv_at hl 0 rfl) ?_
  refine lv_aload_n hx hb di_Mend_34 rfl (lv_at hl 2 rfl) ?_
  refine ax_pf (own := "InnChanged$Mend") (ci := 3) (k := 1) (ty := .object "InnChanged$Now") hx hb hts hown hin hK hP hD hS rfl (by decide) (ax_inM (i := 273) (by decide +kernel)) rfl (by decide +kernel) rfl rfl (Nat.le_of_ble_eq_true rfl) di_Mend_35 (fun H locs hP hD hS => ?_)
  have hP : va_P D ax_cl ((h0, .inr (3, [.ref a1, .ref a2, .ref q1, .ref q2, .ref q3])) :: [(q1, .inl (tc 0, 6, .inl (fun _ => 0))), (q2, .inl (tc 0, 6, .inl (fun _ => 0))), (q3, .inl (tc 0, 6, .inl (fun _ => 0)))]) H := hP
  have hD : va_D A ((h0, .inr (3, [.ref a1, .ref a2, .ref q1, .ref q2, .ref q3])) :: [(q1, .inl (tc 0, 6, .inl (fun _ => 0))), (q2, .inl (tc 0, 6, .inl (fun _ => 0))), (q3, .inl (tc 0, 6, .inl (fun _ => 0)))]) := hD
  refine W.widen (k := 3) (n := 18) (Nat.le_of_ble_eq_true rfl) (Nat.le_of_ble_eq_true rfl) ?_
  exact W.vret hx hb hr (fun t ht hW => ⟨⟨(fun _ k => [q1, q2, q3].getD k 0), rfl, trivial, by rw [ht]; exact hP, va_K.moved hW.alike hK, hD⟩, hS.F ht⟩) hS.2.2 di_Mend_38
def yi_Fits : MethodName := ⟨"InnChanged$Fits", "<init>", "(LInnChanged$Told;LInnChanged$Now;LInnChanged$Seen;)V"⟩
abbrev bi_Fits : ByteArray := prog_4_method_1_code
abbrev f0_Fits : List Value := [.null, .null, .null, .null, .null, .null, .null, .int 0]
theorem di_Fits_0 : decode bi_Fits 0 = .ok (.aload_n 0, 1) := by decide +kernel
theorem di_Fits_1 : decode bi_Fits 1 = .ok (.invokespecial 3, 3) := by decide +kernel
theorem di_Fits_4 : decode bi_Fits 4 = .ok (.aload_n 0, 1) := by decide +kernel
theorem di_Fits_5 : decode bi_Fits 5 = .ok (.bipush 6, 2) := by decide +kernel
theorem di_Fits_7 : decode bi_Fits 7 = .ok (.newarray .int, 2) := by decide +kernel
theorem di_Fits_9 : decode bi_Fits 9 = .ok (.putfield 9, 3) := by decide +kernel
theorem di_Fits_12 : decode bi_Fits 12 = .ok (.aload_n 0, 1) := by decide +kernel
theorem di_Fits_13 : decode bi_Fits 13 = .ok (.bipush 64, 2) := by decide +kernel
theorem di_Fits_15 : decode bi_Fits 15 = .ok (.newarray .int, 2) := by decide +kernel
theorem di_Fits_17 : decode bi_Fits 17 = .ok (.putfield 15, 3) := by decide +kernel
theorem di_Fits_20 : decode bi_Fits 20 = .ok (.aload_n 0, 1) := by decide +kernel
theorem di_Fits_21 : decode bi_Fits 21 = .ok (.bipush 64, 2) := by decide +kernel
theorem di_Fits_23 : decode bi_Fits 23 = .ok (.newarray .int, 2) := by decide +kernel
theorem di_Fits_25 : decode bi_Fits 25 = .ok (.putfield 18, 3) := by decide +kernel
theorem di_Fits_28 : decode bi_Fits 28 = .ok (.aload_n 0, 1) := by decide +kernel
theorem di_Fits_29 : decode bi_Fits 29 = .ok (.bipush 36, 2) := by decide +kernel
theorem di_Fits_31 : decode bi_Fits 31 = .ok (.newarray .int, 2) := by decide +kernel
theorem di_Fits_33 : decode bi_Fits 33 = .ok (.putfield 21, 3) := by decide +kernel
theorem di_Fits_36 : decode bi_Fits 36 = .ok (.aload_n 0, 1) := by decide +kernel
theorem di_Fits_37 : decode bi_Fits 37 = .ok (.aload_n 1, 1) := by decide +kernel
theorem di_Fits_38 : decode bi_Fits 38 = .ok (.putfield 24, 3) := by decide +kernel
theorem di_Fits_41 : decode bi_Fits 41 = .ok (.aload_n 0, 1) := by decide +kernel
theorem di_Fits_42 : decode bi_Fits 42 = .ok (.aload_n 2, 1) := by decide +kernel
theorem di_Fits_43 : decode bi_Fits 43 = .ok (.putfield 28, 3) := by decide +kernel
theorem di_Fits_46 : decode bi_Fits 46 = .ok (.aload_n 0, 1) := by decide +kernel
theorem di_Fits_47 : decode bi_Fits 47 = .ok (.aload_n 3, 1) := by decide +kernel
theorem di_Fits_48 : decode bi_Fits 48 = .ok (.putfield 32, 3) := by decide +kernel
theorem di_Fits_51 : decode bi_Fits 51 = .ok (.return_, 1) := by decide +kernel
abbrev wn_Fits (a1 a2 a3 : Nat) (tc : Nat → ClassId) (h0 : Nat) (r : Nat → Nat → Nat) : va_W := (h0, .inr (2, [.ref a1, .ref a2, .ref a3, .ref (r 0 0), .ref (r 0 1), .ref (r 0 2), .ref (r 0 3), .int 0])) :: [(r 0 0, .inl (tc 0, 6, .inl (fun _ => 0))), (r 0 1, .inl (tc 0, 64, .inl (fun _ => 0))), (r 0 2, .inl (tc 0, 64, .inl (fun _ => 0))), (r 0 3, .inl (tc 0, 36, .inl (fun _ => 0)))]
set_option maxHeartbeats 4000000 in
set_option maxRecDepth 100000 in
theorem ct_Fits (l : Launch) (a1 a2 a3 : Nat) : ax_CT0 l yi_Fits bi_Fits 4 2 f0_Fits 4 170 1 40 (fun _ => True) [.ref a1, .ref a2, .ref a3] (wn_Fits a1 a2 a3) := by
  intro D tc h0 sz
  refine Met.ofW (cc := bi_Fits) (maxL := 4) (ret := none) (by decide) rfl ?_
  intro p e s m args below meth c s₁ B hml hv
  obtain ⟨rfl, hsz, hP, hK, hD0, hex⟩ := hv
  have hx := B.exec
  have hb := B.bytes
  have hr := B.returns
  have hts : ∀ w ∈ ax_wsA, w.before _ s = true := fun w hw => atoms_spec (ws := ax_wc yi_Fits bi_Fits 4) B.pre w (List.mem_cons_of_mem _ hw)
  have hown : s.vm.findClass "InnChanged$Fits" = some m.cls := findClass_of_methodNamed B.named
  have hin : meth.name = "<init>" := (name_of_methodNamed B.named B.method).1
  subst hsz
  have hD := hD0.self (sz := s.heap.size)
  generalize hAe : va_A [(h0, (.inr (2, f0_Fits) : va_E))] s.heap.size = A at hD ⊢
  have hA : ∀ q : Nat, s.heap.size ≤ q → A q := fun q h => by rw [← hAe]; exact Or.inr h
  have hS : va_S A s.heap s.heap [] := va_S.rf
  have hP : va_P D ax_cl ((h0, .inr (2, [.null, .null, .null, .null, .null, .null, .null, .int 0])) :: []) s.heap := hP
  have hD : va_D A ((h0, .inr (2, [.null, .null, .null, .null, .null, .null, .null, .int 0])) :: []) := hD
  have hl := lv_entry ([.ref h0, .ref a1, .ref a2, .ref a3]) (n := 4) (Nat.le_of_ble_eq_true rfl)
  rw [lg_entry_eq]
  generalize (lg_sl ([.ref h0, .ref a1, .ref a2, .ref a3]) ++ List.replicate (4 - (lg_sl ([.ref h0, .ref a1, .ref a2, .ref a3])).length) Slot.unset).toArray = ls at hl ⊢
  have hl : lv_has ls 4 [(0, .ref h0), (1, .ref a1), (2, .ref a2), (3, .ref a3)] := hl
  refine lv_aload_n hx hb di_Fits_0 rfl (lv_at hl 0 rfl) ?_
  refine W.objInit hx hb hown (hts _ (ax_inM (i := 329) (w := .methodLink "InnChanged$Fits" 3 objectInit) (by decide +kernel))) (hts _ (ax_inM (i := 101) (by decide +kernel))) (hts _ (ax_inM (i := 102) (by decide +kernel))) rfl (by rw [hml]; exact hl.1) rfl di_Fits_1 (Nat.le_of_ble_eq_true rfl) (Nat.le_of_ble_eq_true rfl) ?_
  refine W.eq (g2 := F0 m 4 ls []) rfl ?_
  refine lv_aload_n hx hb di_Fits_4 rfl (lv_at hl 0 rfl) ?_
  refine lv_bipush (v := 6) hx hb di_Fits_5 (by decide) ?_
  refine ax_newI (N' := 6) hx hb hts hK hP hD hS hA (by decide) (by decide) (by decide) (Nat.le_of_ble_eq_true rfl) (Nat.le_of_ble_eq_true rfl) di_Fits_7 (fun q1 H hP hD hS => ?_)
  have hP : va_P D ax_cl ((h0, .inr (2, [.null, .null, .null, .null, .null, .null, .null, .int 0])) :: [(q1, .inl (tc 0, 6, .inl (fun _ => 0)))]) H := hP
  have hD : va_D A ((h0, .inr (2, [.null, .null, .null, .null, .null, .null, .null, .int 0])) :: [(q1, .inl (tc 0, 6, .inl (fun _ => 0)))]) := hD
  refine ax_pf (own := "InnChanged$Fits") (ci := 2) (k := 3) (ty := .array .int) hx hb hts hown hin hK hP hD hS rfl (by decide) (ax_inM (i := 333) (by decide +kernel)) rfl (by decide +kernel) rfl rfl (Nat.le_of_ble_eq_true rfl) di_Fits_9 (fun H locs hP hD hS => ?_)
  have hP : va_P D ax_cl ((h0, .inr (2, [.null, .null, .null, .ref q1, .null, .null, .null, .int 0])) :: [(q1, .inl (tc 0, 6, .inl (fun _ => 0)))]) H := hP
  have hD : va_D A ((h0, .inr (2, [.null, .null, .null, .ref q1, .null, .null, .null, .int 0])) :: [(q1, .inl (tc 0, 6, .inl (fun _ => 0)))]) := hD
  refine lv_aload_n hx hb di_Fits_12 rfl (lv_at hl 0 rfl) ?_
  refine lv_bipush (v := 64) hx hb di_Fits_13 (by decide) ?_
  refine ax_newI (N' := 64) hx hb hts hK hP hD hS hA (by decide) (by decide) (by decide) (Nat.le_of_ble_eq_true rfl) (Nat.le_of_ble_eq_true rfl) di_Fits_15 (fun q2 H hP hD hS => ?_)
  have hP : va_P D ax_cl ((h0, .inr (2, [.null, .null, .null, .ref q1, .null, .null, .null, .int 0])) :: [(q1, .inl (tc 0, 6, .inl (fun _ => 0))), (q2, .inl (tc 0, 64, .inl (fun _ => 0)))]) H := hP
  have hD : va_D A ((h0, .inr (2, [.null, .null, .null, .ref q1, .null, .null, .null, .int 0])) :: [(q1, .inl (tc 0, 6, .inl (fun _ => 0))), (q2, .inl (tc 0, 64, .inl (fun _ => 0)))]) := hD
  refine ax_pf (own := "InnChanged$Fits") (ci := 2) (k := 4) (ty := .array .int) hx hb hts hown hin hK hP hD hS rfl (by decide) (ax_inM (i := 336) (by decide +kernel)) rfl (by decide +kernel) rfl rfl (Nat.le_of_ble_eq_true rfl) di_Fits_17 (fun H locs hP hD hS => ?_)
  have hP : va_P D ax_cl ((h0, .inr (2, [.null, .null, .null, .ref q1, .ref q2, .null, .null, .int 0])) :: [(q1, .inl (tc 0, 6, .inl (fun _ => 0))), (q2, .inl (tc 0, 64, .inl (fun _ => 0)))]) H := hP
  have hD : va_D A ((h0, .inr (2, [.null, .null, .null, .ref q1, .ref q2, .null, .null, .int 0])) :: [(q1, .inl (tc 0, 6, .inl (fun _ => 0))), (q2, .inl (tc 0, 64, .inl (fun _ => 0)))]) := hD
  refine lv_aload_n hx hb di_Fits_20 rfl (lv_at hl 0 rfl) ?_
  refine lv_bipush (v := 64) hx hb di_Fits_21 (by decide) ?_
  refine ax_newI (N' := 64) hx hb hts hK hP hD hS hA (by decide) (by decide) (by decide) (Nat.le_of_ble_eq_true rfl) (Nat.le_of_ble_eq_true rfl) di_Fits_23 (fun q3 H hP hD hS => ?_)
  have hP : va_P D ax_cl ((h0, .inr (2, [.null, .null, .null, .ref q1, .ref q2, .null, .null, .int 0])) :: [(q1, .inl (tc 0, 6, .inl (fun _ => 0))), (q2, .inl (tc 0, 64, .inl (fun _ => 0))), (q3, .inl (tc 0, 64, .inl (fun _ => 0)))]) H := hP
  have hD : va_D A ((h0, .inr (2, [.null, .null, .null, .ref q1, .ref q2, .null, .null, .int 0])) :: [(q1, .inl (tc 0, 6, .inl (fun _ => 0))), (q2, .inl (tc 0, 64, .inl (fun _ => 0))), (q3, .inl (tc 0, 64, .inl (fun _ => 0)))]) := hD
  refine ax_pf (own := "InnChanged$Fits") (ci := 2) (k := 5) (ty := .array .int) hx hb hts hown hin hK hP hD hS rfl (by decide) (ax_inM (i := 337) (by decide +kernel)) rfl (by decide +kernel) rfl rfl (Nat.le_of_ble_eq_true rfl) di_Fits_25 (fun H locs hP hD hS => ?_)
  have hP : va_P D ax_cl ((h0, .inr (2, [.null, .null, .null, .ref q1, .ref q2, .ref q3, .null, .int 0])) :: [(q1, .inl (tc 0, 6, .inl (fun _ => 0))), (q2, .inl (tc 0, 64, .inl (fun _ => 0))), (q3, .inl (tc 0, 64, .inl (fun _ => 0)))]) H := hP
  have hD : va_D A ((h0, .inr (2, [.null, .null, .null, .ref q1, .ref q2, .ref q3, .null, .int 0])) :: [(q1, .inl (tc 0, 6, .inl (fun _ => 0))), (q2, .inl (tc 0, 64, .inl (fun _ => 0))), (q3, .inl (tc 0, 64, .inl (fun _ => 0)))]) := hD
  refine lv_aload_n hx hb di_Fits_28 rfl (lv_at hl 0 rfl) ?_
  refine lv_bipush (v := 36) hx hb di_Fits_29 (by decide) ?_
  refine ax_newI (N' := 36) hx hb hts hK hP hD hS hA (by decide) (by decide) (by decide) (Nat.le_of_ble_eq_true rfl) (Nat.le_of_ble_eq_true rfl) di_Fits_31 (fun q4 H hP hD hS => ?_)
  have hP : va_P D ax_cl ((h0, .inr (2, [.null, .null, .null, .ref q1, .ref q2, .ref q3, .null, .int 0])) :: [(q1, .inl (tc 0, 6, .inl (fun _ => 0))), (q2, .inl (tc 0, 64, .inl (fun _ => 0))), (q3, .inl (tc 0, 64, .inl (fun _ => 0))), (q4, .inl (tc 0, 36, .inl (fun _ => 0)))]) H := hP
  have hD : va_D A ((h0, .inr (2, [.null, .null, .null, .ref q1, .ref q2, .ref q3, .null, .int 0])) :: [(q1, .inl (tc 0, 6, .inl (fun _ => 0))), (q2, .inl (tc 0, 64, .inl (fun _ => 0))), (q3, .inl (tc 0, 64, .inl (fun _ => 0))), (q4, .inl (tc 0, 36, .inl (fun _ => 0)))]) := hD
  refine ax_pf (own := "InnChanged$Fits") (ci := 2) (k := 6) (ty := .array .int) hx hb hts hown hin hK hP hD hS rfl (by decide) (ax_inM (i := 339) (by decide +kernel)) rfl (by decide +kernel) rfl rfl (Nat.le_of_ble_eq_true rfl) di_Fits_33 (fun H locs hP hD hS => ?_)
  have hP : va_P D ax_cl ((h0, .inr (2, [.null, .null, .null, .ref q1, .ref q2, .ref q3, .ref q4, .int 0])) :: [(q1, .inl (tc 0, 6, .inl (fun _ => 0))), (q2, .inl (tc 0, 64, .inl (fun _ => 0))), (q3, .inl (tc 0, 64, .inl (fun _ => 0))), (q4, .inl (tc 0, 36, .inl (fun _ => 0)))]) H := hP
  have hD : va_D A ((h0, .inr (2, [.null, .null, .null, .ref q1, .ref q2, .ref q3, .ref q4, .int 0])) :: [(q1, .inl (tc 0, 6, .inl (fun _ => 0))), (q2, .inl (tc 0, 64, .inl (fun _ => 0))), (q3, .inl (tc 0, 64, .inl (fun _ => 0))), (q4, .inl (tc 0, 36, .inl (fun _ => 0)))]) := hD
  refine lv_aload_n hx hb di_Fits_36 rfl (lv_at hl 0 rfl) ?_
  refine lv_aload_n hx hb di_Fits_37 rfl (lv_at hl 1 rfl) ?_
  refine ax_pf (own := "InnChanged$Fits") (ci := 2) (k := 0) (ty := .object "InnChanged$Told") hx hb hts hown hin hK hP hD hS rfl (by decide) (ax_inM (i := 330) (by decide +kernel)) rfl (by decide +kernel) rfl rfl (Nat.le_of_ble_eq_true rfl) di_Fits_38 (fun H locs hP hD hS => ?_)
  have hP : va_P D ax_cl ((h0, .inr (2, [.ref a1, .null, .null, .ref q1, .ref q2, .ref q3, .ref q4, .int 0])) :: [(q1, .inl (tc 0, 6, .inl (fun _ => 0))), (q2, .inl (tc 0, 64, .inl (fun _ => 0))), (q3, .inl (tc 0, 64, .inl (fun _ => 0))), (q4, .inl (tc 0, 36, .inl (fun _ => 0)))]) H := hP
  have hD : va_D A ((h0, .inr (2, [.ref a1, .null, .null, .ref q1, .ref q2, .ref q3, .ref q4, .int 0])) :: [(q1, .inl (tc 0, 6, .inl (fun _ => 0))), (q2, .inl (tc 0, 64, .inl (fun _ => 0))), (q3, .inl (tc 0, 64, .inl (fun _ => 0))), (q4, .inl (tc 0, 36, .inl (fun _ => 0)))]) := hD
  refine lv_aload_n hx hb di_Fits_41 rfl (lv_at hl 0 rfl) ?_
  refine lv_aload_n hx hb di_Fits_42 rfl (lv_at hl 2 rfl) ?_
  refine ax_pf (own := "InnChanged$Fits") (ci := 2) (k := 1) (ty := .object "InnChanged$Now") hx hb hts hown hin hK hP hD hS rfl (by decide) (ax_inM (i := 331) (by decide +kernel)) rfl (by decide +kernel) rfl rfl (Nat.le_of_ble_eq_true rfl) di_Fits_43 (fun H locs hP hD hS => ?_)
  have hP : va_P D ax_cl ((h0, .inr (2, [.ref a1, .ref a2, .null, .ref q1, .ref q2, .ref q3, .ref q4, .int 0])) :: [(q1, .inl (tc 0, 6, .inl (fun _ => 0))), (q2, .inl (tc 0, 64, .inl (fun _ => 0))), (q3, .inl (tc 0, 64, .inl (fun _ => 0))), (q4, .inl (tc 0, 36, .inl (fun _ => 0)))]) H := hP
  have hD : va_D A ((h0, .inr (2, [.ref a1, .ref a2, .null, .ref q1, .ref q2, .ref q3, .ref q4, .int 0])) :: [(q1, .inl (tc 0, 6, .inl (fun _ => 0))), (q2, .inl (tc 0, 64, .inl (fun _ => 0))), (q3, .inl (tc 0, 64, .inl (fun _ => 0))), (q4, .inl (tc 0, 36, .inl (fun _ => 0)))]) := hD
  refine lv_aload_n hx hb di_Fits_46 rfl (lv_at hl 0 rfl) ?_
  refine lv_aload_n hx hb di_Fits_47 rfl (lv_at hl 3 rfl) ?_
  refine ax_pf (own := "InnChanged$Fits") (ci := 2) (k := 2) (ty := .object "InnChanged$Seen") hx hb hts hown hin hK hP hD hS rfl (by decide) (ax_inM (i := 332) (by decide +kernel)) rfl (by decide +kernel) rfl rfl (Nat.le_of_ble_eq_true rfl) di_Fits_48 (fun H locs hP hD hS => ?_)
  have hP : va_P D ax_cl ((h0, .inr (2, [.ref a1, .ref a2, .ref a3, .ref q1, .ref q2, .ref q3, .ref q4, .int 0])) :: [(q1, .inl (tc 0, 6, .inl (fun _ => 0))), (q2, .inl (tc 0, 64, .inl (fun _ => 0))), (q3, .inl (tc 0, 64, .inl (fun _ => 0))), (q4, .inl (tc 0, 36, .inl (fun _ => 0)))]) H := hP
  have hD : va_D A ((h0, .inr (2, [.ref a1, .ref a2, .ref a3, .ref q1, .ref q2, .ref q3, .ref q4, .int 0])) :: [(q1, .inl (tc 0, 6, .inl (fun _ => 0))), (q2, .inl (tc 0, 64, .inl (fun _ => 0))), (q3, .inl (tc 0, 64, .inl (fun _ => 0))), (q4, .inl (tc 0, 36, .inl (fun _ => 0)))]) := hD
  refine W.widen (k := 4) (n := 170) (Nat.le_of_ble_eq_true rfl) (Nat.le_of_ble_eq_true rfl) ?_
  exact W.vret hx hb hr (fun t ht hW => ⟨⟨(fun _ k => [q1, q2, q3, q4].getD k 0), rfl, trivial, by rw [ht]; exact hP, va_K.moved hW.alike hK, hD⟩, hS.F ht⟩) hS.2.2 di_Fits_51
def yi_Apart : MethodName := ⟨"InnChanged$Apart", "<init>", "(LInnChanged$Told;LInnChanged$Now;LInnChanged$Fits;)V"⟩
abbrev bi_Apart : ByteArray := prog_2_method_1_code
abbrev f0_Apart : List Value := [.null, .null, .null, .null, .null, .null, .int 0, .null]
theorem di_Apart_0 : decode bi_Apart 0 = .ok (.aload_n 0, 1) := by decide +kernel
theorem di_Apart_1 : decode bi_Apart 1 = .ok (.invokespecial 3, 3) := by decide +kernel
theorem di_Apart_4 : decode bi_Apart 4 = .ok (.aload_n 0, 1) := by decide +kernel
theorem di_Apart_5 : decode bi_Apart 5 = .ok (.bipush 24, 2) := by decide +kernel
theorem di_Apart_7 : decode bi_Apart 7 = .ok (.newarray .int, 2) := by decide +kernel
theorem di_Apart_9 : decode bi_Apart 9 = .ok (.putfield 9, 3) := by decide +kernel
theorem di_Apart_12 : decode bi_Apart 12 = .ok (.aload_n 0, 1) := by decide +kernel
theorem di_Apart_13 : decode bi_Apart 13 = .ok (.bipush 32, 2) := by decide +kernel
theorem di_Apart_15 : decode bi_Apart 15 = .ok (.newarray .int, 2) := by decide +kernel
theorem di_Apart_17 : decode bi_Apart 17 = .ok (.putfield 15, 3) := by decide +kernel
theorem di_Apart_20 : decode bi_Apart 20 = .ok (.aload_n 0, 1) := by decide +kernel
theorem di_Apart_21 : decode bi_Apart 21 = .ok (.bipush 6, 2) := by decide +kernel
theorem di_Apart_23 : decode bi_Apart 23 = .ok (.newarray .int, 2) := by decide +kernel
theorem di_Apart_25 : decode bi_Apart 25 = .ok (.putfield 18, 3) := by decide +kernel
theorem di_Apart_28 : decode bi_Apart 28 = .ok (.aload_n 0, 1) := by decide +kernel
theorem di_Apart_29 : decode bi_Apart 29 = .ok (.iconst (4), 1) := by decide +kernel
theorem di_Apart_30 : decode bi_Apart 30 = .ok (.newarray .int, 2) := by decide +kernel
theorem di_Apart_32 : decode bi_Apart 32 = .ok (.putfield 21, 3) := by decide +kernel
theorem di_Apart_35 : decode bi_Apart 35 = .ok (.aload_n 0, 1) := by decide +kernel
theorem di_Apart_36 : decode bi_Apart 36 = .ok (.aload_n 1, 1) := by decide +kernel
theorem di_Apart_37 : decode bi_Apart 37 = .ok (.putfield 24, 3) := by decide +kernel
theorem di_Apart_40 : decode bi_Apart 40 = .ok (.aload_n 0, 1) := by decide +kernel
theorem di_Apart_41 : decode bi_Apart 41 = .ok (.aload_n 2, 1) := by decide +kernel
theorem di_Apart_42 : decode bi_Apart 42 = .ok (.putfield 28, 3) := by decide +kernel
theorem di_Apart_45 : decode bi_Apart 45 = .ok (.aload_n 0, 1) := by decide +kernel
theorem di_Apart_46 : decode bi_Apart 46 = .ok (.aload_n 3, 1) := by decide +kernel
theorem di_Apart_47 : decode bi_Apart 47 = .ok (.putfield 32, 3) := by decide +kernel
theorem di_Apart_50 : decode bi_Apart 50 = .ok (.return_, 1) := by decide +kernel
abbrev wn_Apart (a1 a2 a3 : Nat) (tc : Nat → ClassId) (h0 : Nat) (r : Nat → Nat → Nat) : va_W := (h0, .inr (0, [.ref a1, .ref a2, .ref a3, .ref (r 0 0), .ref (r 0 1), .ref (r 0 2), .int 0, .ref (r 0 3)])) :: [(r 0 0, .inl (tc 0, 24, .inl (fun _ => 0))), (r 0 1, .inl (tc 0, 32, .inl (fun _ => 0))), (r 0 2, .inl (tc 0, 6, .inl (fun _ => 0))), (r 0 3, .inl (tc 0, 4, .inl (fun _ => 0)))]
set_option maxHeartbeats 4000000 in
set_option maxRecDepth 100000 in
theorem ct_Apart (l : Launch) (a1 a2 a3 : Nat) : ax_CT0 l yi_Apart bi_Apart 4 0 f0_Apart 4 66 1 40 (fun _ => True) [.ref a1, .ref a2, .ref a3] (wn_Apart a1 a2 a3) := by
  intro D tc h0 sz
  refine Met.ofW (cc := bi_Apart) (maxL := 4) (ret := none) (by decide) rfl ?_
  intro p e s m args below meth c s₁ B hml hv
  obtain ⟨rfl, hsz, hP, hK, hD0, hex⟩ := hv
  have hx := B.exec
  have hb := B.bytes
  have hr := B.returns
  have hts : ∀ w ∈ ax_wsA, w.before _ s = true := fun w hw => atoms_spec (ws := ax_wc yi_Apart bi_Apart 4) B.pre w (List.mem_cons_of_mem _ hw)
  have hown : s.vm.findClass "InnChanged$Apart" = some m.cls := findClass_of_methodNamed B.named
  have hin : meth.name = "<init>" := (name_of_methodNamed B.named B.method).1
  subst hsz
  have hD := hD0.self (sz := s.heap.size)
  generalize hAe : va_A [(h0, (.inr (0, f0_Apart) : va_E))] s.heap.size = A at hD ⊢
  have hA : ∀ q : Nat, s.heap.size ≤ q → A q := fun q h => by rw [← hAe]; exact Or.inr h
  have hS : va_S A s.heap s.heap [] := va_S.rf
  have hP : va_P D ax_cl ((h0, .inr (0, [.null, .null, .null, .null, .null, .null, .int 0, .null])) :: []) s.heap := hP
  have hD : va_D A ((h0, .inr (0, [.null, .null, .null, .null, .null, .null, .int 0, .null])) :: []) := hD
  have hl := lv_entry ([.ref h0, .ref a1, .ref a2, .ref a3]) (n := 4) (Nat.le_of_ble_eq_true rfl)
  rw [lg_entry_eq]
  generalize (lg_sl ([.ref h0, .ref a1, .ref a2, .ref a3]) ++ List.replicate (4 - (lg_sl ([.ref h0, .ref a1, .ref a2, .ref a3])).length) Slot.unset).toArray = ls at hl ⊢
  have hl : lv_has ls 4 [(0, .ref h0), (1, .ref a1), (2, .ref a2), (3, .ref a3)] := hl
  refine lv_aload_n hx hb di_Apart_0 rfl (lv_at hl 0 rfl) ?_
  refine W.objInit hx hb hown (hts _ (ax_inM (i := 365) (w := .methodLink "InnChanged$Apart" 3 objectInit) (by decide +kernel))) (hts _ (ax_inM (i := 101) (by decide +kernel))) (hts _ (ax_inM (i := 102) (by decide +kernel))) rfl (by rw [hml]; exact hl.1) rfl di_Apart_1 (Nat.le_of_ble_eq_true rfl) (Nat.le_of_ble_eq_true rfl) ?_
  refine W.eq (g2 := F0 m 4 ls []) rfl ?_
  refine lv_aload_n hx hb di_Apart_4 rfl (lv_at hl 0 rfl) ?_
  refine lv_bipush (v := 24) hx hb di_Apart_5 (by decide) ?_
  refine ax_newI (N' := 24) hx hb hts hK hP hD hS hA (by decide) (by decide) (by decide) (Nat.le_of_ble_eq_true rfl) (Nat.le_of_ble_eq_true rfl) di_Apart_7 (fun q1 H hP hD hS => ?_)
  have hP : va_P D ax_cl ((h0, .inr (0, [.null, .null, .null, .null, .null, .null, .int 0, .null])) :: [(q1, .inl (tc 0, 24, .inl (fun _ => 0)))]) H := hP
  have hD : va_D A ((h0, .inr (0, [.null, .null, .null, .null, .null, .null, .int 0, .null])) :: [(q1, .inl (tc 0, 24, .inl (fun _ => 0)))]) := hD
  refine ax_pf (own := "InnChanged$Apart") (ci := 0) (k := 3) (ty := .array .int) hx hb hts hown hin hK hP hD hS rfl (by decide) (ax_inM (i := 369) (by decide +kernel)) rfl (by decide +kernel) rfl rfl (Nat.le_of_ble_eq_true rfl) di_Apart_9 (fun H locs hP hD hS => ?_)
  have hP : va_P D ax_cl ((h0, .inr (0, [.null, .null, .null, .ref q1, .null, .null, .int 0, .null])) :: [(q1, .inl (tc 0, 24, .inl (fun _ => 0)))]) H := hP
  have hD : va_D A ((h0, .inr (0, [.null, .null, .null, .ref q1, .null, .null, .int 0, .null])) :: [(q1, .inl (tc 0, 24, .inl (fun _ => 0)))]) := hD
  refine lv_aload_n hx hb di_Apart_12 rfl (lv_at hl 0 rfl) ?_
  refine lv_bipush (v := 32) hx hb di_Apart_13 (by decide) ?_
  refine ax_newI (N' := 32) hx hb hts hK hP hD hS hA (by decide) (by decide) (by decide) (Nat.le_of_ble_eq_true rfl) (Nat.le_of_ble_eq_true rfl) di_Apart_15 (fun q2 H hP hD hS => ?_)
  have hP : va_P D ax_cl ((h0, .inr (0, [.null, .null, .null, .ref q1, .null, .null, .int 0, .null])) :: [(q1, .inl (tc 0, 24, .inl (fun _ => 0))), (q2, .inl (tc 0, 32, .inl (fun _ => 0)))]) H := hP
  have hD : va_D A ((h0, .inr (0, [.null, .null, .null, .ref q1, .null, .null, .int 0, .null])) :: [(q1, .inl (tc 0, 24, .inl (fun _ => 0))), (q2, .inl (tc 0, 32, .inl (fun _ => 0)))]) := hD
  refine ax_pf (own := "InnChanged$Apart") (ci := 0) (k := 4) (ty := .array .int) hx hb hts hown hin hK hP hD hS rfl (by decide) (ax_inM (i := 370) (by decide +kernel)) rfl (by decide +kernel) rfl rfl (Nat.le_of_ble_eq_true rfl) di_Apart_17 (fun H locs hP hD hS => ?_)
  have hP : va_P D ax_cl ((h0, .inr (0, [.null, .null, .null, .ref q1, .ref q2, .null, .int 0, .null])) :: [(q1, .inl (tc 0, 24, .inl (fun _ => 0))), (q2, .inl (tc 0, 32, .inl (fun _ => 0)))]) H := hP
  have hD : va_D A ((h0, .inr (0, [.null, .null, .null, .ref q1, .ref q2, .null, .int 0, .null])) :: [(q1, .inl (tc 0, 24, .inl (fun _ => 0))), (q2, .inl (tc 0, 32, .inl (fun _ => 0)))]) := hD
  refine lv_aload_n hx hb di_Apart_20 rfl (lv_at hl 0 rfl) ?_
  refine lv_bipush (v := 6) hx hb di_Apart_21 (by decide) ?_
  refine ax_newI (N' := 6) hx hb hts hK hP hD hS hA (by decide) (by decide) (by decide) (Nat.le_of_ble_eq_true rfl) (Nat.le_of_ble_eq_true rfl) di_Apart_23 (fun q3 H hP hD hS => ?_)
  have hP : va_P D ax_cl ((h0, .inr (0, [.null, .null, .null, .ref q1, .ref q2, .null, .int 0, .null])) :: [(q1, .inl (tc 0, 24, .inl (fun _ => 0))), (q2, .inl (tc 0, 32, .inl (fun _ => 0))), (q3, .inl (tc 0, 6, .inl (fun _ => 0)))]) H := hP
  have hD : va_D A ((h0, .inr (0, [.null, .null, .null, .ref q1, .ref q2, .null, .int 0, .null])) :: [(q1, .inl (tc 0, 24, .inl (fun _ => 0))), (q2, .inl (tc 0, 32, .inl (fun _ => 0))), (q3, .inl (tc 0, 6, .inl (fun _ => 0)))]) := hD
  refine ax_pf (own := "InnChanged$Apart") (ci := 0) (k := 5) (ty := .array .int) hx hb hts hown hin hK hP hD hS rfl (by decide) (ax_inM (i := 371) (by decide +kernel)) rfl (by decide +kernel) rfl rfl (Nat.le_of_ble_eq_true rfl) di_Apart_25 (fun H locs hP hD hS => ?_)
  have hP : va_P D ax_cl ((h0, .inr (0, [.null, .null, .null, .ref q1, .ref q2, .ref q3, .int 0, .null])) :: [(q1, .inl (tc 0, 24, .inl (fun _ => 0))), (q2, .inl (tc 0, 32, .inl (fun _ => 0))), (q3, .inl (tc 0, 6, .inl (fun _ => 0)))]) H := hP
  have hD : va_D A ((h0, .inr (0, [.null, .null, .null, .ref q1, .ref q2, .ref q3, .int 0, .null])) :: [(q1, .inl (tc 0, 24, .inl (fun _ => 0))), (q2, .inl (tc 0, 32, .inl (fun _ => 0))), (q3, .inl (tc 0, 6, .inl (fun _ => 0)))]) := hD
  refine lv_aload_n hx hb di_Apart_28 rfl (lv_at hl 0 rfl) ?_
  refine lv_iconst (v := 4) hx hb di_Apart_29 (by decide) ?_
  refine ax_newI (N' := 4) hx hb hts hK hP hD hS hA (by decide) (by decide) (by decide) (Nat.le_of_ble_eq_true rfl) (Nat.le_of_ble_eq_true rfl) di_Apart_30 (fun q4 H hP hD hS => ?_)
  have hP : va_P D ax_cl ((h0, .inr (0, [.null, .null, .null, .ref q1, .ref q2, .ref q3, .int 0, .null])) :: [(q1, .inl (tc 0, 24, .inl (fun _ => 0))), (q2, .inl (tc 0, 32, .inl (fun _ => 0))), (q3, .inl (tc 0, 6, .inl (fun _ => 0))), (q4, .inl (tc 0, 4, .inl (fun _ => 0)))]) H := hP
  have hD : va_D A ((h0, .inr (0, [.null, .null, .null, .ref q1, .ref q2, .ref q3, .int 0, .null])) :: [(q1, .inl (tc 0, 24, .inl (fun _ => 0))), (q2, .inl (tc 0, 32, .inl (fun _ => 0))), (q3, .inl (tc 0, 6, .inl (fun _ => 0))), (q4, .inl (tc 0, 4, .inl (fun _ => 0)))]) := hD
  refine ax_pf (own := "InnChanged$Apart") (ci := 0) (k := 7) (ty := .array .int) hx hb hts hown hin hK hP hD hS rfl (by decide) (ax_inM (i := 373) (by decide +kernel)) rfl (by decide +kernel) rfl rfl (Nat.le_of_ble_eq_true rfl) di_Apart_32 (fun H locs hP hD hS => ?_)
  have hP : va_P D ax_cl ((h0, .inr (0, [.null, .null, .null, .ref q1, .ref q2, .ref q3, .int 0, .ref q4])) :: [(q1, .inl (tc 0, 24, .inl (fun _ => 0))), (q2, .inl (tc 0, 32, .inl (fun _ => 0))), (q3, .inl (tc 0, 6, .inl (fun _ => 0))), (q4, .inl (tc 0, 4, .inl (fun _ => 0)))]) H := hP
  have hD : va_D A ((h0, .inr (0, [.null, .null, .null, .ref q1, .ref q2, .ref q3, .int 0, .ref q4])) :: [(q1, .inl (tc 0, 24, .inl (fun _ => 0))), (q2, .inl (tc 0, 32, .inl (fun _ => 0))), (q3, .inl (tc 0, 6, .inl (fun _ => 0))), (q4, .inl (tc 0, 4, .inl (fun _ => 0)))]) := hD
  refine lv_aload_n hx hb di_Apart_35 rfl (lv_at hl 0 rfl) ?_
  refine lv_aload_n hx hb di_Apart_36 rfl (lv_at hl 1 rfl) ?_
  refine ax_pf (own := "InnChanged$Apart") (ci := 0) (k := 0) (ty := .object "InnChanged$Told") hx hb hts hown hin hK hP hD hS rfl (by decide) (ax_inM (i := 366) (by decide +kernel)) rfl (by decide +kernel) rfl rfl (Nat.le_of_ble_eq_true rfl) di_Apart_37 (fun H locs hP hD hS => ?_)
  have hP : va_P D ax_cl ((h0, .inr (0, [.ref a1, .null, .null, .ref q1, .ref q2, .ref q3, .int 0, .ref q4])) :: [(q1, .inl (tc 0, 24, .inl (fun _ => 0))), (q2, .inl (tc 0, 32, .inl (fun _ => 0))), (q3, .inl (tc 0, 6, .inl (fun _ => 0))), (q4, .inl (tc 0, 4, .inl (fun _ => 0)))]) H := hP
  have hD : va_D A ((h0, .inr (0, [.ref a1, .null, .null, .ref q1, .ref q2, .ref q3, .int 0, .ref q4])) :: [(q1, .inl (tc 0, 24, .inl (fun _ => 0))), (q2, .inl (tc 0, 32, .inl (fun _ => 0))), (q3, .inl (tc 0, 6, .inl (fun _ => 0))), (q4, .inl (tc 0, 4, .inl (fun _ => 0)))]) := hD
  refine lv_aload_n hx hb di_Apart_40 rfl (lv_at hl 0 rfl) ?_
  refine lv_aload_n hx hb di_Apart_41 rfl (lv_at hl 2 rfl) ?_
  refine ax_pf (own := "InnChanged$Apart") (ci := 0) (k := 1) (ty := .object "InnChanged$Now") hx hb hts hown hin hK hP hD hS rfl (by decide) (ax_inM (i := 367) (by decide +kernel)) rfl (by decide +kernel) rfl rfl (Nat.le_of_ble_eq_true rfl) di_Apart_42 (fun H locs hP hD hS => ?_)
  have hP : va_P D ax_cl ((h0, .inr (0, [.ref a1, .ref a2, .null, .ref q1, .ref q2, .ref q3, .int 0, .ref q4])) :: [(q1, .inl (tc 0, 24, .inl (fun _ => 0))), (q2, .inl (tc 0, 32, .inl (fun _ => 0))), (q3, .inl (tc 0, 6, .inl (fun _ => 0))), (q4, .inl (tc 0, 4, .inl (fun _ => 0)))]) H := hP
  have hD : va_D A ((h0, .inr (0, [.ref a1, .ref a2, .null, .ref q1, .ref q2, .ref q3, .int 0, .ref q4])) :: [(q1, .inl (tc 0, 24, .inl (fun _ => 0))), (q2, .inl (tc 0, 32, .inl (fun _ => 0))), (q3, .inl (tc 0, 6, .inl (fun _ => 0))), (q4, .inl (tc 0, 4, .inl (fun _ => 0)))]) := hD
  refine lv_aload_n hx hb di_Apart_45 rfl (lv_at hl 0 rfl) ?_
  refine lv_aload_n hx hb di_Apart_46 rfl (lv_at hl 3 rfl) ?_
  refine ax_pf (own := "InnChanged$Apart") (ci := 0) (k := 2) (ty := .object "InnChanged$Fits") hx hb hts hown hin hK hP hD hS rfl (by decide) (ax_inM (i := 368) (by decide +kernel)) rfl (by decide +kernel) rfl rfl (Nat.le_of_ble_eq_true rfl) di_Apart_47 (fun H locs hP hD hS => ?_)
  have hP : va_P D ax_cl ((h0, .inr (0, [.ref a1, .ref a2, .ref a3, .ref q1, .ref q2, .ref q3, .int 0, .ref q4])) :: [(q1, .inl (tc 0, 24, .inl (fun _ => 0))), (q2, .inl (tc 0, 32, .inl (fun _ => 0))), (q3, .inl (tc 0, 6, .inl (fun _ => 0))), (q4, .inl (tc 0, 4, .inl (fun _ => 0)))]) H := hP
  have hD : va_D A ((h0, .inr (0, [.ref a1, .ref a2, .ref a3, .ref q1, .ref q2, .ref q3, .int 0, .ref q4])) :: [(q1, .inl (tc 0, 24, .inl (fun _ => 0))), (q2, .inl (tc 0, 32, .inl (fun _ => 0))), (q3, .inl (tc 0, 6, .inl (fun _ => 0))), (q4, .inl (tc 0, 4, .inl (fun _ => 0)))]) := hD
  refine W.widen (k := 4) (n := 66) (Nat.le_of_ble_eq_true rfl) (Nat.le_of_ble_eq_true rfl) ?_
  exact W.vret hx hb hr (fun t ht hW => ⟨⟨(fun _ k => [q1, q2, q3, q4].getD k 0), rfl, trivial, by rw [ht]; exact hP, va_K.moved hW.alike hK, hD⟩, hS.F ht⟩) hS.2.2 di_Apart_50
def yi_Came : MethodName := ⟨"InnChanged$Came", "<init>", "(LInnChanged$Told;LInnChanged$Now;LInnChanged$Fits;)V"⟩
abbrev bi_Came : ByteArray := prog_3_method_1_code
abbrev f0_Came : List Value := [.null, .null, .null, .null, .int 0, .null, .int 0, .int 0, .int 0]
theorem di_Came_0 : decode bi_Came 0 = .ok (.aload_n 0, 1) := by decide +kernel
theorem di_Came_1 : decode bi_Came 1 = .ok (.invokespecial 3, 3) := by decide +kernel
theorem di_Came_4 : decode bi_Came 4 = .ok (.aload_n 0, 1) := by decide +kernel
theorem di_Came_5 : decode bi_Came 5 = .ok (.sipush 720, 3) := by decide +kernel
theorem di_Came_8 : decode bi_Came 8 = .ok (.newarray .int, 2) := by decide +kernel
theorem di_Came_10 : decode bi_Came 10 = .ok (.putfield 9, 3) := by decide +kernel
theorem di_Came_13 : decode bi_Came 13 = .ok (.aload_n 0, 1) := by decide +kernel
theorem di_Came_14 : decode bi_Came 14 = .ok (.sipush 720, 3) := by decide +kernel
theorem di_Came_17 : decode bi_Came 17 = .ok (.newarray .int, 2) := by decide +kernel
theorem di_Came_19 : decode bi_Came 19 = .ok (.putfield 15, 3) := by decide +kernel
theorem di_Came_22 : decode bi_Came 22 = .ok (.aload_n 0, 1) := by decide +kernel
theorem di_Came_23 : decode bi_Came 23 = .ok (.aload_n 1, 1) := by decide +kernel
theorem di_Came_24 : decode bi_Came 24 = .ok (.putfield 18, 3) := by decide +kernel
theorem di_Came_27 : decode bi_Came 27 = .ok (.aload_n 0, 1) := by decide +kernel
theorem di_Came_28 : decode bi_Came 28 = .ok (.aload_n 2, 1) := by decide +kernel
theorem di_Came_29 : decode bi_Came 29 = .ok (.putfield 22, 3) := by decide +kernel
theorem di_Came_32 : decode bi_Came 32 = .ok (.aload_n 0, 1) := by decide +kernel
theorem di_Came_33 : decode bi_Came 33 = .ok (.aload_n 3, 1) := by decide +kernel
theorem di_Came_34 : decode bi_Came 34 = .ok (.putfield 26, 3) := by decide +kernel
theorem di_Came_37 : decode bi_Came 37 = .ok (.aload_n 0, 1) := by decide +kernel
theorem di_Came_38 : decode bi_Came 38 = .ok (.iconst (-1), 1) := by decide +kernel
theorem di_Came_39 : decode bi_Came 39 = .ok (.putfield 30, 3) := by decide +kernel
theorem di_Came_42 : decode bi_Came 42 = .ok (.return_, 1) := by decide +kernel
abbrev wn_Came (a1 a2 a3 : Nat) (tc : Nat → ClassId) (h0 : Nat) (r : Nat → Nat → Nat) : va_W := (h0, .inr (1, [.ref a1, .ref a2, .ref a3, .ref (r 0 0), .int 0, .ref (r 0 1), .int (-1), .int 0, .int 0])) :: [(r 0 0, .inl (tc 0, 720, .inl (fun _ => 0))), (r 0 1, .inl (tc 0, 720, .inl (fun _ => 0)))]
set_option maxHeartbeats 4000000 in
set_option maxRecDepth 100000 in
theorem ct_Came (l : Launch) (a1 a2 a3 : Nat) : ax_CT0 l yi_Came bi_Came 4 1 f0_Came 2 1440 1 40 (fun _ => True) [.ref a1, .ref a2, .ref a3] (wn_Came a1 a2 a3) := by
  intro D tc h0 sz
  refine Met.ofW (cc := bi_Came) (maxL := 4) (ret := none) (by decide) rfl ?_
  intro p e s m args below meth c s₁ B hml hv
  obtain ⟨rfl, hsz, hP, hK, hD0, hex⟩ := hv
  have hx := B.exec
  have hb := B.bytes
  have hr := B.returns
  have hts : ∀ w ∈ ax_wsA, w.before _ s = true := fun w hw => atoms_spec (ws := ax_wc yi_Came bi_Came 4) B.pre w (List.mem_cons_of_mem _ hw)
  have hown : s.vm.findClass "InnChanged$Came" = some m.cls := findClass_of_methodNamed B.named
  have hin : meth.name = "<init>" := (name_of_methodNamed B.named B.method).1
  subst hsz
  have hD := hD0.self (sz := s.heap.size)
  generalize hAe : va_A [(h0, (.inr (1, f0_Came) : va_E))] s.heap.size = A at hD ⊢
  have hA : ∀ q : Nat, s.heap.size ≤ q → A q := fun q h => by rw [← hAe]; exact Or.inr h
  have hS : va_S A s.heap s.heap [] := va_S.rf
  have hP : va_P D ax_cl ((h0, .inr (1, [.null, .null, .null, .null, .int 0, .null, .int 0, .int 0, .int 0])) :: []) s.heap := hP
  have hD : va_D A ((h0, .inr (1, [.null, .null, .null, .null, .int 0, .null, .int 0, .int 0, .int 0])) :: []) := hD
  have hl := lv_entry ([.ref h0, .ref a1, .ref a2, .ref a3]) (n := 4) (Nat.le_of_ble_eq_true rfl)
  rw [lg_entry_eq]
  generalize (lg_sl ([.ref h0, .ref a1, .ref a2, .ref a3]) ++ List.replicate (4 - (lg_sl ([.ref h0, .ref a1, .ref a2, .ref a3])).length) Slot.unset).toArray = ls at hl ⊢
  have hl : lv_has ls 4 [(0, .ref h0), (1, .ref a1), (2, .ref a2), (3, .ref a3)] := hl
  refine lv_aload_n hx hb di_Came_0 rfl (lv_at hl 0 rfl) ?_
  refine W.objInit hx hb hown (hts _ (ax_inM (i := 397) (w := .methodLink "InnChanged$Came" 3 objectInit) (by decide +kernel))) (hts _ (ax_inM (i := 101) (by decide +kernel))) (hts _ (ax_inM (i := 102) (by decide +kernel))) rfl (by rw [hml]; exact hl.1) rfl di_Came_1 (Nat.le_of_ble_eq_true rfl) (Nat.le_of_ble_eq_true rfl) ?_
  refine W.eq (g2 := F0 m 4 ls []) rfl ?_
  refine lv_aload_n hx hb di_Came_4 rfl (lv_at hl 0 rfl) ?_
  refine lv_sipush (v := 720) hx hb di_Came_5 (by decide) ?_
  refine ax_newI (N' := 720) hx hb hts hK hP hD hS hA (by decide) (by decide) (by decide) (Nat.le_of_ble_eq_true rfl) (Nat.le_of_ble_eq_true rfl) di_Came_8 (fun q1 H hP hD hS => ?_)
  have hP : va_P D ax_cl ((h0, .inr (1, [.null, .null, .null, .null, .int 0, .null, .int 0, .int 0, .int 0])) :: [(q1, .inl (tc 0, 720, .inl (fun _ => 0)))]) H := hP
  have hD : va_D A ((h0, .inr (1, [.null, .null, .null, .null, .int 0, .null, .int 0, .int 0, .int 0])) :: [(q1, .inl (tc 0, 720, .inl (fun _ => 0)))]) := hD
  refine ax_pf (own := "InnChanged$Came") (ci := 1) (k := 3) (ty := .array .int) hx hb hts hown hin hK hP hD hS rfl (by decide) (ax_inM (i := 401) (by decide +kernel)) rfl (by decide +kernel) rfl rfl (Nat.le_of_ble_eq_true rfl) di_Came_10 (fun H locs hP hD hS => ?_)
  have hP : va_P D ax_cl ((h0, .inr (1, [.null, .null, .null, .ref q1, .int 0, .null, .int 0, .int 0, .int 0])) :: [(q1, .inl (tc 0, 720, .inl (fun _ => 0)))]) H := hP
  have hD : va_D A ((h0, .inr (1, [.null, .null, .null, .ref q1, .int 0, .null, .int 0, .int 0, .int 0])) :: [(q1, .inl (tc 0, 720, .inl (fun _ => 0)))]) := hD
  refine lv_aload_n hx hb di_Came_13 rfl (lv_at hl 0 rfl) ?_
  refine lv_sipush (v := 720) hx hb di_Came_14 (by decide) ?_
  refine ax_newI (N' := 720) hx hb hts hK hP hD hS hA (by decide) (by decide) (by decide) (Nat.le_of_ble_eq_true rfl) (Nat.le_of_ble_eq_true rfl) di_Came_17 (fun q2 H hP hD hS => ?_)
  have hP : va_P D ax_cl ((h0, .inr (1, [.null, .null, .null, .ref q1, .int 0, .null, .int 0, .int 0, .int 0])) :: [(q1, .inl (tc 0, 720, .inl (fun _ => 0))), (q2, .inl (tc 0, 720, .inl (fun _ => 0)))]) H := hP
  have hD : va_D A ((h0, .inr (1, [.null, .null, .null, .ref q1, .int 0, .null, .int 0, .int 0, .int 0])) :: [(q1, .inl (tc 0, 720, .inl (fun _ => 0))), (q2, .inl (tc 0, 720, .inl (fun _ => 0)))]) := hD
  refine ax_pf (own := "InnChanged$Came") (ci := 1) (k := 5) (ty := .array .int) hx hb hts hown hin hK hP hD hS rfl (by decide) (ax_inM (i := 403) (by decide +kernel)) rfl (by decide +kernel) rfl rfl (Nat.le_of_ble_eq_true rfl) di_Came_19 (fun H locs hP hD hS => ?_)
  have hP : va_P D ax_cl ((h0, .inr (1, [.null, .null, .null, .ref q1, .int 0, .ref q2, .int 0, .int 0, .int 0])) :: [(q1, .inl (tc 0, 720, .inl (fun _ => 0))), (q2, .inl (tc 0, 720, .inl (fun _ => 0)))]) H := hP
  have hD : va_D A ((h0, .inr (1, [.null, .null, .null, .ref q1, .int 0, .ref q2, .int 0, .int 0, .int 0])) :: [(q1, .inl (tc 0, 720, .inl (fun _ => 0))), (q2, .inl (tc 0, 720, .inl (fun _ => 0)))]) := hD
  refine lv_aload_n hx hb di_Came_22 rfl (lv_at hl 0 rfl) ?_
  refine lv_aload_n hx hb di_Came_23 rfl (lv_at hl 1 rfl) ?_
  refine ax_pf (own := "InnChanged$Came") (ci := 1) (k := 0) (ty := .object "InnChanged$Told") hx hb hts hown hin hK hP hD hS rfl (by decide) (ax_inM (i := 398) (by decide +kernel)) rfl (by decide +kernel) rfl rfl (Nat.le_of_ble_eq_true rfl) di_Came_24 (fun H locs hP hD hS => ?_)
  have hP : va_P D ax_cl ((h0, .inr (1, [.ref a1, .null, .null, .ref q1, .int 0, .ref q2, .int 0, .int 0, .int 0])) :: [(q1, .inl (tc 0, 720, .inl (fun _ => 0))), (q2, .inl (tc 0, 720, .inl (fun _ => 0)))]) H := hP
  have hD : va_D A ((h0, .inr (1, [.ref a1, .null, .null, .ref q1, .int 0, .ref q2, .int 0, .int 0, .int 0])) :: [(q1, .inl (tc 0, 720, .inl (fun _ => 0))), (q2, .inl (tc 0, 720, .inl (fun _ => 0)))]) := hD
  refine lv_aload_n hx hb di_Came_27 rfl (lv_at hl 0 rfl) ?_
  refine lv_aload_n hx hb di_Came_28 rfl (lv_at hl 2 rfl) ?_
  refine ax_pf (own := "InnChanged$Came") (ci := 1) (k := 1) (ty := .object "InnChanged$Now") hx hb hts hown hin hK hP hD hS rfl (by decide) (ax_inM (i := 399) (by decide +kernel)) rfl (by decide +kernel) rfl rfl (Nat.le_of_ble_eq_true rfl) di_Came_29 (fun H locs hP hD hS => ?_)
  have hP : va_P D ax_cl ((h0, .inr (1, [.ref a1, .ref a2, .null, .ref q1, .int 0, .ref q2, .int 0, .int 0, .int 0])) :: [(q1, .inl (tc 0, 720, .inl (fun _ => 0))), (q2, .inl (tc 0, 720, .inl (fun _ => 0)))]) H := hP
  have hD : va_D A ((h0, .inr (1, [.ref a1, .ref a2, .null, .ref q1, .int 0, .ref q2, .int 0, .int 0, .int 0])) :: [(q1, .inl (tc 0, 720, .inl (fun _ => 0))), (q2, .inl (tc 0, 720, .inl (fun _ => 0)))]) := hD
  refine lv_aload_n hx hb di_Came_32 rfl (lv_at hl 0 rfl) ?_
  refine lv_aload_n hx hb di_Came_33 rfl (lv_at hl 3 rfl) ?_
  refine ax_pf (own := "InnChanged$Came") (ci := 1) (k := 2) (ty := .object "InnChanged$Fits") hx hb hts hown hin hK hP hD hS rfl (by decide) (ax_inM (i := 400) (by decide +kernel)) rfl (by decide +kernel) rfl rfl (Nat.le_of_ble_eq_true rfl) di_Came_34 (fun H locs hP hD hS => ?_)
  have hP : va_P D ax_cl ((h0, .inr (1, [.ref a1, .ref a2, .ref a3, .ref q1, .int 0, .ref q2, .int 0, .int 0, .int 0])) :: [(q1, .inl (tc 0, 720, .inl (fun _ => 0))), (q2, .inl (tc 0, 720, .inl (fun _ => 0)))]) H := hP
  have hD : va_D A ((h0, .inr (1, [.ref a1, .ref a2, .ref a3, .ref q1, .int 0, .ref q2, .int 0, .int 0, .int 0])) :: [(q1, .inl (tc 0, 720, .inl (fun _ => 0))), (q2, .inl (tc 0, 720, .inl (fun _ => 0)))]) := hD
  refine lv_aload_n hx hb di_Came_37 rfl (lv_at hl 0 rfl) ?_
  refine lv_iconst (v := -1) hx hb di_Came_38 (by decide) ?_
  refine ax_pf (own := "InnChanged$Came") (ci := 1) (k := 6) (ty := .int) hx hb hts hown hin hK hP hD hS rfl (by decide) (ax_inM (i := 404) (by decide +kernel)) rfl (by decide +kernel) rfl rfl (Nat.le_of_ble_eq_true rfl) di_Came_39 (fun H locs hP hD hS => ?_)
  have hP : va_P D ax_cl ((h0, .inr (1, [.ref a1, .ref a2, .ref a3, .ref q1, .int 0, .ref q2, .int (-1), .int 0, .int 0])) :: [(q1, .inl (tc 0, 720, .inl (fun _ => 0))), (q2, .inl (tc 0, 720, .inl (fun _ => 0)))]) H := hP
  have hD : va_D A ((h0, .inr (1, [.ref a1, .ref a2, .ref a3, .ref q1, .int 0, .ref q2, .int (-1), .int 0, .int 0])) :: [(q1, .inl (tc 0, 720, .inl (fun _ => 0))), (q2, .inl (tc 0, 720, .inl (fun _ => 0)))]) := hD
  refine W.widen (k := 2) (n := 1440) (Nat.le_of_ble_eq_true rfl) (Nat.le_of_ble_eq_true rfl) ?_
  exact W.vret hx hb hr (fun t ht hW => ⟨⟨(fun _ k => [q1, q2].getD k 0), rfl, trivial, by rw [ht]; exact hP, va_K.moved hW.alike hK, hD⟩, hS.F ht⟩) hS.2.2 di_Came_42
def yi_Model : MethodName := ⟨"InnChangedModel", "<init>", "()V"⟩
abbrev bi_Model : ByteArray := prog_12_method_1_code
abbrev f0_Model : List Value := [.int 0, .null, .int 0, .null, .int 0, .null, .int 0, .null, .int 0, .int 0, .long 0, .int 0, .int 0, .int 0, .int 0, .int 0, .int 0, .int 0, .null, .null, .null, .null, .int 0, .null, .null, .null, .int 0, .null, .null]
theorem di_Model_0 : decode bi_Model 0 = .ok (.aload_n 0, 1) := by decide +kernel
theorem di_Model_1 : decode bi_Model 1 = .ok (.invokespecial 1, 3) := by decide +kernel
theorem di_Model_4 : decode bi_Model 4 = .ok (.aload_n 0, 1) := by decide +kernel
theorem di_Model_5 : decode bi_Model 5 = .ok (.iconst (5), 1) := by decide +kernel
theorem di_Model_6 : decode bi_Model 6 = .ok (.newarray .int, 2) := by decide +kernel
theorem di_Model_8 : decode bi_Model 8 = .ok (.putfield 7, 3) := by decide +kernel
theorem di_Model_11 : decode bi_Model 11 = .ok (.aload_n 0, 1) := by decide +kernel
theorem di_Model_12 : decode bi_Model 12 = .ok (.bipush 30, 2) := by decide +kernel
theorem di_Model_14 : decode bi_Model 14 = .ok (.newarray .int, 2) := by decide +kernel
theorem di_Model_16 : decode bi_Model 16 = .ok (.putfield 13, 3) := by decide +kernel
theorem di_Model_19 : decode bi_Model 19 = .ok (.aload_n 0, 1) := by decide +kernel
theorem di_Model_20 : decode bi_Model 20 = .ok (.bipush 6, 2) := by decide +kernel
theorem di_Model_22 : decode bi_Model 22 = .ok (.newarray .int, 2) := by decide +kernel
theorem di_Model_24 : decode bi_Model 24 = .ok (.putfield 16, 3) := by decide +kernel
theorem di_Model_27 : decode bi_Model 27 = .ok (.aload_n 0, 1) := by decide +kernel
theorem di_Model_28 : decode bi_Model 28 = .ok (.sipush 160, 3) := by decide +kernel
theorem di_Model_31 : decode bi_Model 31 = .ok (.newarray .int, 2) := by decide +kernel
theorem di_Model_33 : decode bi_Model 33 = .ok (.putfield 19, 3) := by decide +kernel
theorem di_Model_36 : decode bi_Model 36 = .ok (.aload_n 0, 1) := by decide +kernel
theorem di_Model_37 : decode bi_Model 37 = .ok (.bipush 70, 2) := by decide +kernel
theorem di_Model_39 : decode bi_Model 39 = .ok (.newarray .int, 2) := by decide +kernel
theorem di_Model_41 : decode bi_Model 41 = .ok (.putfield 22, 3) := by decide +kernel
theorem di_Model_44 : decode bi_Model 44 = .ok (.aload_n 0, 1) := by decide +kernel
theorem di_Model_45 : decode bi_Model 45 = .ok (.bipush 27, 2) := by decide +kernel
theorem di_Model_47 : decode bi_Model 47 = .ok (.newarray .int, 2) := by decide +kernel
theorem di_Model_49 : decode bi_Model 49 = .ok (.putfield 25, 3) := by decide +kernel
theorem di_Model_52 : decode bi_Model 52 = .ok (.aload_n 0, 1) := by decide +kernel
theorem di_Model_53 : decode bi_Model 53 = .ok (.bipush 54, 2) := by decide +kernel
theorem di_Model_55 : decode bi_Model 55 = .ok (.newarray .int, 2) := by decide +kernel
theorem di_Model_57 : decode bi_Model 57 = .ok (.putfield 28, 3) := by decide +kernel
theorem di_Model_60 : decode bi_Model 60 = .ok (.aload_n 0, 1) := by decide +kernel
theorem di_Model_61 : decode bi_Model 61 = .ok (.iconst (2), 1) := by decide +kernel
theorem di_Model_62 : decode bi_Model 62 = .ok (.newarray .boolean, 2) := by decide +kernel
theorem di_Model_64 : decode bi_Model 64 = .ok (.putfield 31, 3) := by decide +kernel
theorem di_Model_67 : decode bi_Model 67 = .ok (.aload_n 0, 1) := by decide +kernel
theorem di_Model_68 : decode bi_Model 68 = .ok (.bipush 30, 2) := by decide +kernel
theorem di_Model_70 : decode bi_Model 70 = .ok (.newarray .int, 2) := by decide +kernel
theorem di_Model_72 : decode bi_Model 72 = .ok (.putfield 35, 3) := by decide +kernel
theorem di_Model_75 : decode bi_Model 75 = .ok (.aload_n 0, 1) := by decide +kernel
theorem di_Model_76 : decode bi_Model 76 = .ok (.bipush 6, 2) := by decide +kernel
theorem di_Model_78 : decode bi_Model 78 = .ok (.newarray .int, 2) := by decide +kernel
theorem di_Model_80 : decode bi_Model 80 = .ok (.putfield 38, 3) := by decide +kernel
theorem di_Model_83 : decode bi_Model 83 = .ok (.aload_n 0, 1) := by decide +kernel
theorem di_Model_84 : decode bi_Model 84 = .ok (.sipush 720, 3) := by decide +kernel
theorem di_Model_87 : decode bi_Model 87 = .ok (.newarray .int, 2) := by decide +kernel
theorem di_Model_89 : decode bi_Model 89 = .ok (.putfield 41, 3) := by decide +kernel
theorem di_Model_92 : decode bi_Model 92 = .ok (.aload_n 0, 1) := by decide +kernel
theorem di_Model_93 : decode bi_Model 93 = .ok (.sipush 5040, 3) := by decide +kernel
theorem di_Model_96 : decode bi_Model 96 = .ok (.newarray .int, 2) := by decide +kernel
theorem di_Model_98 : decode bi_Model 98 = .ok (.putfield 44, 3) := by decide +kernel
theorem di_Model_101 : decode bi_Model 101 = .ok (.aload_n 0, 1) := by decide +kernel
theorem di_Model_102 : decode bi_Model 102 = .ok (.sipush 720, 3) := by decide +kernel
theorem di_Model_105 : decode bi_Model 105 = .ok (.newarray .int, 2) := by decide +kernel
theorem di_Model_107 : decode bi_Model 107 = .ok (.putfield 47, 3) := by decide +kernel
theorem di_Model_110 : decode bi_Model 110 = .ok (.return_, 1) := by decide +kernel
abbrev wn_Model (tc : Nat → ClassId) (h0 : Nat) (r : Nat → Nat → Nat) : va_W := (h0, .inr (10, [.int 0, .ref (r 0 0), .int 0, .ref (r 0 1), .int 0, .ref (r 0 2), .int 0, .ref (r 0 3), .int 0, .int 0, .long 0, .int 0, .int 0, .int 0, .int 0, .int 0, .int 0, .int 0, .ref (r 0 4), .ref (r 0 5), .ref (r 0 6), .ref (r 0 7), .int 0, .ref (r 0 8), .ref (r 0 9), .ref (r 0 10), .int 0, .ref (r 0 11), .ref (r 0 12)])) :: [(r 0 0, .inl (tc 0, 5, .inl (fun _ => 0))), (r 0 1, .inl (tc 0, 30, .inl (fun _ => 0))), (r 0 2, .inl (tc 0, 6, .inl (fun _ => 0))), (r 0 3, .inl (tc 0, 160, .inl (fun _ => 0))), (r 0 4, .inl (tc 0, 70, .inl (fun _ => 0))), (r 0 5, .inl (tc 0, 27, .inl (fun _ => 0))), (r 0 6, .inl (tc 0, 54, .inl (fun _ => 0))), (r 0 7, .inl (tc 1, 2, .inl (fun _ => 0))), (r 0 8, .inl (tc 0, 30, .inl (fun _ => 0))), (r 0 9, .inl (tc 0, 6, .inl (fun _ => 0))), (r 0 10, .inl (tc 0, 720, .inl (fun _ => 0))), (r 0 11, .inl (tc 0, 5040, .inl (fun _ => 0))), (r 0 12, .inl (tc 0, 720, .inl (fun _ => 0)))]
set_option maxHeartbeats 4000000 in
set_option maxRecDepth 100000 in
theorem ct_Model (l : Launch) : ax_CT0 l yi_Model bi_Model 1 10 f0_Model 13 6870 1 40 (fun _ => True) [] (wn_Model) := by
  intro D tc h0 sz
  refine Met.ofW (cc := bi_Model) (maxL := 1) (ret := none) (by decide) rfl ?_
  intro p e s m args below meth c s₁ B hml hv
  obtain ⟨rfl, hsz, hP, hK, hD0, hex⟩ := hv
  have hx := B.exec
  have hb := B.bytes
  have hr := B.returns
  have hts : ∀ w ∈ ax_wsA, w.before _ s = true := fun w hw => atoms_spec (ws := ax_wc yi_Model bi_Model 1) B.pre w (List.mem_cons_of_mem _ hw)
  have hown : s.vm.findClass "InnChangedModel" = some m.cls := findClass_of_methodNamed B.named
  have hin : meth.name = "<init>" := (name_of_methodNamed B.named B.method).1
  subst hsz
  have hD := hD0.self (sz := s.heap.size)
  generalize hAe : va_A [(h0, (.inr (10, f0_Model) : va_E))] s.heap.size = A at hD ⊢
  have hA : ∀ q : Nat, s.heap.size ≤ q → A q := fun q h => by rw [← hAe]; exact Or.inr h
  have hS : va_S A s.heap s.heap [] := va_S.rf
  have hP : va_P D ax_cl ((h0, .inr (10, [.int 0, .null, .int 0, .null, .int 0, .null, .int 0, .null, .int 0, .int 0, .long 0, .int 0, .int 0, .int 0, .int 0, .int 0, .int 0, .int 0, .null, .null, .null, .null, .int 0, .null, .null, .null, .int 0, .null, .null])) :: []) s.heap := hP
  have hD : va_D A ((h0, .inr (10, [.int 0, .null, .int 0, .null, .int 0, .null, .int 0, .null, .int 0, .int 0, .long 0, .int 0, .int 0, .int 0, .int 0, .int 0, .int 0, .int 0, .null, .null, .null, .null, .int 0, .null, .null, .null, .int 0, .null, .null])) :: []) := hD
  have hl := lv_entry ([.ref h0]) (n := 1) (Nat.le_of_ble_eq_true rfl)
  rw [lg_entry_eq]
  generalize (lg_sl ([.ref h0]) ++ List.replicate (1 - (lg_sl ([.ref h0])).length) Slot.unset).toArray = ls at hl ⊢
  have hl : lv_has ls 1 [(0, .ref h0)] := hl
  refine lv_aload_n hx hb di_Model_0 rfl (lv_at hl 0 rfl) ?_
  refine W.objInit hx hb hown (hts _ (ax_inM (i := 1076) (w := .methodLink "InnChangedModel" 1 objectInit) (by decide +kernel))) (hts _ (ax_inM (i := 101) (by decide +kernel))) (hts _ (ax_inM (i := 102) (by decide +kernel))) rfl (by rw [hml]; exact hl.1) rfl di_Model_1 (Nat.le_of_ble_eq_true rfl) (Nat.le_of_ble_eq_true rfl) ?_
  refine W.eq (g2 := F0 m 4 ls []) rfl ?_
  refine lv_aload_n hx hb di_Model_4 rfl (lv_at hl 0 rfl) ?_
  refine lv_iconst (v := 5) hx hb di_Model_5 (by decide) ?_
  refine ax_newI (N' := 5) hx hb hts hK hP hD hS hA (by decide) (by decide) (by decide) (Nat.le_of_ble_eq_true rfl) (Nat.le_of_ble_eq_true rfl) di_Model_6 (fun q1 H hP hD hS => ?_)
  have hP : va_P D ax_cl ((h0, .inr (10, [.int 0, .null, .int 0, .null, .int 0, .null, .int 0, .null, .int 0, .int 0, .long 0, .int 0, .int 0, .int 0, .int 0, .int 0, .int 0, .int 0, .null, .null, .null, .null, .int 0, .null, .null, .null, .int 0, .null, .null])) :: [(q1, .inl (tc 0, 5, .inl (fun _ => 0)))]) H := hP
  have hD : va_D A ((h0, .inr (10, [.int 0, .null, .int 0, .null, .int 0, .null, .int 0, .null, .int 0, .int 0, .long 0, .int 0, .int 0, .int 0, .int 0, .int 0, .int 0, .int 0, .null, .null, .null, .null, .int 0, .null, .null, .null, .int 0, .null, .null])) :: [(q1, .inl (tc 0, 5, .inl (fun _ => 0)))]) := hD
  refine ax_pf (own := "InnChangedModel") (ci := 10) (k := 1) (ty := .array .int) hx hb hts hown hin hK hP hD hS rfl (by decide) (ax_inM (i := 1078) (by decide +kernel)) rfl (by decide +kernel) rfl rfl (Nat.le_of_ble_eq_true rfl) di_Model_8 (fun H locs hP hD hS => ?_)
  have hP : va_P D ax_cl ((h0, .inr (10, [.int 0, .ref q1, .int 0, .null, .int 0, .null, .int 0, .null, .int 0, .int 0, .long 0, .int 0, .int 0, .int 0, .int 0, .int 0, .int 0, .int 0, .null, .null, .null, .null, .int 0, .null, .null, .null, .int 0, .null, .null])) :: [(q1, .inl (tc 0, 5, .inl (fun _ => 0)))]) H := hP
  have hD : va_D A ((h0, .inr (10, [.int 0, .ref q1, .int 0, .null, .int 0, .null, .int 0, .null, .int 0, .int 0, .long 0, .int 0, .int 0, .int 0, .int 0, .int 0, .int 0, .int 0, .null, .null, .null, .null, .int 0, .null, .null, .null, .int 0, .null, .null])) :: [(q1, .inl (tc 0, 5, .inl (fun _ => 0)))]) := hD
  refine lv_aload_n hx hb di_Model_11 rfl (lv_at hl 0 rfl) ?_
  refine lv_bipush (v := 30) hx hb di_Model_12 (by decide) ?_
  refine ax_newI (N' := 30) hx hb hts hK hP hD hS hA (by decide) (by decide) (by decide) (Nat.le_of_ble_eq_true rfl) (Nat.le_of_ble_eq_true rfl) di_Model_14 (fun q2 H hP hD hS => ?_)
  have hP : va_P D ax_cl ((h0, .inr (10, [.int 0, .ref q1, .int 0, .null, .int 0, .null, .int 0, .null, .int 0, .int 0, .long 0, .int 0, .int 0, .int 0, .int 0, .int 0, .int 0, .int 0, .null, .null, .null, .null, .int 0, .null, .null, .null, .int 0, .null, .null])) :: [(q1, .inl (tc 0, 5, .inl (fun _ => 0))), (q2, .inl (tc 0, 30, .inl (fun _ => 0)))]) H := hP
  have hD : va_D A ((h0, .inr (10, [.int 0, .ref q1, .int 0, .null, .int 0, .null, .int 0, .null, .int 0, .int 0, .long 0, .int 0, .int 0, .int 0, .int 0, .int 0, .int 0, .int 0, .null, .null, .null, .null, .int 0, .null, .null, .null, .int 0, .null, .null])) :: [(q1, .inl (tc 0, 5, .inl (fun _ => 0))), (q2, .inl (tc 0, 30, .inl (fun _ => 0)))]) := hD
  refine ax_pf (own := "InnChangedModel") (ci := 10) (k := 3) (ty := .array .int) hx hb hts hown hin hK hP hD hS rfl (by decide) (ax_inM (i := 1080) (by decide +kernel)) rfl (by decide +kernel) rfl rfl (Nat.le_of_ble_eq_true rfl) di_Model_16 (fun H locs hP hD hS => ?_)
  have hP : va_P D ax_cl ((h0, .inr (10, [.int 0, .ref q1, .int 0, .ref q2, .int 0, .null, .int 0, .null, .int 0, .int 0, .long 0, .int 0, .int 0, .int 0, .int 0, .int 0, .int 0, .int 0, .null, .null, .null, .null, .int 0, .null, .null, .null, .int 0, .null, .null])) :: [(q1, .inl (tc 0, 5, .inl (fun _ => 0))), (q2, .inl (tc 0, 30, .inl (fun _ => 0)))]) H := hP
  have hD : va_D A ((h0, .inr (10, [.int 0, .ref q1, .int 0, .ref q2, .int 0, .null, .int 0, .null, .int 0, .int 0, .long 0, .int 0, .int 0, .int 0, .int 0, .int 0, .int 0, .int 0, .null, .null, .null, .null, .int 0, .null, .null, .null, .int 0, .null, .null])) :: [(q1, .inl (tc 0, 5, .inl (fun _ => 0))), (q2, .inl (tc 0, 30, .inl (fun _ => 0)))]) := hD
  refine lv_aload_n hx hb di_Model_19 rfl (lv_at hl 0 rfl) ?_
  refine lv_bipush (v := 6) hx hb di_Model_20 (by decide) ?_
  refine ax_newI (N' := 6) hx hb hts hK hP hD hS hA (by decide) (by decide) (by decide) (Nat.le_of_ble_eq_true rfl) (Nat.le_of_ble_eq_true rfl) di_Model_22 (fun q3 H hP hD hS => ?_)
  have hP : va_P D ax_cl ((h0, .inr (10, [.int 0, .ref q1, .int 0, .ref q2, .int 0, .null, .int 0, .null, .int 0, .int 0, .long 0, .int 0, .int 0, .int 0, .int 0, .int 0, .int 0, .int 0, .null, .null, .null, .null, .int 0, .null, .null, .null, .int 0, .null, .null])) :: [(q1, .inl (tc 0, 5, .inl (fun _ => 0))), (q2, .inl (tc 0, 30, .inl (fun _ => 0))), (q3, .inl (tc 0, 6, .inl (fun _ => 0)))]) H := hP
  have hD : va_D A ((h0, .inr (10, [.int 0, .ref q1, .int 0, .ref q2, .int 0, .null, .int 0, .null, .int 0, .int 0, .long 0, .int 0, .int 0, .int 0, .int 0, .int 0, .int 0, .int 0, .null, .null, .null, .null, .int 0, .null, .null, .null, .int 0, .null, .null])) :: [(q1, .inl (tc 0, 5, .inl (fun _ => 0))), (q2, .inl (tc 0, 30, .inl (fun _ => 0))), (q3, .inl (tc 0, 6, .inl (fun _ => 0)))]) := hD
  refine ax_pf (own := "InnChangedModel") (ci := 10) (k := 5) (ty := .array .int) hx hb hts hown hin hK hP hD hS rfl (by decide) (ax_inM (i := 1082) (by decide +kernel)) rfl (by decide +kernel) rfl rfl (Nat.le_of_ble_eq_true rfl) di_Model_24 (fun H locs hP hD hS => ?_)
  have hP : va_P D ax_cl ((h0, .inr (10, [.int 0, .ref q1, .int 0, .ref q2, .int 0, .ref q3, .int 0, .null, .int 0, .int 0, .long 0, .int 0, .int 0, .int 0, .int 0, .int 0, .int 0, .int 0, .null, .null, .null, .null, .int 0, .null, .null, .null, .int 0, .null, .null])) :: [(q1, .inl (tc 0, 5, .inl (fun _ => 0))), (q2, .inl (tc 0, 30, .inl (fun _ => 0))), (q3, .inl (tc 0, 6, .inl (fun _ => 0)))]) H := hP
  have hD : va_D A ((h0, .inr (10, [.int 0, .ref q1, .int 0, .ref q2, .int 0, .ref q3, .int 0, .null, .int 0, .int 0, .long 0, .int 0, .int 0, .int 0, .int 0, .int 0, .int 0, .int 0, .null, .null, .null, .null, .int 0, .null, .null, .null, .int 0, .null, .null])) :: [(q1, .inl (tc 0, 5, .inl (fun _ => 0))), (q2, .inl (tc 0, 30, .inl (fun _ => 0))), (q3, .inl (tc 0, 6, .inl (fun _ => 0)))]) := hD
  refine lv_aload_n hx hb di_Model_27 rfl (lv_at hl 0 rfl) ?_
  refine lv_sipush (v := 160) hx hb di_Model_28 (by decide) ?_
  refine ax_newI (N' := 160) hx hb hts hK hP hD hS hA (by decide) (by decide) (by decide) (Nat.le_of_ble_eq_true rfl) (Nat.le_of_ble_eq_true rfl) di_Model_31 (fun q4 H hP hD hS => ?_)
  have hP : va_P D ax_cl ((h0, .inr (10, [.int 0, .ref q1, .int 0, .ref q2, .int 0, .ref q3, .int 0, .null, .int 0, .int 0, .long 0, .int 0, .int 0, .int 0, .int 0, .int 0, .int 0, .int 0, .null, .null, .null, .null, .int 0, .null, .null, .null, .int 0, .null, .null])) :: [(q1, .inl (tc 0, 5, .inl (fun _ => 0))), (q2, .inl (tc 0, 30, .inl (fun _ => 0))), (q3, .inl (tc 0, 6, .inl (fun _ => 0))), (q4, .inl (tc 0, 160, .inl (fun _ => 0)))]) H := hP
  have hD : va_D A ((h0, .inr (10, [.int 0, .ref q1, .int 0, .ref q2, .int 0, .ref q3, .int 0, .null, .int 0, .int 0, .long 0, .int 0, .int 0, .int 0, .int 0, .int 0, .int 0, .int 0, .null, .null, .null, .null, .int 0, .null, .null, .null, .int 0, .null, .null])) :: [(q1, .inl (tc 0, 5, .inl (fun _ => 0))), (q2, .inl (tc 0, 30, .inl (fun _ => 0))), (q3, .inl (tc 0, 6, .inl (fun _ => 0))), (q4, .inl (tc 0, 160, .inl (fun _ => 0)))]) := hD
  refine ax_pf (own := "InnChangedModel") (ci := 10) (k := 7) (ty := .array .int) hx hb hts hown hin hK hP hD hS rfl (by decide) (ax_inM (i := 1084) (by decide +kernel)) rfl (by decide +kernel) rfl rfl (Nat.le_of_ble_eq_true rfl) di_Model_33 (fun H locs hP hD hS => ?_)
  have hP : va_P D ax_cl ((h0, .inr (10, [.int 0, .ref q1, .int 0, .ref q2, .int 0, .ref q3, .int 0, .ref q4, .int 0, .int 0, .long 0, .int 0, .int 0, .int 0, .int 0, .int 0, .int 0, .int 0, .null, .null, .null, .null, .int 0, .null, .null, .null, .int 0, .null, .null])) :: [(q1, .inl (tc 0, 5, .inl (fun _ => 0))), (q2, .inl (tc 0, 30, .inl (fun _ => 0))), (q3, .inl (tc 0, 6, .inl (fun _ => 0))), (q4, .inl (tc 0, 160, .inl (fun _ => 0)))]) H := hP
  have hD : va_D A ((h0, .inr (10, [.int 0, .ref q1, .int 0, .ref q2, .int 0, .ref q3, .int 0, .ref q4, .int 0, .int 0, .long 0, .int 0, .int 0, .int 0, .int 0, .int 0, .int 0, .int 0, .null, .null, .null, .null, .int 0, .null, .null, .null, .int 0, .null, .null])) :: [(q1, .inl (tc 0, 5, .inl (fun _ => 0))), (q2, .inl (tc 0, 30, .inl (fun _ => 0))), (q3, .inl (tc 0, 6, .inl (fun _ => 0))), (q4, .inl (tc 0, 160, .inl (fun _ => 0)))]) := hD
  refine lv_aload_n hx hb di_Model_36 rfl (lv_at hl 0 rfl) ?_
  refine lv_bipush (v := 70) hx hb di_Model_37 (by decide) ?_
  refine ax_newI (N' := 70) hx hb hts hK hP hD hS hA (by decide) (by decide) (by decide) (Nat.le_of_ble_eq_true rfl) (Nat.le_of_ble_eq_true rfl) di_Model_39 (fun q5 H hP hD hS => ?_)
  have hP : va_P D ax_cl ((h0, .inr (10, [.int 0, .ref q1, .int 0, .ref q2, .int 0, .ref q3, .int 0, .ref q4, .int 0, .int 0, .long 0, .int 0, .int 0, .int 0, .int 0, .int 0, .int 0, .int 0, .null, .null, .null, .null, .int 0, .null, .null, .null, .int 0, .null, .null])) :: [(q1, .inl (tc 0, 5, .inl (fun _ => 0))), (q2, .inl (tc 0, 30, .inl (fun _ => 0))), (q3, .inl (tc 0, 6, .inl (fun _ => 0))), (q4, .inl (tc 0, 160, .inl (fun _ => 0))), (q5, .inl (tc 0, 70, .inl (fun _ => 0)))]) H := hP
  have hD : va_D A ((h0, .inr (10, [.int 0, .ref q1, .int 0, .ref q2, .int 0, .ref q3, .int 0, .ref q4, .int 0, .int 0, .long 0, .int 0, .int 0, .int 0, .int 0, .int 0, .int 0, .int 0, .null, .null, .null, .null, .int 0, .null, .null, .null, .int 0, .null, .null])) :: [(q1, .inl (tc 0, 5, .inl (fun _ => 0))), (q2, .inl (tc 0, 30, .inl (fun _ => 0))), (q3, .inl (tc 0, 6, .inl (fun _ => 0))), (q4, .inl (tc 0, 160, .inl (fun _ => 0))), (q5, .inl (tc 0, 70, .inl (fun _ => 0)))]) := hD
  refine ax_pf (own := "InnChangedModel") (ci := 10) (k := 18) (ty := .array .int) hx hb hts hown hin hK hP hD hS rfl (by decide) (ax_inM (i := 1095) (by decide +kernel)) rfl (by decide +kernel) rfl rfl (Nat.le_of_ble_eq_true rfl) di_Model_41 (fun H locs hP hD hS => ?_)
  have hP : va_P D ax_cl ((h0, .inr (10, [.int 0, .ref q1, .int 0, .ref q2, .int 0, .ref q3, .int 0, .ref q4, .int 0, .int 0, .long 0, .int 0, .int 0, .int 0, .int 0, .int 0, .int 0, .int 0, .ref q5, .null, .null, .null, .int 0, .null, .null, .null, .int 0, .null, .null])) :: [(q1, .inl (tc 0, 5, .inl (fun _ => 0))), (q2, .inl (tc 0, 30, .inl (fun _ => 0))), (q3, .inl (tc 0, 6, .inl (fun _ => 0))), (q4, .inl (tc 0, 160, .inl (fun _ => 0))), (q5, .inl (tc 0, 70, .inl (fun _ => 0)))]) H := hP
  have hD : va_D A ((h0, .inr (10, [.int 0, .ref q1, .int 0, .ref q2, .int 0, .ref q3, .int 0, .ref q4, .int 0, .int 0, .long 0, .int 0, .int 0, .int 0, .int 0, .int 0, .int 0, .int 0, .ref q5, .null, .null, .null, .int 0, .null, .null, .null, .int 0, .null, .null])) :: [(q1, .inl (tc 0, 5, .inl (fun _ => 0))), (q2, .inl (tc 0, 30, .inl (fun _ => 0))), (q3, .inl (tc 0, 6, .inl (fun _ => 0))), (q4, .inl (tc 0, 160, .inl (fun _ => 0))), (q5, .inl (tc 0, 70, .inl (fun _ => 0)))]) := hD
  refine lv_aload_n hx hb di_Model_44 rfl (lv_at hl 0 rfl) ?_
  refine lv_bipush (v := 27) hx hb di_Model_45 (by decide) ?_
  refine ax_newI (N' := 27) hx hb hts hK hP hD hS hA (by decide) (by decide) (by decide) (Nat.le_of_ble_eq_true rfl) (Nat.le_of_ble_eq_true rfl) di_Model_47 (fun q6 H hP hD hS => ?_)
  have hP : va_P D ax_cl ((h0, .inr (10, [.int 0, .ref q1, .int 0, .ref q2, .int 0, .ref q3, .int 0, .ref q4, .int 0, .int 0, .long 0, .int 0, .int 0, .int 0, .int 0, .int 0, .int 0, .int 0, .ref q5, .null, .null, .null, .int 0, .null, .null, .null, .int 0, .null, .null])) :: [(q1, .inl (tc 0, 5, .inl (fun _ => 0))), (q2, .inl (tc 0, 30, .inl (fun _ => 0))), (q3, .inl (tc 0, 6, .inl (fun _ => 0))), (q4, .inl (tc 0, 160, .inl (fun _ => 0))), (q5, .inl (tc 0, 70, .inl (fun _ => 0))), (q6, .inl (tc 0, 27, .inl (fun _ => 0)))]) H := hP
  have hD : va_D A ((h0, .inr (10, [.int 0, .ref q1, .int 0, .ref q2, .int 0, .ref q3, .int 0, .ref q4, .int 0, .int 0, .long 0, .int 0, .int 0, .int 0, .int 0, .int 0, .int 0, .int 0, .ref q5, .null, .null, .null, .int 0, .null, .null, .null, .int 0, .null, .null])) :: [(q1, .inl (tc 0, 5, .inl (fun _ => 0))), (q2, .inl (tc 0, 30, .inl (fun _ => 0))), (q3, .inl (tc 0, 6, .inl (fun _ => 0))), (q4, .inl (tc 0, 160, .inl (fun _ => 0))), (q5, .inl (tc 0, 70, .inl (fun _ => 0))), (q6, .inl (tc 0, 27, .inl (fun _ => 0)))]) := hD
  refine ax_pf (own := "InnChangedModel") (ci := 10) (k := 19) (ty := .array .int) hx hb hts hown hin hK hP hD hS rfl (by decide) (ax_inM (i := 1096) (by decide +kernel)) rfl (by decide +kernel) rfl rfl (Nat.le_of_ble_eq_true rfl) di_Model_49 (fun H locs hP hD hS => ?_)
  have hP : va_P D ax_cl ((h0, .inr (10, [.int 0, .ref q1, .int 0, .ref q2, .int 0, .ref q3, .int 0, .ref q4, .int 0, .int 0, .long 0, .int 0, .int 0, .int 0, .int 0, .int 0, .int 0, .int 0, .ref q5, .ref q6, .null, .null, .int 0, .null, .null, .null, .int 0, .null, .null])) :: [(q1, .inl (tc 0, 5, .inl (fun _ => 0))), (q2, .inl (tc 0, 30, .inl (fun _ => 0))), (q3, .inl (tc 0, 6, .inl (fun _ => 0))), (q4, .inl (tc 0, 160, .inl (fun _ => 0))), (q5, .inl (tc 0, 70, .inl (fun _ => 0))), (q6, .inl (tc 0, 27, .inl (fun _ => 0)))]) H := hP
  have hD : va_D A ((h0, .inr (10, [.int 0, .ref q1, .int 0, .ref q2, .int 0, .ref q3, .int 0, .ref q4, .int 0, .int 0, .long 0, .int 0, .int 0, .int 0, .int 0, .int 0, .int 0, .int 0, .ref q5, .ref q6, .null, .null, .int 0, .null, .null, .null, .int 0, .null, .null])) :: [(q1, .inl (tc 0, 5, .inl (fun _ => 0))), (q2, .inl (tc 0, 30, .inl (fun _ => 0))), (q3, .inl (tc 0, 6, .inl (fun _ => 0))), (q4, .inl (tc 0, 160, .inl (fun _ => 0))), (q5, .inl (tc 0, 70, .inl (fun _ => 0))), (q6, .inl (tc 0, 27, .inl (fun _ => 0)))]) := hD
  refine lv_aload_n hx hb di_Model_52 rfl (lv_at hl 0 rfl) ?_
  refine lv_bipush (v := 54) hx hb di_Model_53 (by decide) ?_
  refine ax_newI (N' := 54) hx hb hts hK hP hD hS hA (by decide) (by decide) (by decide) (Nat.le_of_ble_eq_true rfl) (Nat.le_of_ble_eq_true rfl) di_Model_55 (fun q7 H hP hD hS => ?_)
  have hP : va_P D ax_cl ((h0, .inr (10, [.int 0, .ref q1, .int 0, .ref q2, .int 0, .ref q3, .int 0, .ref q4, .int 0, .int 0, .long 0, .int 0, .int 0, .int 0, .int 0, .int 0, .int 0, .int 0, .ref q5, .ref q6, .null, .null, .int 0, .null, .null, .null, .int 0, .null, .null])) :: [(q1, .inl (tc 0, 5, .inl (fun _ => 0))), (q2, .inl (tc 0, 30, .inl (fun _ => 0))), (q3, .inl (tc 0, 6, .inl (fun _ => 0))), (q4, .inl (tc 0, 160, .inl (fun _ => 0))), (q5, .inl (tc 0, 70, .inl (fun _ => 0))), (q6, .inl (tc 0, 27, .inl (fun _ => 0))), (q7, .inl (tc 0, 54, .inl (fun _ => 0)))]) H := hP
  have hD : va_D A ((h0, .inr (10, [.int 0, .ref q1, .int 0, .ref q2, .int 0, .ref q3, .int 0, .ref q4, .int 0, .int 0, .long 0, .int 0, .int 0, .int 0, .int 0, .int 0, .int 0, .int 0, .ref q5, .ref q6, .null, .null, .int 0, .null, .null, .null, .int 0, .null, .null])) :: [(q1, .inl (tc 0, 5, .inl (fun _ => 0))), (q2, .inl (tc 0, 30, .inl (fun _ => 0))), (q3, .inl (tc 0, 6, .inl (fun _ => 0))), (q4, .inl (tc 0, 160, .inl (fun _ => 0))), (q5, .inl (tc 0, 70, .inl (fun _ => 0))), (q6, .inl (tc 0, 27, .inl (fun _ => 0))), (q7, .inl (tc 0, 54, .inl (fun _ => 0)))]) := hD
  refine ax_pf (own := "InnChangedModel") (ci := 10) (k := 20) (ty := .array .int) hx hb hts hown hin hK hP hD hS rfl (by decide) (ax_inM (i := 1097) (by decide +kernel)) rfl (by decide +kernel) rfl rfl (Nat.le_of_ble_eq_true rfl) di_Model_57 (fun H locs hP hD hS => ?_)
  have hP : va_P D ax_cl ((h0, .inr (10, [.int 0, .ref q1, .int 0, .ref q2, .int 0, .ref q3, .int 0, .ref q4, .int 0, .int 0, .long 0, .int 0, .int 0, .int 0, .int 0, .int 0, .int 0, .int 0, .ref q5, .ref q6, .ref q7, .null, .int 0, .null, .null, .null, .int 0, .null, .null])) :: [(q1, .inl (tc 0, 5, .inl (fun _ => 0))), (q2, .inl (tc 0, 30, .inl (fun _ => 0))), (q3, .inl (tc 0, 6, .inl (fun _ => 0))), (q4, .inl (tc 0, 160, .inl (fun _ => 0))), (q5, .inl (tc 0, 70, .inl (fun _ => 0))), (q6, .inl (tc 0, 27, .inl (fun _ => 0))), (q7, .inl (tc 0, 54, .inl (fun _ => 0)))]) H := hP
  have hD : va_D A ((h0, .inr (10, [.int 0, .ref q1, .int 0, .ref q2, .int 0, .ref q3, .int 0, .ref q4, .int 0, .int 0, .long 0, .int 0, .int 0, .int 0, .int 0, .int 0, .int 0, .int 0, .ref q5, .ref q6, .ref q7, .null, .int 0, .null, .null, .null, .int 0, .null, .null])) :: [(q1, .inl (tc 0, 5, .inl (fun _ => 0))), (q2, .inl (tc 0, 30, .inl (fun _ => 0))), (q3, .inl (tc 0, 6, .inl (fun _ => 0))), (q4, .inl (tc 0, 160, .inl (fun _ => 0))), (q5, .inl (tc 0, 70, .inl (fun _ => 0))), (q6, .inl (tc 0, 27, .inl (fun _ => 0))), (q7, .inl (tc 0, 54, .inl (fun _ => 0)))]) := hD
  refine lv_aload_n hx hb di_Model_60 rfl (lv_at hl 0 rfl) ?_
  refine lv_iconst (v := 2) hx hb di_Model_61 (by decide) ?_
  refine ax_newB (N' := 2) hx hb hts hK hP hD hS hA (by decide) (by decide) (by decide) (Nat.le_of_ble_eq_true rfl) (Nat.le_of_ble_eq_true rfl) di_Model_62 (fun q8 H hP hD hS => ?_)
  have hP : va_P D ax_cl ((h0, .inr (10, [.int 0, .ref q1, .int 0, .ref q2, .int 0, .ref q3, .int 0, .ref q4, .int 0, .int 0, .long 0, .int 0, .int 0, .int 0, .int 0, .int 0, .int 0, .int 0, .ref q5, .ref q6, .ref q7, .null, .int 0, .null, .null, .null, .int 0, .null, .null])) :: [(q1, .inl (tc 0, 5, .inl (fun _ => 0))), (q2, .inl (tc 0, 30, .inl (fun _ => 0))), (q3, .inl (tc 0, 6, .inl (fun _ => 0))), (q4, .inl (tc 0, 160, .inl (fun _ => 0))), (q5, .inl (tc 0, 70, .inl (fun _ => 0))), (q6, .inl (tc 0, 27, .inl (fun _ => 0))), (q7, .inl (tc 0, 54, .inl (fun _ => 0))), (q8, .inl (tc 1, 2, .inl (fun _ => 0)))]) H := hP
  have hD : va_D A ((h0, .inr (10, [.int 0, .ref q1, .int 0, .ref q2, .int 0, .ref q3, .int 0, .ref q4, .int 0, .int 0, .long 0, .int 0, .int 0, .int 0, .int 0, .int 0, .int 0, .int 0, .ref q5, .ref q6, .ref q7, .null, .int 0, .null, .null, .null, .int 0, .null, .null])) :: [(q1, .inl (tc 0, 5, .inl (fun _ => 0))), (q2, .inl (tc 0, 30, .inl (fun _ => 0))), (q3, .inl (tc 0, 6, .inl (fun _ => 0))), (q4, .inl (tc 0, 160, .inl (fun _ => 0))), (q5, .inl (tc 0, 70, .inl (fun _ => 0))), (q6, .inl (tc 0, 27, .inl (fun _ => 0))), (q7, .inl (tc 0, 54, .inl (fun _ => 0))), (q8, .inl (tc 1, 2, .inl (fun _ => 0)))]) := hD
  refine ax_pf (own := "InnChangedModel") (ci := 10) (k := 21) (ty := .array .boolean) hx hb hts hown hin hK hP hD hS rfl (by decide) (ax_inM (i := 1098) (by decide +kernel)) rfl (by decide +kernel) rfl rfl (Nat.le_of_ble_eq_true rfl) di_Model_64 (fun H locs hP hD hS => ?_)
  have hP : va_P D ax_cl ((h0, .inr (10, [.int 0, .ref q1, .int 0, .ref q2, .int 0, .ref q3, .int 0, .ref q4, .int 0, .int 0, .long 0, .int 0, .int 0, .int 0, .int 0, .int 0, .int 0, .int 0, .ref q5, .ref q6, .ref q7, .ref q8, .int 0, .null, .null, .null, .int 0, .null, .null])) :: [(q1, .inl (tc 0, 5, .inl (fun _ => 0))), (q2, .inl (tc 0, 30, .inl (fun _ => 0))), (q3, .inl (tc 0, 6, .inl (fun _ => 0))), (q4, .inl (tc 0, 160, .inl (fun _ => 0))), (q5, .inl (tc 0, 70, .inl (fun _ => 0))), (q6, .inl (tc 0, 27, .inl (fun _ => 0))), (q7, .inl (tc 0, 54, .inl (fun _ => 0))), (q8, .inl (tc 1, 2, .inl (fun _ => 0)))]) H := hP
  have hD : va_D A ((h0, .inr (10, [.int 0, .ref q1, .int 0, .ref q2, .int 0, .ref q3, .int 0, .ref q4, .int 0, .int 0, .long 0, .int 0, .int 0, .int 0, .int 0, .int 0, .int 0, .int 0, .ref q5, .ref q6, .ref q7, .ref q8, .int 0, .null, .null, .null, .int 0, .null, .null])) :: [(q1, .inl (tc 0, 5, .inl (fun _ => 0))), (q2, .inl (tc 0, 30, .inl (fun _ => 0))), (q3, .inl (tc 0, 6, .inl (fun _ => 0))), (q4, .inl (tc 0, 160, .inl (fun _ => 0))), (q5, .inl (tc 0, 70, .inl (fun _ => 0))), (q6, .inl (tc 0, 27, .inl (fun _ => 0))), (q7, .inl (tc 0, 54, .inl (fun _ => 0))), (q8, .inl (tc 1, 2, .inl (fun _ => 0)))]) := hD
  refine lv_aload_n hx hb di_Model_67 rfl (lv_at hl 0 rfl) ?_
  refine lv_bipush (v := 30) hx hb di_Model_68 (by decide) ?_
  refine ax_newI (N' := 30) hx hb hts hK hP hD hS hA (by decide) (by decide) (by decide) (Nat.le_of_ble_eq_true rfl) (Nat.le_of_ble_eq_true rfl) di_Model_70 (fun q9 H hP hD hS => ?_)
  have hP : va_P D ax_cl ((h0, .inr (10, [.int 0, .ref q1, .int 0, .ref q2, .int 0, .ref q3, .int 0, .ref q4, .int 0, .int 0, .long 0, .int 0, .int 0, .int 0, .int 0, .int 0, .int 0, .int 0, .ref q5, .ref q6, .ref q7, .ref q8, .int 0, .null, .null, .null, .int 0, .null, .null])) :: [(q1, .inl (tc 0, 5, .inl (fun _ => 0))), (q2, .inl (tc 0, 30, .inl (fun _ => 0))), (q3, .inl (tc 0, 6, .inl (fun _ => 0))), (q4, .inl (tc 0, 160, .inl (fun _ => 0))), (q5, .inl (tc 0, 70, .inl (fun _ => 0))), (q6, .inl (tc 0, 27, .inl (fun _ => 0))), (q7, .inl (tc 0, 54, .inl (fun _ => 0))), (q8, .inl (tc 1, 2, .inl (fun _ => 0))), (q9, .inl (tc 0, 30, .inl (fun _ => 0)))]) H := hP
  have hD : va_D A ((h0, .inr (10, [.int 0, .ref q1, .int 0, .ref q2, .int 0, .ref q3, .int 0, .ref q4, .int 0, .int 0, .long 0, .int 0, .int 0, .int 0, .int 0, .int 0, .int 0, .int 0, .ref q5, .ref q6, .ref q7, .ref q8, .int 0, .null, .null, .null, .int 0, .null, .null])) :: [(q1, .inl (tc 0, 5, .inl (fun _ => 0))), (q2, .inl (tc 0, 30, .inl (fun _ => 0))), (q3, .inl (tc 0, 6, .inl (fun _ => 0))), (q4, .inl (tc 0, 160, .inl (fun _ => 0))), (q5, .inl (tc 0, 70, .inl (fun _ => 0))), (q6, .inl (tc 0, 27, .inl (fun _ => 0))), (q7, .inl (tc 0, 54, .inl (fun _ => 0))), (q8, .inl (tc 1, 2, .inl (fun _ => 0))), (q9, .inl (tc 0, 30, .inl (fun _ => 0)))]) := hD
  refine ax_pf (own := "InnChangedModel") (ci := 10) (k := 23) (ty := .array .int) hx hb hts hown hin hK hP hD hS rfl (by decide) (ax_inM (i := 1100) (by decide +kernel)) rfl (by decide +kernel) rfl rfl (Nat.le_of_ble_eq_true rfl) di_Model_72 (fun H locs hP hD hS => ?_)
  have hP : va_P D ax_cl ((h0, .inr (10, [.int 0, .ref q1, .int 0, .ref q2, .int 0, .ref q3, .int 0, .ref q4, .int 0, .int 0, .long 0, .int 0, .int 0, .int 0, .int 0, .int 0, .int 0, .int 0, .ref q5, .ref q6, .ref q7, .ref q8, .int 0, .ref q9, .null, .null, .int 0, .null, .null])) :: [(q1, .inl (tc 0, 5, .inl (fun _ => 0))), (q2, .inl (tc 0, 30, .inl (fun _ => 0))), (q3, .inl (tc 0, 6, .inl (fun _ => 0))), (q4, .inl (tc 0, 160, .inl (fun _ => 0))), (q5, .inl (tc 0, 70, .inl (fun _ => 0))), (q6, .inl (tc 0, 27, .inl (fun _ => 0))), (q7, .inl (tc 0, 54, .inl (fun _ => 0))), (q8, .inl (tc 1, 2, .inl (fun _ => 0))), (q9, .inl (tc 0, 30, .inl (fun _ => 0)))]) H := hP
  have hD : va_D A ((h0, .inr (10, [.int 0, .ref q1, .int 0, .ref q2, .int 0, .ref q3, .int 0, .ref q4, .int 0, .int 0, .long 0, .int 0, .int 0, .int 0, .int 0, .int 0, .int 0, .int 0, .ref q5, .ref q6, .ref q7, .ref q8, .int 0, .ref q9, .null, .null, .int 0, .null, .null])) :: [(q1, .inl (tc 0, 5, .inl (fun _ => 0))), (q2, .inl (tc 0, 30, .inl (fun _ => 0))), (q3, .inl (tc 0, 6, .inl (fun _ => 0))), (q4, .inl (tc 0, 160, .inl (fun _ => 0))), (q5, .inl (tc 0, 70, .inl (fun _ => 0))), (q6, .inl (tc 0, 27, .inl (fun _ => 0))), (q7, .inl (tc 0, 54, .inl (fun _ => 0))), (q8, .inl (tc 1, 2, .inl (fun _ => 0))), (q9, .inl (tc 0, 30, .inl (fun _ => 0)))]) := hD
  refine lv_aload_n hx hb di_Model_75 rfl (lv_at hl 0 rfl) ?_
  refine lv_bipush (v := 6) hx hb di_Model_76 (by decide) ?_
  refine ax_newI (N' := 6) hx hb hts hK hP hD hS hA (by decide) (by decide) (by decide) (Nat.le_of_ble_eq_true rfl) (Nat.le_of_ble_eq_true rfl) di_Model_78 (fun q10 H hP hD hS => ?_)
  have hP : va_P D ax_cl ((h0, .inr (10, [.int 0, .ref q1, .int 0, .ref q2, .int 0, .ref q3, .int 0, .ref q4, .int 0, .int 0, .long 0, .int 0, .int 0, .int 0, .int 0, .int 0, .int 0, .int 0, .ref q5, .ref q6, .ref q7, .ref q8, .int 0, .ref q9, .null, .null, .int 0, .null, .null])) :: [(q1, .inl (tc 0, 5, .inl (fun _ => 0))), (q2, .inl (tc 0, 30, .inl (fun _ => 0))), (q3, .inl (tc 0, 6, .inl (fun _ => 0))), (q4, .inl (tc 0, 160, .inl (fun _ => 0))), (q5, .inl (tc 0, 70, .inl (fun _ => 0))), (q6, .inl (tc 0, 27, .inl (fun _ => 0))), (q7, .inl (tc 0, 54, .inl (fun _ => 0))), (q8, .inl (tc 1, 2, .inl (fun _ => 0))), (q9, .inl (tc 0, 30, .inl (fun _ => 0))), (q10, .inl (tc 0, 6, .inl (fun _ => 0)))]) H := hP
  have hD : va_D A ((h0, .inr (10, [.int 0, .ref q1, .int 0, .ref q2, .int 0, .ref q3, .int 0, .ref q4, .int 0, .int 0, .long 0, .int 0, .int 0, .int 0, .int 0, .int 0, .int 0, .int 0, .ref q5, .ref q6, .ref q7, .ref q8, .int 0, .ref q9, .null, .null, .int 0, .null, .null])) :: [(q1, .inl (tc 0, 5, .inl (fun _ => 0))), (q2, .inl (tc 0, 30, .inl (fun _ => 0))), (q3, .inl (tc 0, 6, .inl (fun _ => 0))), (q4, .inl (tc 0, 160, .inl (fun _ => 0))), (q5, .inl (tc 0, 70, .inl (fun _ => 0))), (q6, .inl (tc 0, 27, .inl (fun _ => 0))), (q7, .inl (tc 0, 54, .inl (fun _ => 0))), (q8, .inl (tc 1, 2, .inl (fun _ => 0))), (q9, .inl (tc 0, 30, .inl (fun _ => 0))), (q10, .inl (tc 0, 6, .inl (fun _ => 0)))]) := hD
  refine ax_pf (own := "InnChangedModel") (ci := 10) (k := 24) (ty := .array .int) hx hb hts hown hin hK hP hD hS rfl (by decide) (ax_inM (i := 1101) (by decide +kernel)) rfl (by decide +kernel) rfl rfl (Nat.le_of_ble_eq_true rfl) di_Model_80 (fun H locs hP hD hS => ?_)
  have hP : va_P D ax_cl ((h0, .inr (10, [.int 0, .ref q1, .int 0, .ref q2, .int 0, .ref q3, .int 0, .ref q4, .int 0, .int 0, .long 0, .int 0, .int 0, .int 0, .int 0, .int 0, .int 0, .int 0, .ref q5, .ref q6, .ref q7, .ref q8, .int 0, .ref q9, .ref q10, .null, .int 0, .null, .null])) :: [(q1, .inl (tc 0, 5, .inl (fun _ => 0))), (q2, .inl (tc 0, 30, .inl (fun _ => 0))), (q3, .inl (tc 0, 6, .inl (fun _ => 0))), (q4, .inl (tc 0, 160, .inl (fun _ => 0))), (q5, .inl (tc 0, 70, .inl (fun _ => 0))), (q6, .inl (tc 0, 27, .inl (fun _ => 0))), (q7, .inl (tc 0, 54, .inl (fun _ => 0))), (q8, .inl (tc 1, 2, .inl (fun _ => 0))), (q9, .inl (tc 0, 30, .inl (fun _ => 0))), (q10, .inl (tc 0, 6, .inl (fun _ => 0)))]) H := hP
  have hD : va_D A ((h0, .inr (10, [.int 0, .ref q1, .int 0, .ref q2, .int 0, .ref q3, .int 0, .ref q4, .int 0, .int 0, .long 0, .int 0, .int 0, .int 0, .int 0, .int 0, .int 0, .int 0, .ref q5, .ref q6, .ref q7, .ref q8, .int 0, .ref q9, .ref q10, .null, .int 0, .null, .null])) :: [(q1, .inl (tc 0, 5, .inl (fun _ => 0))), (q2, .inl (tc 0, 30, .inl (fun _ => 0))), (q3, .inl (tc 0, 6, .inl (fun _ => 0))), (q4, .inl (tc 0, 160, .inl (fun _ => 0))), (q5, .inl (tc 0, 70, .inl (fun _ => 0))), (q6, .inl (tc 0, 27, .inl (fun _ => 0))), (q7, .inl (tc 0, 54, .inl (fun _ => 0))), (q8, .inl (tc 1, 2, .inl (fun _ => 0))), (q9, .inl (tc 0, 30, .inl (fun _ => 0))), (q10, .inl (tc 0, 6, .inl (fun _ => 0)))]) := hD
  refine lv_aload_n hx hb di_Model_83 rfl (lv_at hl 0 rfl) ?_
  refine lv_sipush (v := 720) hx hb di_Model_84 (by decide) ?_
  refine ax_newI (N' := 720) hx hb hts hK hP hD hS hA (by decide) (by decide) (by decide) (Nat.le_of_ble_eq_true rfl) (Nat.le_of_ble_eq_true rfl) di_Model_87 (fun q11 H hP hD hS => ?_)
  have hP : va_P D ax_cl ((h0, .inr (10, [.int 0, .ref q1, .int 0, .ref q2, .int 0, .ref q3, .int 0, .ref q4, .int 0, .int 0, .long 0, .int 0, .int 0, .int 0, .int 0, .int 0, .int 0, .int 0, .ref q5, .ref q6, .ref q7, .ref q8, .int 0, .ref q9, .ref q10, .null, .int 0, .null, .null])) :: [(q1, .inl (tc 0, 5, .inl (fun _ => 0))), (q2, .inl (tc 0, 30, .inl (fun _ => 0))), (q3, .inl (tc 0, 6, .inl (fun _ => 0))), (q4, .inl (tc 0, 160, .inl (fun _ => 0))), (q5, .inl (tc 0, 70, .inl (fun _ => 0))), (q6, .inl (tc 0, 27, .inl (fun _ => 0))), (q7, .inl (tc 0, 54, .inl (fun _ => 0))), (q8, .inl (tc 1, 2, .inl (fun _ => 0))), (q9, .inl (tc 0, 30, .inl (fun _ => 0))), (q10, .inl (tc 0, 6, .inl (fun _ => 0))), (q11, .inl (tc 0, 720, .inl (fun _ => 0)))]) H := hP
  have hD : va_D A ((h0, .inr (10, [.int 0, .ref q1, .int 0, .ref q2, .int 0, .ref q3, .int 0, .ref q4, .int 0, .int 0, .long 0, .int 0, .int 0, .int 0, .int 0, .int 0, .int 0, .int 0, .ref q5, .ref q6, .ref q7, .ref q8, .int 0, .ref q9, .ref q10, .null, .int 0, .null, .null])) :: [(q1, .inl (tc 0, 5, .inl (fun _ => 0))), (q2, .inl (tc 0, 30, .inl (fun _ => 0))), (q3, .inl (tc 0, 6, .inl (fun _ => 0))), (q4, .inl (tc 0, 160, .inl (fun _ => 0))), (q5, .inl (tc 0, 70, .inl (fun _ => 0))), (q6, .inl (tc 0, 27, .inl (fun _ => 0))), (q7, .inl (tc 0, 54, .inl (fun _ => 0))), (q8, .inl (tc 1, 2, .inl (fun _ => 0))), (q9, .inl (tc 0, 30, .inl (fun _ => 0))), (q10, .inl (tc 0, 6, .inl (fun _ => 0))), (q11, .inl (tc 0, 720, .inl (fun _ => 0)))]) := hD
  refine ax_pf (own := "InnChangedModel") (ci := 10) (k := 25) (ty := .array .int) hx hb hts hown hin hK hP hD hS rfl (by decide) (ax_inM (i := 1102) (by decide +kernel)) rfl (by decide +kernel) rfl rfl (Nat.le_of_ble_eq_true rfl) di_Model_89 (fun H locs hP hD hS => ?_)
  have hP : va_P D ax_cl ((h0, .inr (10, [.int 0, .ref q1, .int 0, .ref q2, .int 0, .ref q3, .int 0, .ref q4, .int 0, .int 0, .long 0, .int 0, .int 0, .int 0, .int 0, .int 0, .int 0, .int 0, .ref q5, .ref q6, .ref q7, .ref q8, .int 0, .ref q9, .ref q10, .ref q11, .int 0, .null, .null])) :: [(q1, .inl (tc 0, 5, .inl (fun _ => 0))), (q2, .inl (tc 0, 30, .inl (fun _ => 0))), (q3, .inl (tc 0, 6, .inl (fun _ => 0))), (q4, .inl (tc 0, 160, .inl (fun _ => 0))), (q5, .inl (tc 0, 70, .inl (fun _ => 0))), (q6, .inl (tc 0, 27, .inl (fun _ => 0))), (q7, .inl (tc 0, 54, .inl (fun _ => 0))), (q8, .inl (tc 1, 2, .inl (fun _ => 0))), (q9, .inl (tc 0, 30, .inl (fun _ => 0))), (q10, .inl (tc 0, 6, .inl (fun _ => 0))), (q11, .inl (tc 0, 720, .inl (fun _ => 0)))]) H := hP
  have hD : va_D A ((h0, .inr (10, [.int 0, .ref q1, .int 0, .ref q2, .int 0, .ref q3, .int 0, .ref q4, .int 0, .int 0, .long 0, .int 0, .int 0, .int 0, .int 0, .int 0, .int 0, .int 0, .ref q5, .ref q6, .ref q7, .ref q8, .int 0, .ref q9, .ref q10, .ref q11, .int 0, .null, .null])) :: [(q1, .inl (tc 0, 5, .inl (fun _ => 0))), (q2, .inl (tc 0, 30, .inl (fun _ => 0))), (q3, .inl (tc 0, 6, .inl (fun _ => 0))), (q4, .inl (tc 0, 160, .inl (fun _ => 0))), (q5, .inl (tc 0, 70, .inl (fun _ => 0))), (q6, .inl (tc 0, 27, .inl (fun _ => 0))), (q7, .inl (tc 0, 54, .inl (fun _ => 0))), (q8, .inl (tc 1, 2, .inl (fun _ => 0))), (q9, .inl (tc 0, 30, .inl (fun _ => 0))), (q10, .inl (tc 0, 6, .inl (fun _ => 0))), (q11, .inl (tc 0, 720, .inl (fun _ => 0)))]) := hD
  refine lv_aload_n hx hb di_Model_92 rfl (lv_at hl 0 rfl) ?_
  refine lv_sipush (v := 5040) hx hb di_Model_93 (by decide) ?_
  refine ax_newI (N' := 5040) hx hb hts hK hP hD hS hA (by decide) (by decide) (by decide) (Nat.le_of_ble_eq_true rfl) (Nat.le_of_ble_eq_true rfl) di_Model_96 (fun q12 H hP hD hS => ?_)
  have hP : va_P D ax_cl ((h0, .inr (10, [.int 0, .ref q1, .int 0, .ref q2, .int 0, .ref q3, .int 0, .ref q4, .int 0, .int 0, .long 0, .int 0, .int 0, .int 0, .int 0, .int 0, .int 0, .int 0, .ref q5, .ref q6, .ref q7, .ref q8, .int 0, .ref q9, .ref q10, .ref q11, .int 0, .null, .null])) :: [(q1, .inl (tc 0, 5, .inl (fun _ => 0))), (q2, .inl (tc 0, 30, .inl (fun _ => 0))), (q3, .inl (tc 0, 6, .inl (fun _ => 0))), (q4, .inl (tc 0, 160, .inl (fun _ => 0))), (q5, .inl (tc 0, 70, .inl (fun _ => 0))), (q6, .inl (tc 0, 27, .inl (fun _ => 0))), (q7, .inl (tc 0, 54, .inl (fun _ => 0))), (q8, .inl (tc 1, 2, .inl (fun _ => 0))), (q9, .inl (tc 0, 30, .inl (fun _ => 0))), (q10, .inl (tc 0, 6, .inl (fun _ => 0))), (q11, .inl (tc 0, 720, .inl (fun _ => 0))), (q12, .inl (tc 0, 5040, .inl (fun _ => 0)))]) H := hP
  have hD : va_D A ((h0, .inr (10, [.int 0, .ref q1, .int 0, .ref q2, .int 0, .ref q3, .int 0, .ref q4, .int 0, .int 0, .long 0, .int 0, .int 0, .int 0, .int 0, .int 0, .int 0, .int 0, .ref q5, .ref q6, .ref q7, .ref q8, .int 0, .ref q9, .ref q10, .ref q11, .int 0, .null, .null])) :: [(q1, .inl (tc 0, 5, .inl (fun _ => 0))), (q2, .inl (tc 0, 30, .inl (fun _ => 0))), (q3, .inl (tc 0, 6, .inl (fun _ => 0))), (q4, .inl (tc 0, 160, .inl (fun _ => 0))), (q5, .inl (tc 0, 70, .inl (fun _ => 0))), (q6, .inl (tc 0, 27, .inl (fun _ => 0))), (q7, .inl (tc 0, 54, .inl (fun _ => 0))), (q8, .inl (tc 1, 2, .inl (fun _ => 0))), (q9, .inl (tc 0, 30, .inl (fun _ => 0))), (q10, .inl (tc 0, 6, .inl (fun _ => 0))), (q11, .inl (tc 0, 720, .inl (fun _ => 0))), (q12, .inl (tc 0, 5040, .inl (fun _ => 0)))]) := hD
  refine ax_pf (own := "InnChangedModel") (ci := 10) (k := 27) (ty := .array .int) hx hb hts hown hin hK hP hD hS rfl (by decide) (ax_inM (i := 1104) (by decide +kernel)) rfl (by decide +kernel) rfl rfl (Nat.le_of_ble_eq_true rfl) di_Model_98 (fun H locs hP hD hS => ?_)
  have hP : va_P D ax_cl ((h0, .inr (10, [.int 0, .ref q1, .int 0, .ref q2, .int 0, .ref q3, .int 0, .ref q4, .int 0, .int 0, .long 0, .int 0, .int 0, .int 0, .int 0, .int 0, .int 0, .int 0, .ref q5, .ref q6, .ref q7, .ref q8, .int 0, .ref q9, .ref q10, .ref q11, .int 0, .ref q12, .null])) :: [(q1, .inl (tc 0, 5, .inl (fun _ => 0))), (q2, .inl (tc 0, 30, .inl (fun _ => 0))), (q3, .inl (tc 0, 6, .inl (fun _ => 0))), (q4, .inl (tc 0, 160, .inl (fun _ => 0))), (q5, .inl (tc 0, 70, .inl (fun _ => 0))), (q6, .inl (tc 0, 27, .inl (fun _ => 0))), (q7, .inl (tc 0, 54, .inl (fun _ => 0))), (q8, .inl (tc 1, 2, .inl (fun _ => 0))), (q9, .inl (tc 0, 30, .inl (fun _ => 0))), (q10, .inl (tc 0, 6, .inl (fun _ => 0))), (q11, .inl (tc 0, 720, .inl (fun _ => 0))), (q12, .inl (tc 0, 5040, .inl (fun _ => 0)))]) H := hP
  have hD : va_D A ((h0, .inr (10, [.int 0, .ref q1, .int 0, .ref q2, .int 0, .ref q3, .int 0, .ref q4, .int 0, .int 0, .long 0, .int 0, .int 0, .int 0, .int 0, .int 0, .int 0, .int 0, .ref q5, .ref q6, .ref q7, .ref q8, .int 0, .ref q9, .ref q10, .ref q11, .int 0, .ref q12, .null])) :: [(q1, .inl (tc 0, 5, .inl (fun _ => 0))), (q2, .inl (tc 0, 30, .inl (fun _ => 0))), (q3, .inl (tc 0, 6, .inl (fun _ => 0))), (q4, .inl (tc 0, 160, .inl (fun _ => 0))), (q5, .inl (tc 0, 70, .inl (fun _ => 0))), (q6, .inl (tc 0, 27, .inl (fun _ => 0))), (q7, .inl (tc 0, 54, .inl (fun _ => 0))), (q8, .inl (tc 1, 2, .inl (fun _ => 0))), (q9, .inl (tc 0, 30, .inl (fun _ => 0))), (q10, .inl (tc 0, 6, .inl (fun _ => 0))), (q11, .inl (tc 0, 720, .inl (fun _ => 0))), (q12, .inl (tc 0, 5040, .inl (fun _ => 0)))]) := hD
  refine lv_aload_n hx hb di_Model_101 rfl (lv_at hl 0 rfl) ?_
  refine lv_sipush (v := 720) hx hb di_Model_102 (by decide) ?_
  refine ax_newI (N' := 720) hx hb hts hK hP hD hS hA (by decide) (by decide) (by decide) (Nat.le_of_ble_eq_true rfl) (Nat.le_of_ble_eq_true rfl) di_Model_105 (fun q13 H hP hD hS => ?_)
  have hP : va_P D ax_cl ((h0, .inr (10, [.int 0, .ref q1, .int 0, .ref q2, .int 0, .ref q3, .int 0, .ref q4, .int 0, .int 0, .long 0, .int 0, .int 0, .int 0, .int 0, .int 0, .int 0, .int 0, .ref q5, .ref q6, .ref q7, .ref q8, .int 0, .ref q9, .ref q10, .ref q11, .int 0, .ref q12, .null])) :: [(q1, .inl (tc 0, 5, .inl (fun _ => 0))), (q2, .inl (tc 0, 30, .inl (fun _ => 0))), (q3, .inl (tc 0, 6, .inl (fun _ => 0))), (q4, .inl (tc 0, 160, .inl (fun _ => 0))), (q5, .inl (tc 0, 70, .inl (fun _ => 0))), (q6, .inl (tc 0, 27, .inl (fun _ => 0))), (q7, .inl (tc 0, 54, .inl (fun _ => 0))), (q8, .inl (tc 1, 2, .inl (fun _ => 0))), (q9, .inl (tc 0, 30, .inl (fun _ => 0))), (q10, .inl (tc 0, 6, .inl (fun _ => 0))), (q11, .inl (tc 0, 720, .inl (fun _ => 0))), (q12, .inl (tc 0, 5040, .inl (fun _ => 0))), (q13, .inl (tc 0, 720, .inl (fun _ => 0)))]) H := hP
  have hD : va_D A ((h0, .inr (10, [.int 0, .ref q1, .int 0, .ref q2, .int 0, .ref q3, .int 0, .ref q4, .int 0, .int 0, .long 0, .int 0, .int 0, .int 0, .int 0, .int 0, .int 0, .int 0, .ref q5, .ref q6, .ref q7, .ref q8, .int 0, .ref q9, .ref q10, .ref q11, .int 0, .ref q12, .null])) :: [(q1, .inl (tc 0, 5, .inl (fun _ => 0))), (q2, .inl (tc 0, 30, .inl (fun _ => 0))), (q3, .inl (tc 0, 6, .inl (fun _ => 0))), (q4, .inl (tc 0, 160, .inl (fun _ => 0))), (q5, .inl (tc 0, 70, .inl (fun _ => 0))), (q6, .inl (tc 0, 27, .inl (fun _ => 0))), (q7, .inl (tc 0, 54, .inl (fun _ => 0))), (q8, .inl (tc 1, 2, .inl (fun _ => 0))), (q9, .inl (tc 0, 30, .inl (fun _ => 0))), (q10, .inl (tc 0, 6, .inl (fun _ => 0))), (q11, .inl (tc 0, 720, .inl (fun _ => 0))), (q12, .inl (tc 0, 5040, .inl (fun _ => 0))), (q13, .inl (tc 0, 720, .inl (fun _ => 0)))]) := hD
  refine ax_pf (own := "InnChangedModel") (ci := 10) (k := 28) (ty := .array .int) hx hb hts hown hin hK hP hD hS rfl (by decide) (ax_inM (i := 1105) (by decide +kernel)) rfl (by decide +kernel) rfl rfl (Nat.le_of_ble_eq_true rfl) di_Model_107 (fun H locs hP hD hS => ?_)
  have hP : va_P D ax_cl ((h0, .inr (10, [.int 0, .ref q1, .int 0, .ref q2, .int 0, .ref q3, .int 0, .ref q4, .int 0, .int 0, .long 0, .int 0, .int 0, .int 0, .int 0, .int 0, .int 0, .int 0, .ref q5, .ref q6, .ref q7, .ref q8, .int 0, .ref q9, .ref q10, .ref q11, .int 0, .ref q12, .ref q13])) :: [(q1, .inl (tc 0, 5, .inl (fun _ => 0))), (q2, .inl (tc 0, 30, .inl (fun _ => 0))), (q3, .inl (tc 0, 6, .inl (fun _ => 0))), (q4, .inl (tc 0, 160, .inl (fun _ => 0))), (q5, .inl (tc 0, 70, .inl (fun _ => 0))), (q6, .inl (tc 0, 27, .inl (fun _ => 0))), (q7, .inl (tc 0, 54, .inl (fun _ => 0))), (q8, .inl (tc 1, 2, .inl (fun _ => 0))), (q9, .inl (tc 0, 30, .inl (fun _ => 0))), (q10, .inl (tc 0, 6, .inl (fun _ => 0))), (q11, .inl (tc 0, 720, .inl (fun _ => 0))), (q12, .inl (tc 0, 5040, .inl (fun _ => 0))), (q13, .inl (tc 0, 720, .inl (fun _ => 0)))]) H := hP
  have hD : va_D A ((h0, .inr (10, [.int 0, .ref q1, .int 0, .ref q2, .int 0, .ref q3, .int 0, .ref q4, .int 0, .int 0, .long 0, .int 0, .int 0, .int 0, .int 0, .int 0, .int 0, .int 0, .ref q5, .ref q6, .ref q7, .ref q8, .int 0, .ref q9, .ref q10, .ref q11, .int 0, .ref q12, .ref q13])) :: [(q1, .inl (tc 0, 5, .inl (fun _ => 0))), (q2, .inl (tc 0, 30, .inl (fun _ => 0))), (q3, .inl (tc 0, 6, .inl (fun _ => 0))), (q4, .inl (tc 0, 160, .inl (fun _ => 0))), (q5, .inl (tc 0, 70, .inl (fun _ => 0))), (q6, .inl (tc 0, 27, .inl (fun _ => 0))), (q7, .inl (tc 0, 54, .inl (fun _ => 0))), (q8, .inl (tc 1, 2, .inl (fun _ => 0))), (q9, .inl (tc 0, 30, .inl (fun _ => 0))), (q10, .inl (tc 0, 6, .inl (fun _ => 0))), (q11, .inl (tc 0, 720, .inl (fun _ => 0))), (q12, .inl (tc 0, 5040, .inl (fun _ => 0))), (q13, .inl (tc 0, 720, .inl (fun _ => 0)))]) := hD
  refine W.widen (k := 13) (n := 6870) (Nat.le_of_ble_eq_true rfl) (Nat.le_of_ble_eq_true rfl) ?_
  exact W.vret hx hb hr (fun t ht hW => ⟨⟨(fun _ k => [q1, q2, q3, q4, q5, q6, q7, q8, q9, q10, q11, q12, q13].getD k 0), rfl, trivial, by rw [ht]; exact hP, va_K.moved hW.alike hK, hD⟩, hS.F ht⟩) hS.2.2 di_Model_110
