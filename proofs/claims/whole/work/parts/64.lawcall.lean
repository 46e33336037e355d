/-! THE CLAIM OUT OF ONE WALK OF THE LAW'S BODY. Your part is whole_start (and what it stands on); all else here is the same for every law, but numbers. -/
def R_law : String := "InnChangedLaw"
def lw_P (b : Addr) (xs : List Int32) (args : Array Value) (s : State) : Prop := args = #[.ref b] ∧ s.IntsAt b xs ∧ xs.length ≤ 256 ∧ (Jvm.Cond.and given_1 narrow_1).before args s = true
def lw_Q (_ : Array Value) (s : State) (o : Outcome) (t : State) : Prop := o = .returned (some (.int 1)) ∧ Framed s o t [] 600000 7302250
def lw_Z (below : List Frame) (a : Array Value) (s : State) : State → Prop := fun t => ∃ o, t.status = .running ∧ Ended t below o ∧ lw_Q a s o t
/-- the law's own end, with 1 on the stack, nothing written that was there before, its room as the claim has it -/
theorem lw_ret {p : Program} {l : Launch} {e : Env} {s : State} {m : MethodId} {below : List Frame} {meth : Method} {c : Code} {b : Nat} (hx : p.tables.exec = Jvm.exec) (hb : c.code = code) (hr : meth.sig.returnType = ret) (hlocks : meth.locks = false) {pc : Nat} {H : Heap} {ls : Array Slot} (hdg : decode code pc = .ok (.ireturn, 1)) : W p l e room_1 s m #[Value.ref b] below meth c H [] 600000 7302250 (lw_Z below #[Value.ref b] s) (F0 m pc ls [.int 1]) := by
  intro T hT X
  obtain ⟨fs, hret, hrun, hended, hW, hframe⟩ := X.leave (v := some (.int 1)) (hlocks := hlocks) (fun h => by rw [hr] at h; cases h)
  have hmeth' : T.vm.method? m = some meth := X.method'
  refine ⟨T.setFrames fs, ?_, .returned (some (.int 1)), hrun, hended, rfl, ⟨_, rfl⟩, hW, hframe⟩
  jvm_step X.here [X.here.top, hx, hb, hdg, hmeth', hr, ret, narrow_b1]
  (try refine ⟨rfl, ?_⟩); (try refine ⟨rfl, ?_⟩)
  first | (intro acts; rw [hret _ acts rfl rfl rfl]) | rw [hret _ _ rfl rfl rfl]
  exact Steps.refl _
/-- what holds at the law's entry: the machine, the code, the tables' words (any of lw_tbl by 'hts w (by decide +kernel)'), the script of L ints xs at the cell b, what the Statement gives of the start (any of its parts by flat_of_before) -/
def lw_At (p : Program) (s : State) (m : MethodId) (meth : Method) (c : Code) (b L : Nat) (xs : Nat → Int32) : Prop :=
  p.tables.exec = Jvm.exec ∧ c.code = code ∧ meth.sig.returnType = ret ∧ c.maxLocals = 4 ∧ s.vm.findClass R_law = some m.cls ∧ (∀ w ∈ lw_tbl, w.before #[Value.ref b] s = true) ∧ va_X b L xs s s.heap ∧ b < s.heap.size ∧ meth.locks = false ∧ (Jvm.Cond.and given_1 narrow_1).before #[Value.ref b] s = true
/-! the law as a caller of the class and of the reference -/
def lw_N (s : State) : Nat → Prop := fun x => s.heap.size ≤ x
def lw_E (p : Program) (s : State) (m : MethodId) (meth : Method) (c : Code) (b L : Nat) (xs : Nat → Int32) (q : (Nat → Nat) × Value) (tc : Nat → ClassId) (D : va_G) : Prop :=
  p.tables.exec = Jvm.exec ∧ c.code = code ∧ meth.sig.returnType = ret ∧ c.maxLocals = 4 ∧ s.vm.findClass R_law = some m.cls ∧ (∀ w ∈ lw_tbl, w.before #[Value.ref b] s = true) ∧ va_X b L xs s s.heap ∧ b < s.heap.size ∧ meth.locks = false ∧ va_K D ax_cl (ax_tys tc) s ∧ ax_KC q (lw_N s) s s.heap ∧ (∀ i j : Nat, i < 75 → j < 75 → q.1 i = q.1 j → i = j)
theorem lw_goodW {w : Cond} (h : w ∈ ax_wsA) : w ∈ lw_tbl ∧ ((w.onTables && w.keeps) = true ∨ ∃ ty, w = .arrayClass ty) := ⟨(List.mem_filter.mp h).1, good_of_word (List.mem_filter.mp h).2⟩
theorem lw_goodV {a k : Nat} (hb : k < ax_K) (h1 : .methodLink R_law a (ax_y k) ∈ ax_wsA) (h2 : .instanceMethod (ax_y k) ∈ ax_wsA) (h3 : .selects (ax_y k).cls (ax_y k) (ax_y k) ∈ ax_wsA) (h4 : .initialized (ax_y k).cls ∈ ax_wsA) : GoodIn lw_tbl (wsV R_law a (ax_y k).cls (ax_y k) (ax_ws k)) := by
  intro w hw
  rcases List.mem_append.mp hw with h | h
  · simp only [List.mem_cons, List.not_mem_nil, or_false] at h
    rcases h with rfl | rfl | rfl | rfl
    · exact lw_goodW h1
    · exact lw_goodW h2
    · exact lw_goodW h3
    · exact lw_goodW h4
  · rcases List.mem_cons.mp h with rfl | h
    · exact lw_goodW (ax_codeIn k hb)
    · exact lw_goodW h
theorem lw_call {p : Program} {l : Launch} {e : Env} {s : State} {m : MethodId} {below : List Frame} {meth : Method} {c : Code} {b L : Nat} {xs : Nat → Int32} {q : (Nat → Nat) × Value} {tc : Nat → ClassId} {D : va_G} (C : lw_E p s m meth c b L xs q tc D) {H : Heap} {locs : List Loc} {cells slots pc : Nat} {ls : Array Slot} {rest : List Value} {Qf : State → Prop} {k a n d r : Nat} {as : List AV} {μ : Mem} {Q' : AV → Mem → Prop}
    (hcs : cells ≤ 600000 ∧ slots ≤ 7302250) (hP : va_P D ax_cl (ax_wd (ax_sd k) q tc μ) H) (hD : va_D (lw_N s) (ax_wd (ax_sd k) q tc μ)) (hS : va_S (lw_N s) s.heap H locs) (hμ : ax_okm μ) (hbK : k < ax_K) (w1 : .methodLink R_law a (ax_y k) ∈ ax_wsA) (w2 : .instanceMethod (ax_y k) ∈ ax_wsA) (w3 : .selects (ax_y k).cls (ax_y k) (ax_y k) ∈ ax_wsA) (w4 : .initialized (ax_y k).cls ∈ ax_wsA)
    (hpar : (parseMethodDescriptor (ax_y k).desc).map (fun d => d.parameters.length) = some n) (hac : as.length = n) (hin : ax_inS k r = true) (hcd : ∃ ks : List Nat, ax_cd r = (0, ax_mciL.getD k 99, ks)) (hls : ls.size = 4) (hrest : (rest.map fun v => v.category).sum ≤ 8) (hdd : d ≤ 12) (hG : GM d k (xR r :: as) μ Q') (hok : ∀ v ∈ as, ax_okv v) (hdec : decode code pc = .ok (.invokevirtual a, 3))
    (h : ∀ (v : AV) (μ' : Mem) (H1 : Heap) (locs1 : List Loc), Q' v μ' → ax_okv v → ax_okm μ' → va_P D ax_cl (ax_wd (ax_sd k) q tc μ') H1 → va_D (lw_N s) (ax_wd (ax_sd k) q tc μ') → va_S (lw_N s) s.heap H1 locs1 → H.size ≤ H1.size → (∀ x : Nat, x < H.size → ¬ va_A (ax_wd (ax_sd k) q tc μ) H.size x → H1[x]? = H[x]?) → W p l e room_1 s m #[Value.ref b] below meth c H1 locs1 cells slots Qf (F0 m (pc + 3) ls ((ax_rvo (ax_rk k) q v).toList ++ rest))) :
    W p l e room_1 s m #[Value.ref b] below meth c H locs cells slots Qf (F0 m pc ls ((as.map (ax_rv q)).reverse ++ Value.ref (q.1 r) :: rest)) := by
  obtain ⟨hx, hb, hr, hml, hown, hts, hX, hbl, hlk, hK, hKC, hinj⟩ := C
  obtain ⟨ks, hcd⟩ := hcd
  have hr0 : r ≠ 150 := by
    intro e; rw [e, ax_cd_out (by decide)] at hcd; cases hcd
  have hM := hG (ax_cc trivial hok) hμ l D tc q H.size
  have hFc := ax_free hD hS (fun _ h => h)
  have hn := ax_okN hbK
  have hml' := hn.2.1
  have hrecv : ∃ cell : Cell, H[q.1 r]? = some cell ∧ cell.vm.isStatics = false ∧ s.vm.findClass (ax_y k).cls = some cell.cls := by
    obtain ⟨hr1, hr2⟩ := ax_inS_e hin
    obtain ⟨cq, hcq, hlen⟩ := ax_cd_cl r _ ks hcd
    have he := ax_wd_get (q := q) (tc := tc) (μ := μ) hr1 hr2
    rw [ax_cE0 hcd] at he
    have := va_recv hK hP hcq he
    rw [(ax_mci_ok k hbK).2 cq hcq] at this
    exact this
  have eav : (xR r :: as).map (ax_rv q) = Value.ref (q.1 r) :: as.map (ax_rv q) := by rw [List.map_cons, ax_rvR hr0]
  rw [eav] at hM
  refine ax_callQ (va_runV (As := as.map (ax_rv q)) (rest := rest) ⟨hx, hb, hml, hown, hts⟩ hM (cwV n hts (lw_goodV hbK w1 w2 w3 w4) rfl rfl rfl ⟨rfl, hn.2.2.2.1, hn.2.2.2.2, hpar⟩ ⟨by show d + 1 ≤ 2048; omega, by show 8 + (ax_ml k + 11) + 40 * d ≤ 84000; omega⟩) ⟨fun a U g mk w => by
      obtain ⟨q0, q1, qP, qK, qD, qC⟩ := w
      exact ⟨q0, q1, qP, va_K.moved (u := U) (U := U.calling g mk a) (Vm.Alike.refl U.vm) qK, qD, ax_KC_call qC⟩, hrecv, fun U hU hW => ⟨rfl, by rw [hU], by rw [hU]; exact hP, va_K.moved hW.alike hK, hD.weaken (fun _ _ _ _ => trivial), ax_KC_to hKC hS hFc hU hW⟩⟩ rfl (by rw [List.length_map]; exact hac) hls rfl (lv_room hrest) hdec hcs) hS (fun x _ w => hFc x w) hFc (fun v μ' t H1 locs1 ht hvm hv hm hQ hP1 hK1 hD1 hS1 hz hfr => ?_)
  exact h v μ' H1 locs1 hQ hv hm hP1 (hD1.weaken (fun _ w _ hw => hFc w.1 hw)) hS1 hz hfr
/-- a world apart from the caller's stays -/
theorem lw_keep {q : (Nat → Nat) × Value} {tc : Nat → ClassId} {D : va_G} {sd sd' : Nat × Nat} {μ ν : Mem} {H H1 : Heap} (hinj : ∀ i j : Nat, i < 75 → j < 75 → q.1 i = q.1 j → i = j) (h1 : sd.1 + sd.2 ≤ 75) (h2 : sd'.1 + sd'.2 ≤ 75) (h3 : sd.1 + sd.2 ≤ sd'.1 ∨ sd'.1 + sd'.2 ≤ sd.1) (hP : va_P D ax_cl (ax_wd sd q tc ν) H) (hfr : ∀ x : Nat, x < H.size → ¬ va_A (ax_wd sd' q tc μ) H.size x → H1[x]? = H[x]?) : va_P D ax_cl (ax_wd sd q tc ν) H1 := by
  refine hP.kept (fun k w hk => hfr w.1 (hP k w hk).lt (fun hA => ?_))
  have hlt := (hP k w hk).lt
  obtain ⟨j, hj, hw⟩ : ∃ j, j < sd.2 ∧ q.1 (sd.1 + j) = w.1 := by
    unfold ax_wd at hk
    obtain ⟨j, hj, rfl⟩ := List.mem_map.mp (List.mem_of_getElem? hk)
    exact ⟨j, List.mem_range.mp hj, rfl⟩
  rcases hA with ⟨k2, e2, h⟩ | h
  · unfold ax_wd at h
    obtain ⟨j2, hj2, he⟩ := List.mem_map.mp (List.mem_of_getElem? h)
    have hj2 := List.mem_range.mp hj2
    have he : q.1 (sd'.1 + j2) = w.1 := congrArg Prod.fst he
    have := hinj _ _ (by omega) (by omega) (hw.trans he.symm)
    omega
  · omega
