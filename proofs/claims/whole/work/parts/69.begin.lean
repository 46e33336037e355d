/-! what the Statement gives of the start -/
def lw_fl : List Cond := flatC (Jvm.Cond.and given_1 narrow_1)
def lw_st : List Nat := [33, 40, 50, 63, 76, 88, 101, 115, 132, 149, 167, 186, 203, 222, 243, 262, 283]
def lw_sa : List Nat := [10, 18, 27]
def lw_tm (i : Nat) : Term := .string "InnChanged$Text" (ax_strI.getD i 0)
def lw_tv (i : Nat) : Term := .field (lw_tm i) "java/lang/String" "value" "[B"
def lw_ts (j : Nat) : Term := .static "InnChanged" (ax_staN.getD j "") "[I"
def lw_tb (k : Nat) (w : Cond) : Bool := decide (lw_tbl[k]? = some w)
theorem lw_in2 {s : State} {args : Array Value} (hts : ∀ w ∈ lw_tbl, w.before args s = true) {i : Nat} {w : Cond} (h : lw_tb i w = true) : w.before args s = true := hts _ (List.mem_of_getElem? (of_decide_eq_true h))
def lw_fa (k : Nat) (w : Cond) : Bool := decide (lw_fl[k]? = some w)
theorem lw_flm {k : Nat} {w : Cond} (h : lw_fa k w = true) : w ∈ lw_fl := List.mem_of_getElem? (of_decide_eq_true h)
def lw_c1 (i : Nat) : Bool := lw_fa (lw_st.getD i 0) (.exactly (lw_tm i) "java/lang/String") && lw_fa (lw_st.getD i 0 + 1) (.eq (.field (lw_tm i) "java/lang/String" "coder" "B") (.int 0)) && lw_fa (lw_st.getD i 0 + 2) (.arrayOf (lw_tv i) .byte) && lw_fa (lw_st.getD i 0 + 3) (.eq (.length (lw_tv i)) (.int (Int32.ofNat (ax_strN.getD i 0)))) && decide (ax_strN.getD i 0 < 2 ^ 31)
def lw_c2 (i j : Nat) : Bool := lw_fa (lw_st.getD i 0 + 4 + j) (.eq (.elem (lw_tv i) (.int (Int32.ofNat j))) (.int ((ax_strB32.getD i []).getD j 0)))
def lw_c3 (i j : Nat) : Bool := lw_fa (lw_st.getD i 0 + 4 + ax_strN.getD i 0 + j) (.not (.eq (lw_tm j) (lw_tm i)))
theorem lw_k1 : (List.range 17).all lw_c1 = true := by decide +kernel
theorem lw_k2 : (List.range 17).all (fun i => (List.range (ax_strN.getD i 0)).all (lw_c2 i)) = true := by decide +kernel
theorem lw_k3 : (List.range 17).all (fun i => (List.range i).all (lw_c3 i)) = true := by decide +kernel
def lw_c4 (j : Nat) : Bool := lw_fa (lw_sa.getD j 0) (.arrayOf (lw_ts j) .int) && lw_fa (lw_sa.getD j 0 + 1) (.eq (.length (lw_ts j)) (.int (Int32.ofNat (ax_staV.getD j []).length))) && (List.range (ax_staV.getD j []).length).all (fun n => lw_fa (lw_sa.getD j 0 + 2 + n) (.eq (.elem (lw_ts j) (.int (Int32.ofNat n))) (.int (Int32.ofInt ((ax_staV.getD j []).getD n 0))))) && decide ((ax_staV.getD j []).length < 2 ^ 31) && lw_tb ([724, 746, 748].getD j 0) (.laysStatic "InnChanged" (ax_staN.getD j "") "[I")
theorem lw_k4 : (List.range 3).all lw_c4 = true := by decide +kernel
theorem lw_str {s : State} {args : Array Value} (hf : ∀ w ∈ lw_fl, w.before args s = true) : ∃ adK adV : Nat → Nat, vk_S 17 ax_strN ax_strB32 adK adV (lw_N s) s s.heap ∧ ∀ i : Nat, i < 17 → (lw_tm i).eval args s none [] s = some (.ref (adK i)) := by
  have h1 : ∀ i : Nat, i < 17 → lw_c1 i = true := fun i hi => List.all_eq_true.mp lw_k1 i (List.mem_range.mpr hi)
  simp only [lw_c1, Bool.and_eq_true, decide_eq_true_eq] at h1
  refine vk_Sof (fun i hi => (h1 i hi).2) (fun i hi => hf _ (lw_flm (h1 i hi).1.1.1.1)) (fun i hi => hf _ (lw_flm (h1 i hi).1.1.1.2)) (fun i hi => hf _ (lw_flm (h1 i hi).1.1.2)) (fun i hi => hf _ (lw_flm (h1 i hi).1.2)) (fun i hi j hj => hf _ (lw_flm (List.all_eq_true.mp (List.all_eq_true.mp lw_k2 i (List.mem_range.mpr hi)) j (List.mem_range.mpr hj)))) (fun i j hi hj hij => ?_) (fun a h1 h2 => Nat.lt_irrefl _ (Nat.lt_of_lt_of_le h1 h2))
  rcases Nat.lt_or_gt_of_ne hij with h | h
  · exact Or.inl (hf _ (lw_flm (List.all_eq_true.mp (List.all_eq_true.mp lw_k3 j (List.mem_range.mpr hj)) i (List.mem_range.mpr h))))
  · exact Or.inr (hf _ (lw_flm (List.all_eq_true.mp (List.all_eq_true.mp lw_k3 i (List.mem_range.mpr hi)) j (List.mem_range.mpr h))))
def lw_sr : List Nat := [499, 500, 501, 502, 503, 504, 505, 506, 507, 508, 509, 575, 576, 577, 578, 579, 580]
def lw_c5 (i : Nat) : Bool := lw_tb (lw_sr.getD i 0) (.stringRef "InnChanged$Text" (ax_strI.getD i 0) (ax_strT.getD i ""))
theorem lw_k5 : (List.range 17).all lw_c5 = true := by decide +kernel
theorem lw_in {s : State} {args : Array Value} (hts : ∀ w ∈ lw_tbl, w.before args s = true) {i : Nat} {w : Cond} (h : ax_in i w = true) : w.before args s = true := hts _ (List.mem_filter.mp (ax_inM h)).1
theorem lw_out {s : State} : ∀ a : Nat, a < s.heap.size → ¬ lw_N s a := fun a h1 h2 => Nat.lt_irrefl _ (Nat.lt_of_lt_of_le h1 h2)
theorem lw_KC {s : State} {args : Array Value} (hts : ∀ w ∈ lw_tbl, w.before args s = true) (hf : ∀ w ∈ lw_fl, w.before args s = true) : ∃ (kc : Nat → Nat) (fm : Value), ∀ q : (Nat → Nat) × Value, (∀ i : Nat, 75 ≤ i → q.1 i = kc i) → q.2 = fm → ax_KC q (lw_N s) s s.heap := by
  obtain ⟨adK, adV, hK, hE⟩ := lw_str hf
  have hst : ∀ j : Nat, ∃ t : Nat, j < 3 → va_Z "InnChanged" (ax_staN.getD j "") "[I" (.ref t) (lw_N s) s s.heap ∧ va_T .int t (ax_staV.getD j []).length (fun n => .int (Int32.ofInt ((ax_staV.getD j []).getD n 0))) (lw_N s) s s.heap := by
    intro j
    by_cases hj : j < 3
    · have h4 : lw_c4 j = true := List.all_eq_true.mp lw_k4 j (List.mem_range.mpr hj)
      simp only [lw_c4, Bool.and_eq_true, decide_eq_true_eq] at h4
      obtain ⟨⟨⟨⟨a1, a2⟩, a3⟩, a4⟩, a5⟩ := h4
      obtain ⟨t, ht, hT⟩ := va_Tof (f := fun n => .int (Int32.ofInt ((ax_staV.getD j []).getD n 0))) (A := lw_N s) a4 (hf _ (lw_flm a1)) (va_eqt (hf _ (lw_flm a2))) (fun n hn => va_eqt (hf _ (lw_flm (List.all_eq_true.mp a3 n (List.mem_range.mpr hn))))) lw_out
      exact ⟨t, fun _ => ⟨va_Zref (lw_in2 hts a5) (lw_in hts (i := 75) (by decide +kernel)) ht lw_out, hT⟩⟩
    · exact ⟨0, fun h => absurd h hj⟩
  obtain ⟨sa, hsa⟩ := Classical.axiomOfChoice hst
  have hz := va_Zqof (A := lw_N s) (lw_in2 hts (i := 539) (w := .laysStatic "jdk/internal/util/Preconditions" "SIOOBE_FORMATTER" "Ljava/util/function/BiFunction;") (by decide +kernel)) (lw_in hts (i := 88) (by decide +kernel)) (hf _ (lw_flm (k := 5) (by decide +kernel))) lw_out
  obtain ⟨fm, hfm, hz⟩ : ∃ fm : Value, (fm = .null ∨ ∃ t : Nat, fm = .ref t) ∧ va_Z "jdk/internal/util/Preconditions" "SIOOBE_FORMATTER" "Ljava/util/function/BiFunction;" fm (lw_N s) s s.heap := by
    rcases hz with h | ⟨t, h⟩
    · exact ⟨_, Or.inl rfl, h⟩
    · exact ⟨_, Or.inr ⟨t, rfl⟩, h⟩
  refine ⟨fun i => if i < 120 then adK (i - 100) else if i < 140 then adV (i - 120) else sa (i - 140), fm, fun q hq hq2 => ?_⟩
  have hq : ∀ i : Nat, 75 ≤ i → q.1 i = if i < 120 then adK (i - 100) else if i < 140 then adV (i - 120) else sa (i - 140) := hq
  have hK2 : vk_S 17 ax_strN ax_strB32 (fun i => q.1 (100 + i)) (fun i => q.1 (120 + i)) (lw_N s) s s.heap := by
    obtain ⟨g1, g2⟩ := hK
    have k1 : ∀ i : Nat, i < 17 → q.1 (100 + i) = adK i := fun i hi => by
      rw [hq _ (by omega), if_pos (by omega), show 100 + i - 100 = i by omega]
    have k2 : ∀ i : Nat, i < 17 → q.1 (120 + i) = adV i := fun i hi => by
      rw [hq _ (by omega), if_neg (by omega), if_pos (by omega), show 120 + i - 120 = i by omega]
    refine ⟨fun i hi => ?_, fun i j hi hj e => g2 i j hi hj ?_⟩
    · have := g1 i hi
      simp only [k1 i hi, k2 i hi]
      exact this
    · simp only [k1 i hi, k1 j hj] at e
      exact e
  refine ⟨hK2, fun i hi => vk_R.of (lw_in2 hts (List.all_eq_true.mp lw_k5 i (List.mem_range.mpr hi))) (by
    have := hE i hi
    rw [hq _ (by omega), if_pos (by omega), show 100 + i - 100 = i by omega]
    exact this), va_Zof (lw_in2 hts (i := 523) (by decide +kernel)) (lw_in hts (i := 86) (by decide +kernel)) (va_eqt (hf _ (lw_flm (k := 4) (by decide +kernel)))) lw_out, by rw [hq2]; exact hz, by rw [hq2]; exact hfm, fun j hj => ?_⟩
  rw [hq _ (by omega), if_neg (by omega), if_neg (by omega), show 140 + j - 140 = j by omega]
  exact hsa j hj
def lw_ii : List Nat := [361, 393, 325, 267, 203, 291, 246, 104, 145, 96, 1072]
theorem lw_k6 : (List.range 11).all (fun c => match ax_cl[c]? with
  | some q => ax_in (lw_ii.getD c 0) (.instantiable q.1 q.2.2)
  | none => true) = true := by decide +kernel
theorem lw_K {s : State} {args : Array Value} (hts : ∀ w ∈ lw_tbl, w.before args s = true) : ∃ (D : va_G) (tc : Nat → ClassId), va_K D ax_cl (ax_tys tc) s := by
  have h0 : ∀ c : Nat, ∃ d : ClassId × (Nat → Nat), ∀ q : vw_C, ax_cl[c]? = some q → u_Kn s q.1 q.2.1 q.2.2 d.1 d.2 := by
    intro c
    cases hq : ax_cl[c]? with
    | none => exact ⟨(default, fun _ => 0), fun q h => by cases h⟩
    | some q =>
      have hc : c < 11 := (List.getElem?_eq_some_iff.mp hq).1
      have h6 := List.all_eq_true.mp lw_k6 c (List.mem_range.mpr hc)
      simp only [hq] at h6
      obtain ⟨cC, iS, hk⟩ := u_known (ws := lw_tbl) (T := q.2.1) (N := q.2.2) hts (fun w hw => (List.mem_filter.mp ((ax_cl_ok hq).1 w hw)).1) (lw_in hts h6)
      exact ⟨(cC, iS), fun q' h => by cases h; exact hk⟩
  obtain ⟨d, hd⟩ := Classical.axiomOfChoice h0
  obtain ⟨c0, k0, m0, i0, j0, l0⟩ := Cond.arrayClass_spec (lw_in hts (i := 143) (w := .arrayClass .int) (by decide +kernel))
  obtain ⟨c1, k1, m1, i1, j1, l1⟩ := Cond.arrayClass_spec (lw_in hts (i := 265) (w := .arrayClass .boolean) (by decide +kernel))
  obtain ⟨p2, c2, k2, f2, -, j2, l2, i2⟩ := Cond.arrayOver_spec (hts (.arrayOver (.object "InnChanged$Now")) (List.mem_of_getElem? (i := 244) (of_decide_eq_true (by decide +kernel : decide (lw_tbl[244]? = some (.arrayOver (.object "InnChanged$Now"))) = true))))
  obtain ⟨p3, c3, k3, f3, j3, l3, i3⟩ := Cond.arrayOver_specA (hts (.arrayOver (.array .int)) (List.mem_of_getElem? (i := 297) (of_decide_eq_true (by decide +kernel : decide (lw_tbl[297]? = some (.arrayOver (.array .int))) = true))))
  refine ⟨(fun c => (d c).1, fun c => (d c).2), fun k => [c0, c1, c2, c3].getD k c0, fun c q hq => hd c q hq, fun k q hk => ?_⟩
  match k, hk with
  | 0, hk => cases hk; exact ⟨fun n z => ⟨fun k h => (by cases h), k0, j0, m0, l0⟩, i0⟩
  | 1, hk => cases hk; exact ⟨fun n z => ⟨fun k h => (by cases h), k1, j1, m1, l1⟩, i1⟩
  | 2, hk => cases hk; exact ⟨fun n z => ⟨fun k h => (by cases h), k2, j2, p2, l2⟩, k2, p2, j2, l2, f2, i2⟩
  | 3, hk => cases hk; exact ⟨fun n z => ⟨fun k h => (by cases h), k3, j3, p3, l3⟩, i3⟩
  | n + 4, hk => cases hk
theorem lw_ex {s : State} {args : Array Value} (hts : ∀ w ∈ lw_tbl, w.before args s = true) : ax_exX s := by
  have hm : ∀ (i : Nat) (w : Cond), decide (lw_tbl[i]? = some w) = true → w.before args s = true := fun i w h => hts w (List.mem_of_getElem? (of_decide_eq_true h))
  exact ⟨va_AO.of (hm 244 _ (by decide +kernel)), hm 297 (.arrayOver (.array .int)) (by decide +kernel), va_Nw.of rfl (hm 105 _ (by decide +kernel)), va_Nw.of rfl (hm 146 _ (by decide +kernel)), va_Nw.of rfl (hm 247 _ (by decide +kernel))⟩
theorem lr_0 : decode code 0 = .ok (.new 7, 3) := by decide +kernel
theorem lr_3 : decode code 3 = .ok (.dup, 1) := by decide +kernel
theorem lr_4 : decode code 4 = .ok (.invokespecial 9, 3) := by decide +kernel
theorem lr_7 : decode code 7 = .ok (.astore_n 1, 1) := by decide +kernel
theorem lr_8 : decode code 8 = .ok (.new 10, 3) := by decide +kernel
theorem lr_11 : decode code 11 = .ok (.dup, 1) := by decide +kernel
theorem lr_12 : decode code 12 = .ok (.invokespecial 12, 3) := by decide +kernel
theorem lr_15 : decode code 15 = .ok (.astore_n 2, 1) := by decide +kernel
set_option maxHeartbeats 4000000 in
set_option maxRecDepth 100000 in
/-- YOUR PART: from the entry, for every script of at most 256 ints, the law comes to its end with true -/
theorem whole_start {p : Program} {e : Env} {s : State} {m : MethodId} {below : List Frame} {meth : Method} {c : Code} (l : Launch) {b L : Nat} {xs : Nat → Int32} (hL : L ≤ 256) (C0 : lw_At p s m meth c b L xs) : W p l e room_1 s m #[Value.ref b] below meth c s.heap [] 0 0 (lw_Z below #[Value.ref b] s) (entryFrame m ([Value.ref b] : List Value).toArray 4) := by
  obtain ⟨hx, hb, hr, hml, hown, hts, hX, hbl, hlk, hgv⟩ := C0
  obtain ⟨D, tc, hK⟩ := lw_K hts
  obtain ⟨kc, fm, hKC⟩ := lw_KC hts (flat_of_before _ hgv)
  have hex := lw_ex hts
  have hl := lv_entry ([.ref b]) (n := 4) (Nat.le_of_ble_eq_true rfl)
  rw [lg_entry_eq]
  generalize (lg_sl ([.ref b]) ++ List.replicate (4 - (lg_sl ([.ref b])).length) Slot.unset).toArray = ls at hl ⊢
  have hl : lv_has ls 4 [(0, .ref b)] := hl
  have hS : va_S (lw_N s) s.heap s.heap [] := va_S.rf
  have hP : va_P D ax_cl [] s.heap := fun k q h => by cases h
  have hD : va_D (lw_N s) [] := ⟨fun _ _ _ _ h => (by cases h), fun _ _ h => (by cases h)⟩
  refine va_new (ci := 9) (fs := f0_X) (C := "InnChanged") (T := ax_T9) (N := 11) hx hb hts (fun w hw => (List.mem_filter.mp ((ax_cl_ok (ci := 9) rfl).1 w hw)).1) _ (ax_cl_ok (ci := 9) rfl).2.1 hown (lw_in hts (i := 95) (by decide +kernel)) (lw_in hts (i := 96) (by decide +kernel)) (lw_in hts (i := 75) (by decide +kernel)) hK hP hD hS (fun _ h => h) rfl (by decide +kernel) (Nat.le_of_ble_eq_true rfl) (Nat.le_of_ble_eq_true rfl) lr_0 (fun o1 H hP hD hS => ?_)
  refine lv_dup hx hb lr_3 rfl ?_
  refine ax_ctor (As := []) (n := 0) (rest := [.ref o1]) (ws := []) hx hb hml hown hts (fun w h => (List.mem_filter.mp h).1) (ct_X l) hK hP hD hS (fun _ h => h) (fun U g mk a h => ax_exX_c h) (fun u U h g => ax_exX_w h g) hex (ax_inM (i := 97) (by decide +kernel)) (ax_inM (i := 98) (by decide +kernel)) (ax_inM (i := 75) (by decide +kernel)) (ax_inM (i := 99) (by decide +kernel)) rfl (by decide +kernel) ⟨Nat.le_of_ble_eq_true rfl, Nat.le_of_ble_eq_true rfl⟩ rfl hl.1 (Nat.le_of_ble_eq_true rfl) lr_4 ⟨Nat.le_of_ble_eq_true rfl, Nat.le_of_ble_eq_true rfl⟩ (fun rX H locs hP hD hS => ?_)
  have hP : va_P D ax_cl (wn_X tc o1 rX) H := hP
  have hD : va_D (lw_N s) (wn_X tc o1 rX) := hD
  refine lv_astore_n hx hb lr_7 rfl hl (by decide) rfl (fun ls hl => ?_)
  have hl : lv_has ls 4 [(1, .ref o1), (0, .ref b)] := hl
  refine va_new (ci := 10) (fs := f0_Model) (C := "InnChangedModel") (T := ax_T10) (N := 29) hx hb hts (fun w hw => (List.mem_filter.mp ((ax_cl_ok (ci := 10) rfl).1 w hw)).1) _ (ax_cl_ok (ci := 10) rfl).2.1 hown (lw_in hts (i := 1071) (by decide +kernel)) (lw_in hts (i := 1072) (by decide +kernel)) (lw_in hts (i := 85) (by decide +kernel)) hK hP hD hS (fun _ h => h) rfl (by decide +kernel) (Nat.le_of_ble_eq_true rfl) (Nat.le_of_ble_eq_true rfl) lr_8 (fun o2 H hP hD hS => ?_)
  refine lv_dup hx hb lr_11 rfl ?_
  refine ax_ctor (As := []) (n := 0) (rest := [.ref o2]) (ws := wn_X tc o1 rX) hx hb hml hown hts (fun w h => (List.mem_filter.mp h).1) (ct_Model l) hK hP hD hS (fun _ h => h) (fun _ _ _ _ _ => trivial) (fun _ _ _ _ => trivial) trivial (ax_inM (i := 1073) (by decide +kernel)) (ax_inM (i := 1074) (by decide +kernel)) (ax_inM (i := 85) (by decide +kernel)) (ax_inM (i := 1075) (by decide +kernel)) rfl (by decide +kernel) ⟨Nat.le_of_ble_eq_true rfl, Nat.le_of_ble_eq_true rfl⟩ rfl hl.1 (Nat.le_of_ble_eq_true rfl) lr_12 ⟨Nat.le_of_ble_eq_true rfl, Nat.le_of_ble_eq_true rfl⟩ (fun rM H locs hP hD hS => ?_)
  refine lv_astore_n hx hb lr_15 rfl hl (by decide) rfl (fun ls hl => ?_)
  have hl : lv_has ls 4 [(2, .ref o2), (1, .ref o1), (0, .ref b)] := hl
  refine lv_iconst (v := 0) hx hb lr_16 (by decide) ?_
  refine lv_istore_n hx hb lr_17 rfl hl (by decide) rfl (fun ls hl => ?_)
  have hl : lv_has ls 4 [(3, .int 0), (2, .ref o2), (1, .ref o1), (0, .ref b)] := hl
  have hc := lw_cells o1 o2 rX rM kc fm tc
  exact lw_loop (q := lw_q o1 o2 rX rM kc fm) ⟨hx, hb, hr, hml, hown, hts, hX, hbl, hlk, hK, hKC _ (fun i hi => lw_qk hi) rfl, lw_inj hc hD⟩ hL ⟨Nat.le_of_ble_eq_true rfl, Nat.le_of_ble_eq_true rfl⟩ 300 0 lw_a0 lw_m0 lw_m0 H locs ls (by decide) (by decide) ⟨lw_wf0, lw_vX0, lw_CI0, lw_vM0, lw_okm, lw_okm, lw_toP (by decide) hc hP, lw_toP (by decide) hc hP, lw_toD (by decide) hc hD, lw_toD (by decide) hc hD, hS⟩ ⟨hl.1, hl.2.1, fun x hx => hl.2.2 x (by
    rcases List.mem_cons.mp hx with rfl | hx
    · exact List.mem_cons_self
    · rcases List.mem_cons.mp hx with rfl | hx
      · exact List.mem_of_getElem? (i := 3) rfl
      · rcases List.mem_cons.mp hx with rfl | hx
        · exact List.mem_of_getElem? (i := 2) rfl
        · rcases List.mem_cons.mp hx with rfl | hx
          · exact List.mem_of_getElem? (i := 1) rfl
          · cases hx)⟩
