/-! the reference: the least set of n pairs -/
theorem e01 : iw ((0 : Int) + 1) = 1 := by rw [iw_def]; omega
theorem o4 {a b c e : Nat} (ha : a < 24) (hb : b < 24) (hc : c < 24) (he : e < 24) : xior (xior (xior (xshl 1 (a : Int)) (xshl 1 (b : Int))) (xshl 1 (c : Int))) (xshl 1 (e : Int)) = ((bs [a, b, c, e] : Nat) : Int) := by
  have pa := p24 ha
  have pb := p24 hb
  have pc := p24 hc
  have pe := p24 he
  have q1 := or24 pa pb
  have q2 := or24 q1 pc
  rw [sp_one (by omega), sp_one (by omega), sp_one (by omega), sp_one (by omega), xior_nat (by omega) (by omega), xior_nat (by omega) (by omega), xior_nat (by omega) (by omega)]
  show _ = ((2 ^ a ||| (2 ^ b ||| (2 ^ c ||| (2 ^ e ||| 0))) : Nat) : Int)
  rw [Nat.or_zero, ← Nat.or_assoc, ← Nat.or_assoc]
theorem o3 {a b c : Nat} (ha : a < 24) (hb : b < 24) (hc : c < 24) : xior (xior (xior (xshl 1 (a : Int)) (xshl 1 (b : Int))) (xshl 1 (c : Int))) 0 = ((bs [a, b, c] : Nat) : Int) := by
  have pa := p24 ha
  have pb := p24 hb
  have pc := p24 hc
  have q1 := or24 pa pb
  have q2 := or24 q1 pc
  rw [sp_one (by omega), sp_one (by omega), sp_one (by omega), xior_nat (by omega) (by omega), xior_nat (by omega) (by omega), xior_0 (by omega)]
  show _ = ((2 ^ a ||| (2 ^ b ||| (2 ^ c ||| 0)) : Nat) : Int)
  rw [Nat.or_zero, ← Nat.or_assoc]
theorem o2 {a b : Nat} (ha : a < 24) (hb : b < 24) : xior (xior (xior (xshl 1 (a : Int)) (xshl 1 (b : Int))) 0) 0 = ((bs [a, b] : Nat) : Int) := by
  have pa := p24 ha
  have pb := p24 hb
  have q1 := or24 pa pb
  rw [sp_one (by omega), sp_one (by omega), xior_nat (by omega) (by omega), xior_0 (by omega), xior_0 (by omega)]
  show _ = ((2 ^ a ||| (2 ^ b ||| 0) : Nat) : Int)
  rw [Nat.or_zero]
theorem o1 {a : Nat} (ha : a < 24) : xior (xior (xior (xshl 1 (a : Int)) 0) 0) 0 = ((bs [a] : Nat) : Int) := by
  have pa := p24 ha
  rw [sp_one (by omega), xior_0 (by omega), xior_0 (by omega), xior_0 (by omega)]
  show _ = ((2 ^ a ||| 0 : Nat) : Int)
  rw [Nat.or_zero]
set_option maxRecDepth 20000 in
theorem M_least_0 {d : Nat} {μ : Mem} {α : Al} {Q : AV → Mem → Prop} (hw : wf α) (ht : μ 61 2 = ((α.1 0 1 : Nat) : Int)) (hA : vAn μ α) (h1 : ∀ l, srch (4 * α.1 0 1) (fun l => ptB α (bs l)) 0 0 [] = some l → Q (xI ((bs l : Nat) : Int)) μ) (h2 : srch (4 * α.1 0 1) (fun l => ptB α (bs l)) 0 0 [] = none → Q (xI (-1)) μ) : GM (d + 1) 188 [xR 61, xI 0] μ Q := by
  have hT := wf_T hw
  have em : iw (4 * ((α.1 0 1 : Nat) : Int)) = ((4 * α.1 0 1 : Nat) : Int) := by rw [iw_id (by omega) (by omega)]; omega
  refine ge_M_leastOf_61_n0 ?_
  rw [ht, em]
  refine sg_M_leastOf_61_n0_13 ?_
  rw [if_pos (by decide)]
  refine sg_M_leastOf_61_n0_26 ?_
  rw [if_pos (by decide)]
  refine sg_M_leastOf_61_n0_44 ?_
  rw [if_pos (by decide)]
  refine sg_M_leastOf_61_n0_62 ?_
  rw [if_pos (by decide), e01]
  refine M_parts_ok (S := bs []) hw hA ?_
  refine gI_mk ?_
  cases e : ptB α (bs []) with
  | true =>
    rw [if_neg (by decide)]
    exact h1 [] (by show (if ptB α (bs []) then some [] else none) = some []; rw [if_pos e])
  | false =>
    rw [if_pos (by rfl)]
    refine sg_M_leastOf_61_n0_62 ?_
    rw [if_neg (by decide)]
    refine sg_M_leastOf_61_n0_114 ?_
    rw [e01]
    refine sg_M_leastOf_61_n0_44 ?_
    rw [if_neg (by decide)]
    refine sg_M_leastOf_61_n0_117 ?_
    rw [e01]
    refine sg_M_leastOf_61_n0_26 ?_
    rw [if_neg (by decide)]
    refine sg_M_leastOf_61_n0_120 ?_
    rw [e01]
    refine sg_M_leastOf_61_n0_13 ?_
    rw [if_neg (by decide)]
    exact h2 (by show (if ptB α (bs []) then some [] else none) = none; rw [if_neg (by rw [e]; decide)])
set_option maxRecDepth 20000 in
theorem M_least_1 {d : Nat} {μ : Mem} {α : Al} {Q : AV → Mem → Prop} (hw : wf α) (ht : μ 61 2 = ((α.1 0 1 : Nat) : Int)) (hA : vAn μ α) (h1 : ∀ l, srch (4 * α.1 0 1) (fun l => ptB α (bs l)) 1 0 [] = some l → Q (xI ((bs l : Nat) : Int)) μ) (h2 : srch (4 * α.1 0 1) (fun l => ptB α (bs l)) 1 0 [] = none → Q (xI (-1)) μ) : GM (d + 1) 188 [xR 61, xI 1] μ Q := by
  have hT := wf_T hw
  have em : iw (4 * ((α.1 0 1 : Nat) : Int)) = ((4 * α.1 0 1 : Nat) : Int) := by rw [iw_id (by omega) (by omega)]; omega
  refine ge_M_leastOf_61_n1 ?_
  rw [ht, em]
  refine lp_fq (m := 4 * α.1 0 1) (f := fun a => srch (4 * α.1 0 1) (fun l => ptB α (bs l)) 0 (a + 1) [a]) (Wh := fun (a : Nat) => ∀ v5 v6 v7 v8, DW (d + 1) 188 13 [xR 61, xI 1, xI ((4 * α.1 0 1 : Nat) : Int), xI ((4 * α.1 0 1 : Nat) : Int), xI (a : Int), v5, v6, v7, v8] μ Q) (Wx := Q (xI (-1)) μ) (R := (fun l => Q (xI ((bs l : Nat) : Int)) μ)) ?_ ?_ (4 * α.1 0 1) 0 (by omega) h1 h2 _ _ _ _
  · intro a ha hs0 hn0 v5 v6 v7 v8
    refine sg_M_leastOf_61_n1_13 ?_
    rw [if_pos (by omega)]
    refine sg_M_leastOf_61_n1_26 ?_
    rw [if_pos (by decide)]
    refine sg_M_leastOf_61_n1_44 ?_
    rw [if_pos (by decide)]
    refine sg_M_leastOf_61_n1_62 ?_
    rw [if_pos (by decide), o1 (by omega), e01]
    refine M_parts_ok (S := bs [a]) hw hA ?_
    refine gI_mk ?_
    cases e : ptB α (bs [a]) with
    | true =>
      rw [if_neg (by decide)]
      exact hs0 [a] (by show (if ptB α (bs [a]) then some [a] else none) = some [a]; rw [if_pos e])
    | false =>
      rw [if_pos (by rfl)]
      refine sg_M_leastOf_61_n1_62 ?_
      rw [if_neg (by decide)]
      refine sg_M_leastOf_61_n1_114 ?_
      rw [e01]
      refine sg_M_leastOf_61_n1_44 ?_
      rw [if_neg (by decide)]
      refine sg_M_leastOf_61_n1_117 ?_
      rw [e01]
      refine sg_M_leastOf_61_n1_26 ?_
      rw [if_neg (by decide)]
      refine sg_M_leastOf_61_n1_120 ?_
      rw [iw_k1 (by omega)]
      exact hn0 (by show (if ptB α (bs [a]) then some [a] else none) = none; rw [if_neg (by rw [e]; decide)]) _ _ _ _
  · intro hx v5 v6 v7 v8
    refine sg_M_leastOf_61_n1_13 ?_
    rw [if_neg (by omega)]
    exact hx
set_option maxRecDepth 20000 in
theorem M_least_2 {d : Nat} {μ : Mem} {α : Al} {Q : AV → Mem → Prop} (hw : wf α) (ht : μ 61 2 = ((α.1 0 1 : Nat) : Int)) (hA : vAn μ α) (h1 : ∀ l, srch (4 * α.1 0 1) (fun l => ptB α (bs l)) 2 0 [] = some l → Q (xI ((bs l : Nat) : Int)) μ) (h2 : srch (4 * α.1 0 1) (fun l => ptB α (bs l)) 2 0 [] = none → Q (xI (-1)) μ) : GM (d + 1) 188 [xR 61, xI 2] μ Q := by
  have hT := wf_T hw
  have em : iw (4 * ((α.1 0 1 : Nat) : Int)) = ((4 * α.1 0 1 : Nat) : Int) := by rw [iw_id (by omega) (by omega)]; omega
  refine ge_M_leastOf_61_n2 ?_
  rw [ht, em]
  refine lp_fq (m := 4 * α.1 0 1) (f := fun a => srch (4 * α.1 0 1) (fun l => ptB α (bs l)) 1 (a + 1) [a]) (Wh := fun (a : Nat) => ∀ v5 v6 v7 v8, DW (d + 1) 188 13 [xR 61, xI 2, xI ((4 * α.1 0 1 : Nat) : Int), xI ((4 * α.1 0 1 : Nat) : Int), xI (a : Int), v5, v6, v7, v8] μ Q) (Wx := Q (xI (-1)) μ) (R := (fun l => Q (xI ((bs l : Nat) : Int)) μ)) ?_ ?_ (4 * α.1 0 1) 0 (by omega) h1 h2 _ _ _ _
  · intro a ha hs0 hn0 v5 v6 v7 v8
    refine sg_M_leastOf_61_n2_13 ?_
    rw [if_pos (by omega), iw_k1 (by omega)]
    refine lp_fq (m := 4 * α.1 0 1) (f := fun b => srch (4 * α.1 0 1) (fun l => ptB α (bs l)) 0 (b + 1) [a, b]) (Wh := fun (b : Nat) => ∀ v6 v7 v8, DW (d + 1) 188 26 [xR 61, xI 2, xI ((4 * α.1 0 1 : Nat) : Int), xI ((4 * α.1 0 1 : Nat) : Int), xI (a : Int), xI (b : Int), v6, v7, v8] μ Q) (Wx := ∀ (x : Int) v6 v7 v8, DW (d + 1) 188 120 [xR 61, xI 2, xI ((4 * α.1 0 1 : Nat) : Int), xI ((4 * α.1 0 1 : Nat) : Int), xI (a : Int), xI x, v6, v7, v8] μ Q) (R := (fun l => Q (xI ((bs l : Nat) : Int)) μ)) ?_ ?_ (4 * α.1 0 1 - (a + 1)) (a + 1) (by omega) hs0 (fun e x v6 v7 v8 => ?_) _ _ _
    · intro b hb hs1 hn1 v6 v7 v8
      refine sg_M_leastOf_61_n2_26 ?_
      rw [if_pos (by omega)]
      refine sg_M_leastOf_61_n2_44 ?_
      rw [if_pos (by decide)]
      refine sg_M_leastOf_61_n2_62 ?_
      rw [if_pos (by decide), o2 (by omega) (by omega), e01]
      refine M_parts_ok (S := bs [a, b]) hw hA ?_
      refine gI_mk ?_
      cases e : ptB α (bs [a, b]) with
      | true =>
        rw [if_neg (by decide)]
        exact hs1 [a, b] (by show (if ptB α (bs [a, b]) then some [a, b] else none) = some [a, b]; rw [if_pos e])
      | false =>
        rw [if_pos (by rfl)]
        refine sg_M_leastOf_61_n2_62 ?_
        rw [if_neg (by decide)]
        refine sg_M_leastOf_61_n2_114 ?_
        rw [e01]
        refine sg_M_leastOf_61_n2_44 ?_
        rw [if_neg (by decide)]
        refine sg_M_leastOf_61_n2_117 ?_
        rw [iw_k1 (by omega)]
        exact hn1 (by show (if ptB α (bs [a, b]) then some [a, b] else none) = none; rw [if_neg (by rw [e]; decide)]) _ _ _
    · intro hx v6 v7 v8
      refine sg_M_leastOf_61_n2_26 ?_
      rw [if_neg (by omega)]
      exact hx _ _ _ _
    · refine sg_M_leastOf_61_n2_120 ?_
      rw [iw_k1 (by omega)]
      exact hn0 e _ _ _ _
  · intro hx v5 v6 v7 v8
    refine sg_M_leastOf_61_n2_13 ?_
    rw [if_neg (by omega)]
    exact hx
set_option maxRecDepth 20000 in
theorem M_least_3 {d : Nat} {μ : Mem} {α : Al} {Q : AV → Mem → Prop} (hw : wf α) (ht : μ 61 2 = ((α.1 0 1 : Nat) : Int)) (hA : vAn μ α) (h1 : ∀ l, srch (4 * α.1 0 1) (fun l => ptB α (bs l)) 3 0 [] = some l → Q (xI ((bs l : Nat) : Int)) μ) (h2 : srch (4 * α.1 0 1) (fun l => ptB α (bs l)) 3 0 [] = none → Q (xI (-1)) μ) : GM (d + 1) 188 [xR 61, xI 3] μ Q := by
  have hT := wf_T hw
  have em : iw (4 * ((α.1 0 1 : Nat) : Int)) = ((4 * α.1 0 1 : Nat) : Int) := by rw [iw_id (by omega) (by omega)]; omega
  refine ge_M_leastOf_61_n3 ?_
  rw [ht, em]
  refine lp_fq (m := 4 * α.1 0 1) (f := fun a => srch (4 * α.1 0 1) (fun l => ptB α (bs l)) 2 (a + 1) [a]) (Wh := fun (a : Nat) => ∀ v5 v6 v7 v8, DW (d + 1) 188 13 [xR 61, xI 3, xI ((4 * α.1 0 1 : Nat) : Int), xI ((4 * α.1 0 1 : Nat) : Int), xI (a : Int), v5, v6, v7, v8] μ Q) (Wx := Q (xI (-1)) μ) (R := (fun l => Q (xI ((bs l : Nat) : Int)) μ)) ?_ ?_ (4 * α.1 0 1) 0 (by omega) h1 h2 _ _ _ _
  · intro a ha hs0 hn0 v5 v6 v7 v8
    refine sg_M_leastOf_61_n3_13 ?_
    rw [if_pos (by omega), iw_k1 (by omega)]
    refine lp_fq (m := 4 * α.1 0 1) (f := fun b => srch (4 * α.1 0 1) (fun l => ptB α (bs l)) 1 (b + 1) [a, b]) (Wh := fun (b : Nat) => ∀ v6 v7 v8, DW (d + 1) 188 26 [xR 61, xI 3, xI ((4 * α.1 0 1 : Nat) : Int), xI ((4 * α.1 0 1 : Nat) : Int), xI (a : Int), xI (b : Int), v6, v7, v8] μ Q) (Wx := ∀ (x : Int) v6 v7 v8, DW (d + 1) 188 120 [xR 61, xI 3, xI ((4 * α.1 0 1 : Nat) : Int), xI ((4 * α.1 0 1 : Nat) : Int), xI (a : Int), xI x, v6, v7, v8] μ Q) (R := (fun l => Q (xI ((bs l : Nat) : Int)) μ)) ?_ ?_ (4 * α.1 0 1 - (a + 1)) (a + 1) (by omega) hs0 (fun e x v6 v7 v8 => ?_) _ _ _
    · intro b hb hs1 hn1 v6 v7 v8
      refine sg_M_leastOf_61_n3_26 ?_
      rw [if_pos (by omega), iw_k1 (by omega)]
      refine lp_fq (m := 4 * α.1 0 1) (f := fun c => srch (4 * α.1 0 1) (fun l => ptB α (bs l)) 0 (c + 1) [a, b, c]) (Wh := fun (c : Nat) => ∀ v7 v8, DW (d + 1) 188 44 [xR 61, xI 3, xI ((4 * α.1 0 1 : Nat) : Int), xI ((4 * α.1 0 1 : Nat) : Int), xI (a : Int), xI (b : Int), xI (c : Int), v7, v8] μ Q) (Wx := ∀ (x : Int) v7 v8, DW (d + 1) 188 117 [xR 61, xI 3, xI ((4 * α.1 0 1 : Nat) : Int), xI ((4 * α.1 0 1 : Nat) : Int), xI (a : Int), xI (b : Int), xI x, v7, v8] μ Q) (R := (fun l => Q (xI ((bs l : Nat) : Int)) μ)) ?_ ?_ (4 * α.1 0 1 - (b + 1)) (b + 1) (by omega) hs1 (fun e x v7 v8 => ?_) _ _
      · intro c hc hs2 hn2 v7 v8
        refine sg_M_leastOf_61_n3_44 ?_
        rw [if_pos (by omega)]
        refine sg_M_leastOf_61_n3_62 ?_
        rw [if_pos (by decide), o3 (by omega) (by omega) (by omega), e01]
        refine M_parts_ok (S := bs [a, b, c]) hw hA ?_
        refine gI_mk ?_
        cases e : ptB α (bs [a, b, c]) with
        | true =>
          rw [if_neg (by decide)]
          exact hs2 [a, b, c] (by show (if ptB α (bs [a, b, c]) then some [a, b, c] else none) = some [a, b, c]; rw [if_pos e])
        | false =>
          rw [if_pos (by rfl)]
          refine sg_M_leastOf_61_n3_62 ?_
          rw [if_neg (by decide)]
          refine sg_M_leastOf_61_n3_114 ?_
          rw [iw_k1 (by omega)]
          exact hn2 (by show (if ptB α (bs [a, b, c]) then some [a, b, c] else none) = none; rw [if_neg (by rw [e]; decide)]) _ _
      · intro hx v7 v8
        refine sg_M_leastOf_61_n3_44 ?_
        rw [if_neg (by omega)]
        exact hx _ _ _
      · refine sg_M_leastOf_61_n3_117 ?_
        rw [iw_k1 (by omega)]
        exact hn1 e _ _ _
    · intro hx v6 v7 v8
      refine sg_M_leastOf_61_n3_26 ?_
      rw [if_neg (by omega)]
      exact hx _ _ _ _
    · refine sg_M_leastOf_61_n3_120 ?_
      rw [iw_k1 (by omega)]
      exact hn0 e _ _ _ _
  · intro hx v5 v6 v7 v8
    refine sg_M_leastOf_61_n3_13 ?_
    rw [if_neg (by omega)]
    exact hx
set_option maxRecDepth 20000 in
theorem M_least_4 {d : Nat} {μ : Mem} {α : Al} {Q : AV → Mem → Prop} (hw : wf α) (ht : μ 61 2 = ((α.1 0 1 : Nat) : Int)) (hA : vAn μ α) (h1 : ∀ l, srch (4 * α.1 0 1) (fun l => ptB α (bs l)) 4 0 [] = some l → Q (xI ((bs l : Nat) : Int)) μ) (h2 : srch (4 * α.1 0 1) (fun l => ptB α (bs l)) 4 0 [] = none → Q (xI (-1)) μ) : GM (d + 1) 188 [xR 61, xI 4] μ Q := by
  have hT := wf_T hw
  have em : iw (4 * ((α.1 0 1 : Nat) : Int)) = ((4 * α.1 0 1 : Nat) : Int) := by rw [iw_id (by omega) (by omega)]; omega
  refine ge_M_leastOf_61_n4 ?_
  rw [ht, em]
  refine lp_fq (m := 4 * α.1 0 1) (f := fun a => srch (4 * α.1 0 1) (fun l => ptB α (bs l)) 3 (a + 1) [a]) (Wh := fun (a : Nat) => ∀ v5 v6 v7 v8, DW (d + 1) 188 13 [xR 61, xI 4, xI ((4 * α.1 0 1 : Nat) : Int), xI ((4 * α.1 0 1 : Nat) : Int), xI (a : Int), v5, v6, v7, v8] μ Q) (Wx := Q (xI (-1)) μ) (R := (fun l => Q (xI ((bs l : Nat) : Int)) μ)) ?_ ?_ (4 * α.1 0 1) 0 (by omega) h1 h2 _ _ _ _
  · intro a ha hs0 hn0 v5 v6 v7 v8
    refine sg_M_leastOf_61_n4_13 ?_
    rw [if_pos (by omega), iw_k1 (by omega)]
    refine lp_fq (m := 4 * α.1 0 1) (f := fun b => srch (4 * α.1 0 1) (fun l => ptB α (bs l)) 2 (b + 1) [a, b]) (Wh := fun (b : Nat) => ∀ v6 v7 v8, DW (d + 1) 188 26 [xR 61, xI 4, xI ((4 * α.1 0 1 : Nat) : Int), xI ((4 * α.1 0 1 : Nat) : Int), xI (a : Int), xI (b : Int), v6, v7, v8] μ Q) (Wx := ∀ (x : Int) v6 v7 v8, DW (d + 1) 188 120 [xR 61, xI 4, xI ((4 * α.1 0 1 : Nat) : Int), xI ((4 * α.1 0 1 : Nat) : Int), xI (a : Int), xI x, v6, v7, v8] μ Q) (R := (fun l => Q (xI ((bs l : Nat) : Int)) μ)) ?_ ?_ (4 * α.1 0 1 - (a + 1)) (a + 1) (by omega) hs0 (fun e x v6 v7 v8 => ?_) _ _ _
    · intro b hb hs1 hn1 v6 v7 v8
      refine sg_M_leastOf_61_n4_26 ?_
      rw [if_pos (by omega), iw_k1 (by omega)]
      refine lp_fq (m := 4 * α.1 0 1) (f := fun c => srch (4 * α.1 0 1) (fun l => ptB α (bs l)) 1 (c + 1) [a, b, c]) (Wh := fun (c : Nat) => ∀ v7 v8, DW (d + 1) 188 44 [xR 61, xI 4, xI ((4 * α.1 0 1 : Nat) : Int), xI ((4 * α.1 0 1 : Nat) : Int), xI (a : Int), xI (b : Int), xI (c : Int), v7, v8] μ Q) (Wx := ∀ (x : Int) v7 v8, DW (d + 1) 188 117 [xR 61, xI 4, xI ((4 * α.1 0 1 : Nat) : Int), xI ((4 * α.1 0 1 : Nat) : Int), xI (a : Int), xI (b : Int), xI x, v7, v8] μ Q) (R := (fun l => Q (xI ((bs l : Nat) : Int)) μ)) ?_ ?_ (4 * α.1 0 1 - (b + 1)) (b + 1) (by omega) hs1 (fun e x v7 v8 => ?_) _ _
      · intro c hc hs2 hn2 v7 v8
        refine sg_M_leastOf_61_n4_44 ?_
        rw [if_pos (by omega), iw_k1 (by omega)]
        refine lp_fq (m := 4 * α.1 0 1) (f := fun g => srch (4 * α.1 0 1) (fun l => ptB α (bs l)) 0 (g + 1) [a, b, c, g]) (Wh := fun (g : Nat) => ∀ v8, DW (d + 1) 188 62 [xR 61, xI 4, xI ((4 * α.1 0 1 : Nat) : Int), xI ((4 * α.1 0 1 : Nat) : Int), xI (a : Int), xI (b : Int), xI (c : Int), xI (g : Int), v8] μ Q) (Wx := ∀ (x : Int) v8, DW (d + 1) 188 114 [xR 61, xI 4, xI ((4 * α.1 0 1 : Nat) : Int), xI ((4 * α.1 0 1 : Nat) : Int), xI (a : Int), xI (b : Int), xI (c : Int), xI x, v8] μ Q) (R := (fun l => Q (xI ((bs l : Nat) : Int)) μ)) ?_ ?_ (4 * α.1 0 1 - (c + 1)) (c + 1) (by omega) hs2 (fun e x v8 => ?_) _
        · intro g hg hs3 hn3 v8
          refine sg_M_leastOf_61_n4_62 ?_
          rw [if_pos (by omega), o4 (by omega) (by omega) (by omega) (by omega), iw_k1 (by omega)]
          refine M_parts_ok (S := bs [a, b, c, g]) hw hA ?_
          refine gI_mk ?_
          cases e : ptB α (bs [a, b, c, g]) with
          | true =>
            rw [if_neg (by decide)]
            exact hs3 [a, b, c, g] (by show (if ptB α (bs [a, b, c, g]) then some [a, b, c, g] else none) = some [a, b, c, g]; rw [if_pos e])
          | false =>
            rw [if_pos (by rfl)]
            exact hn3 (by show (if ptB α (bs [a, b, c, g]) then some [a, b, c, g] else none) = none; rw [if_neg (by rw [e]; decide)]) _
        · intro hx v8
          refine sg_M_leastOf_61_n4_62 ?_
          rw [if_neg (by omega)]
          exact hx _ _
        · refine sg_M_leastOf_61_n4_114 ?_
          rw [iw_k1 (by omega)]
          exact hn2 e _ _
      · intro hx v7 v8
        refine sg_M_leastOf_61_n4_44 ?_
        rw [if_neg (by omega)]
        exact hx _ _ _
      · refine sg_M_leastOf_61_n4_117 ?_
        rw [iw_k1 (by omega)]
        exact hn1 e _ _ _
    · intro hx v6 v7 v8
      refine sg_M_leastOf_61_n4_26 ?_
      rw [if_neg (by omega)]
      exact hx _ _ _ _
    · refine sg_M_leastOf_61_n4_120 ?_
      rw [iw_k1 (by omega)]
      exact hn0 e _ _ _ _
  · intro hx v5 v6 v7 v8
    refine sg_M_leastOf_61_n4_13 ?_
    rw [if_neg (by omega)]
    exact hx
