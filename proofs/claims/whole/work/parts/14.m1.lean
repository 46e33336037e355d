/-! the reference's small methods -/
theorem M_works_ok {d t p : Nat} {w : Int} {μ : Mem} {α : Al} {Q : AV → Mem → Prop} (hv : vM μ α) (hw : wf α) (ht : t < α.1 0 1) (hp : p < α.1 0 1) (h : Q (xI (sp_works α t p w)) μ) : GM (d + 2) 153 [xR 61, xI (t : Int), xI (p : Int), xI w] μ Q := by
  have hT := wf_T hw
  have h1 := wf_kind hw t ht
  have h2 := wf_keep hw p hp
  have h3 := wf_P hw
  have h4 := wf_keep hw t ht
  have h5 := wf_one hw _ h2
  refine ge_M_works ?_
  simp (disch := omega) only [iw_53, iw_52, iw_50, iw_6, wb_eq, Int.toNat_natCast, vM_kind hv, vM_word hv, vM_keep hv, vM_pow hv, vM_one hv, ii_eq, ii_0, ii_1, ii_2, ii_p]
  unfold sp_works at h
  sorry
