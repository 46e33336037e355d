/-! the class: lines done -/
set_option maxRecDepth 20000 in
theorem X_ix_111_L {d : Nat} {μ : Mem} {Q : AV → Mem → Prop} (h : Q (xI 0) μ) : GM (d + 3) 31 [xR 111, xI 76] μ Q := by
  refine ge_JString_indexOf_111 ?_
  refine ge_JString_indexOf2_111 ?_
  refine ge_JStringLatin1_indexOf_131 ?_
  rw [if_neg (by decide), if_neg (by decide), if_pos (by decide), show max (0 : Int) 0 = 0 by decide, show min (2 : Int) 2 = 2 by decide]
  refine ge_JStringLatin1_indexOfChar_131 ?_
  rw [show xi2b 76 = 76 by decide +kernel]
  refine sg_JStringLatin1_indexOfChar_131_5 ?_
  rw [if_pos (by decide), wb_eq (by decide) (by decide), show ([76, 75] : List Int).getD (Int.toNat 0) 0 = 76 from rfl, if_pos rfl]
  exact gI_mk (gI_mk (gI_mk h))
set_option maxRecDepth 20000 in
theorem X_ix_111_K {d : Nat} {μ : Mem} {Q : AV → Mem → Prop} (h : Q (xI 1) μ) : GM (d + 3) 31 [xR 111, xI 75] μ Q := by
  refine ge_JString_indexOf_111 ?_
  refine ge_JString_indexOf2_111 ?_
  refine ge_JStringLatin1_indexOf_131 ?_
  rw [if_neg (by decide), if_neg (by decide), if_pos (by decide), show max (0 : Int) 0 = 0 by decide, show min (2 : Int) 2 = 2 by decide]
  refine ge_JStringLatin1_indexOfChar_131 ?_
  rw [show xi2b 75 = 75 by decide +kernel]
  refine sg_JStringLatin1_indexOfChar_131_5 ?_
  rw [if_pos (by decide), wb_eq (by decide) (by decide), show ([76, 75] : List Int).getD (Int.toNat 0) 0 = 76 from rfl, if_neg (by decide), show iw ((0 : Int) + 1) = 1 by rw [iw_def]; omega]
  refine sg_JStringLatin1_indexOfChar_131_5 ?_
  rw [if_pos (by decide), wb_eq (by decide) (by decide), show ([76, 75] : List Int).getD (Int.toNat 1) 0 = 75 from rfl, if_pos rfl]
  exact gI_mk (gI_mk (gI_mk h))
set_option maxRecDepth 20000 in
theorem X_ix_111_W {d : Nat} {μ : Mem} {Q : AV → Mem → Prop} (h : Q (xI (-1)) μ) : GM (d + 3) 31 [xR 111, xI 87] μ Q := by
  refine ge_JString_indexOf_111 ?_
  refine ge_JString_indexOf2_111 ?_
  refine ge_JStringLatin1_indexOf_131 ?_
  rw [if_neg (by decide), if_neg (by decide), if_pos (by decide), show max (0 : Int) 0 = 0 by decide, show min (2 : Int) 2 = 2 by decide]
  refine ge_JStringLatin1_indexOfChar_131 ?_
  rw [show xi2b 87 = 87 by decide +kernel]
  refine sg_JStringLatin1_indexOfChar_131_5 ?_
  rw [if_pos (by decide), wb_eq (by decide) (by decide), show ([76, 75] : List Int).getD (Int.toNat 0) 0 = 76 from rfl, if_neg (by decide), show iw ((0 : Int) + 1) = 1 by rw [iw_def]; omega]
  refine sg_JStringLatin1_indexOfChar_131_5 ?_
  rw [if_pos (by decide), wb_eq (by decide) (by decide), show ([76, 75] : List Int).getD (Int.toNat 1) 0 = 75 from rfl, if_neg (by decide), show iw ((1 : Int) + 1) = 2 by rw [iw_def]; omega]
  refine sg_JStringLatin1_indexOfChar_131_5 ?_
  rw [if_neg (by decide)]
  exact gI_mk (gI_mk (gI_mk h))
set_option maxRecDepth 20000 in
theorem X_ix_111_P {d : Nat} {μ : Mem} {Q : AV → Mem → Prop} (h : Q (xI (-1)) μ) : GM (d + 3) 31 [xR 111, xI 80] μ Q := by
  refine ge_JString_indexOf_111 ?_
  refine ge_JString_indexOf2_111 ?_
  refine ge_JStringLatin1_indexOf_131 ?_
  rw [if_neg (by decide), if_neg (by decide), if_pos (by decide), show max (0 : Int) 0 = 0 by decide, show min (2 : Int) 2 = 2 by decide]
  refine ge_JStringLatin1_indexOfChar_131 ?_
  rw [show xi2b 80 = 80 by decide +kernel]
  refine sg_JStringLatin1_indexOfChar_131_5 ?_
  rw [if_pos (by decide), wb_eq (by decide) (by decide), show ([76, 75] : List Int).getD (Int.toNat 0) 0 = 76 from rfl, if_neg (by decide), show iw ((0 : Int) + 1) = 1 by rw [iw_def]; omega]
  refine sg_JStringLatin1_indexOfChar_131_5 ?_
  rw [if_pos (by decide), wb_eq (by decide) (by decide), show ([76, 75] : List Int).getD (Int.toNat 1) 0 = 75 from rfl, if_neg (by decide), show iw ((1 : Int) + 1) = 2 by rw [iw_def]; omega]
  refine sg_JStringLatin1_indexOfChar_131_5 ?_
  rw [if_neg (by decide)]
  exact gI_mk (gI_mk (gI_mk h))
set_option maxRecDepth 20000 in
theorem X_ix_112_L {d : Nat} {μ : Mem} {Q : AV → Mem → Prop} (h : Q (xI 0) μ) : GM (d + 3) 31 [xR 112, xI 76] μ Q := by
  refine ge_JString_indexOf_112 ?_
  refine ge_JString_indexOf2_112 ?_
  refine ge_JStringLatin1_indexOf_132 ?_
  rw [if_neg (by decide), if_neg (by decide), if_pos (by decide), show max (0 : Int) 0 = 0 by decide, show min (3 : Int) 3 = 3 by decide]
  refine ge_JStringLatin1_indexOfChar_132 ?_
  rw [show xi2b 76 = 76 by decide +kernel]
  refine sg_JStringLatin1_indexOfChar_132_5 ?_
  rw [if_pos (by decide), wb_eq (by decide) (by decide), show ([76, 75, 87] : List Int).getD (Int.toNat 0) 0 = 76 from rfl, if_pos rfl]
  exact gI_mk (gI_mk (gI_mk h))
set_option maxRecDepth 20000 in
theorem X_ix_112_K {d : Nat} {μ : Mem} {Q : AV → Mem → Prop} (h : Q (xI 1) μ) : GM (d + 3) 31 [xR 112, xI 75] μ Q := by
  refine ge_JString_indexOf_112 ?_
  refine ge_JString_indexOf2_112 ?_
  refine ge_JStringLatin1_indexOf_132 ?_
  rw [if_neg (by decide), if_neg (by decide), if_pos (by decide), show max (0 : Int) 0 = 0 by decide, show min (3 : Int) 3 = 3 by decide]
  refine ge_JStringLatin1_indexOfChar_132 ?_
  rw [show xi2b 75 = 75 by decide +kernel]
  refine sg_JStringLatin1_indexOfChar_132_5 ?_
  rw [if_pos (by decide), wb_eq (by decide) (by decide), show ([76, 75, 87] : List Int).getD (Int.toNat 0) 0 = 76 from rfl, if_neg (by decide), show iw ((0 : Int) + 1) = 1 by rw [iw_def]; omega]
  refine sg_JStringLatin1_indexOfChar_132_5 ?_
  rw [if_pos (by decide), wb_eq (by decide) (by decide), show ([76, 75, 87] : List Int).getD (Int.toNat 1) 0 = 75 from rfl, if_pos rfl]
  exact gI_mk (gI_mk (gI_mk h))
set_option maxRecDepth 20000 in
theorem X_ix_112_W {d : Nat} {μ : Mem} {Q : AV → Mem → Prop} (h : Q (xI 2) μ) : GM (d + 3) 31 [xR 112, xI 87] μ Q := by
  refine ge_JString_indexOf_112 ?_
  refine ge_JString_indexOf2_112 ?_
  refine ge_JStringLatin1_indexOf_132 ?_
  rw [if_neg (by decide), if_neg (by decide), if_pos (by decide), show max (0 : Int) 0 = 0 by decide, show min (3 : Int) 3 = 3 by decide]
  refine ge_JStringLatin1_indexOfChar_132 ?_
  rw [show xi2b 87 = 87 by decide +kernel]
  refine sg_JStringLatin1_indexOfChar_132_5 ?_
  rw [if_pos (by decide), wb_eq (by decide) (by decide), show ([76, 75, 87] : List Int).getD (Int.toNat 0) 0 = 76 from rfl, if_neg (by decide), show iw ((0 : Int) + 1) = 1 by rw [iw_def]; omega]
  refine sg_JStringLatin1_indexOfChar_132_5 ?_
  rw [if_pos (by decide), wb_eq (by decide) (by decide), show ([76, 75, 87] : List Int).getD (Int.toNat 1) 0 = 75 from rfl, if_neg (by decide), show iw ((1 : Int) + 1) = 2 by rw [iw_def]; omega]
  refine sg_JStringLatin1_indexOfChar_132_5 ?_
  rw [if_pos (by decide), wb_eq (by decide) (by decide), show ([76, 75, 87] : List Int).getD (Int.toNat 2) 0 = 87 from rfl, if_pos rfl]
  exact gI_mk (gI_mk (gI_mk h))
set_option maxRecDepth 20000 in
theorem X_ix_112_P {d : Nat} {μ : Mem} {Q : AV → Mem → Prop} (h : Q (xI (-1)) μ) : GM (d + 3) 31 [xR 112, xI 80] μ Q := by
  refine ge_JString_indexOf_112 ?_
  refine ge_JString_indexOf2_112 ?_
  refine ge_JStringLatin1_indexOf_132 ?_
  rw [if_neg (by decide), if_neg (by decide), if_pos (by decide), show max (0 : Int) 0 = 0 by decide, show min (3 : Int) 3 = 3 by decide]
  refine ge_JStringLatin1_indexOfChar_132 ?_
  rw [show xi2b 80 = 80 by decide +kernel]
  refine sg_JStringLatin1_indexOfChar_132_5 ?_
  rw [if_pos (by decide), wb_eq (by decide) (by decide), show ([76, 75, 87] : List Int).getD (Int.toNat 0) 0 = 76 from rfl, if_neg (by decide), show iw ((0 : Int) + 1) = 1 by rw [iw_def]; omega]
  refine sg_JStringLatin1_indexOfChar_132_5 ?_
  rw [if_pos (by decide), wb_eq (by decide) (by decide), show ([76, 75, 87] : List Int).getD (Int.toNat 1) 0 = 75 from rfl, if_neg (by decide), show iw ((1 : Int) + 1) = 2 by rw [iw_def]; omega]
  refine sg_JStringLatin1_indexOfChar_132_5 ?_
  rw [if_pos (by decide), wb_eq (by decide) (by decide), show ([76, 75, 87] : List Int).getD (Int.toNat 2) 0 = 87 from rfl, if_neg (by decide), show iw ((2 : Int) + 1) = 3 by rw [iw_def]; omega]
  refine sg_JStringLatin1_indexOfChar_132_5 ?_
  rw [if_neg (by decide)]
  exact gI_mk (gI_mk (gI_mk h))
set_option maxRecDepth 20000 in
theorem X_ix_113_L {d : Nat} {μ : Mem} {Q : AV → Mem → Prop} (h : Q (xI 0) μ) : GM (d + 3) 31 [xR 113, xI 76] μ Q := by
  refine ge_JString_indexOf_113 ?_
  refine ge_JString_indexOf2_113 ?_
  refine ge_JStringLatin1_indexOf_133 ?_
  rw [if_neg (by decide), if_neg (by decide), if_pos (by decide), show max (0 : Int) 0 = 0 by decide, show min (4 : Int) 4 = 4 by decide]
  refine ge_JStringLatin1_indexOfChar_133 ?_
  rw [show xi2b 76 = 76 by decide +kernel]
  refine sg_JStringLatin1_indexOfChar_133_5 ?_
  rw [if_pos (by decide), wb_eq (by decide) (by decide), show ([76, 75, 87, 80] : List Int).getD (Int.toNat 0) 0 = 76 from rfl, if_pos rfl]
  exact gI_mk (gI_mk (gI_mk h))
set_option maxRecDepth 20000 in
theorem X_ix_113_K {d : Nat} {μ : Mem} {Q : AV → Mem → Prop} (h : Q (xI 1) μ) : GM (d + 3) 31 [xR 113, xI 75] μ Q := by
  refine ge_JString_indexOf_113 ?_
  refine ge_JString_indexOf2_113 ?_
  refine ge_JStringLatin1_indexOf_133 ?_
  rw [if_neg (by decide), if_neg (by decide), if_pos (by decide), show max (0 : Int) 0 = 0 by decide, show min (4 : Int) 4 = 4 by decide]
  refine ge_JStringLatin1_indexOfChar_133 ?_
  rw [show xi2b 75 = 75 by decide +kernel]
  refine sg_JStringLatin1_indexOfChar_133_5 ?_
  rw [if_pos (by decide), wb_eq (by decide) (by decide), show ([76, 75, 87, 80] : List Int).getD (Int.toNat 0) 0 = 76 from rfl, if_neg (by decide), show iw ((0 : Int) + 1) = 1 by rw [iw_def]; omega]
  refine sg_JStringLatin1_indexOfChar_133_5 ?_
  rw [if_pos (by decide), wb_eq (by decide) (by decide), show ([76, 75, 87, 80] : List Int).getD (Int.toNat 1) 0 = 75 from rfl, if_pos rfl]
  exact gI_mk (gI_mk (gI_mk h))
set_option maxRecDepth 20000 in
theorem X_ix_113_W {d : Nat} {μ : Mem} {Q : AV → Mem → Prop} (h : Q (xI 2) μ) : GM (d + 3) 31 [xR 113, xI 87] μ Q := by
  refine ge_JString_indexOf_113 ?_
  refine ge_JString_indexOf2_113 ?_
  refine ge_JStringLatin1_indexOf_133 ?_
  rw [if_neg (by decide), if_neg (by decide), if_pos (by decide), show max (0 : Int) 0 = 0 by decide, show min (4 : Int) 4 = 4 by decide]
  refine ge_JStringLatin1_indexOfChar_133 ?_
  rw [show xi2b 87 = 87 by decide +kernel]
  refine sg_JStringLatin1_indexOfChar_133_5 ?_
  rw [if_pos (by decide), wb_eq (by decide) (by decide), show ([76, 75, 87, 80] : List Int).getD (Int.toNat 0) 0 = 76 from rfl, if_neg (by decide), show iw ((0 : Int) + 1) = 1 by rw [iw_def]; omega]
  refine sg_JStringLatin1_indexOfChar_133_5 ?_
  rw [if_pos (by decide), wb_eq (by decide) (by decide), show ([76, 75, 87, 80] : List Int).getD (Int.toNat 1) 0 = 75 from rfl, if_neg (by decide), show iw ((1 : Int) + 1) = 2 by rw [iw_def]; omega]
  refine sg_JStringLatin1_indexOfChar_133_5 ?_
  rw [if_pos (by decide), wb_eq (by decide) (by decide), show ([76, 75, 87, 80] : List Int).getD (Int.toNat 2) 0 = 87 from rfl, if_pos rfl]
  exact gI_mk (gI_mk (gI_mk h))
set_option maxRecDepth 20000 in
theorem X_ix_113_P {d : Nat} {μ : Mem} {Q : AV → Mem → Prop} (h : Q (xI 3) μ) : GM (d + 3) 31 [xR 113, xI 80] μ Q := by
  refine ge_JString_indexOf_113 ?_
  refine ge_JString_indexOf2_113 ?_
  refine ge_JStringLatin1_indexOf_133 ?_
  rw [if_neg (by decide), if_neg (by decide), if_pos (by decide), show max (0 : Int) 0 = 0 by decide, show min (4 : Int) 4 = 4 by decide]
  refine ge_JStringLatin1_indexOfChar_133 ?_
  rw [show xi2b 80 = 80 by decide +kernel]
  refine sg_JStringLatin1_indexOfChar_133_5 ?_
  rw [if_pos (by decide), wb_eq (by decide) (by decide), show ([76, 75, 87, 80] : List Int).getD (Int.toNat 0) 0 = 76 from rfl, if_neg (by decide), show iw ((0 : Int) + 1) = 1 by rw [iw_def]; omega]
  refine sg_JStringLatin1_indexOfChar_133_5 ?_
  rw [if_pos (by decide), wb_eq (by decide) (by decide), show ([76, 75, 87, 80] : List Int).getD (Int.toNat 1) 0 = 75 from rfl, if_neg (by decide), show iw ((1 : Int) + 1) = 2 by rw [iw_def]; omega]
  refine sg_JStringLatin1_indexOfChar_133_5 ?_
  rw [if_pos (by decide), wb_eq (by decide) (by decide), show ([76, 75, 87, 80] : List Int).getD (Int.toNat 2) 0 = 87 from rfl, if_neg (by decide), show iw ((2 : Int) + 1) = 3 by rw [iw_def]; omega]
  refine sg_JStringLatin1_indexOfChar_133_5 ?_
  rw [if_pos (by decide), wb_eq (by decide) (by decide), show ([76, 75, 87, 80] : List Int).getD (Int.toNat 3) 0 = 80 from rfl, if_pos rfl]
  exact gI_mk (gI_mk (gI_mk h))
set_option maxRecDepth 20000 in
theorem X_ix_114_S {d : Nat} {μ : Mem} {Q : AV → Mem → Prop} (h : Q (xI 0) μ) : GM (d + 3) 31 [xR 114, xI 83] μ Q := by
  refine ge_JString_indexOf_114 ?_
  refine ge_JString_indexOf2_114 ?_
  refine ge_JStringLatin1_indexOf_134 ?_
  rw [if_neg (by decide), if_neg (by decide), if_pos (by decide), show max (0 : Int) 0 = 0 by decide, show min (1 : Int) 1 = 1 by decide]
  refine ge_JStringLatin1_indexOfChar_134 ?_
  rw [show xi2b 83 = 83 by decide +kernel]
  refine sg_JStringLatin1_indexOfChar_134_5 ?_
  rw [if_pos (by decide), wb_eq (by decide) (by decide), show ([83] : List Int).getD (Int.toNat 0) 0 = 83 from rfl, if_pos rfl]
  exact gI_mk (gI_mk (gI_mk h))
set_option maxRecDepth 20000 in
theorem X_ix_115_I {d : Nat} {μ : Mem} {Q : AV → Mem → Prop} (h : Q (xI 0) μ) : GM (d + 3) 31 [xR 115, xI 73] μ Q := by
  refine ge_JString_indexOf_115 ?_
  refine ge_JString_indexOf2_115 ?_
  refine ge_JStringLatin1_indexOf_135 ?_
  rw [if_neg (by decide), if_neg (by decide), if_pos (by decide), show max (0 : Int) 0 = 0 by decide, show min (2 : Int) 2 = 2 by decide]
  refine ge_JStringLatin1_indexOfChar_135 ?_
  rw [show xi2b 73 = 73 by decide +kernel]
  refine sg_JStringLatin1_indexOfChar_135_5 ?_
  rw [if_pos (by decide), wb_eq (by decide) (by decide), show ([73, 80] : List Int).getD (Int.toNat 0) 0 = 73 from rfl, if_pos rfl]
  exact gI_mk (gI_mk (gI_mk h))
set_option maxRecDepth 20000 in
theorem X_ix_115_P {d : Nat} {μ : Mem} {Q : AV → Mem → Prop} (h : Q (xI 1) μ) : GM (d + 3) 31 [xR 115, xI 80] μ Q := by
  refine ge_JString_indexOf_115 ?_
  refine ge_JString_indexOf2_115 ?_
  refine ge_JStringLatin1_indexOf_135 ?_
  rw [if_neg (by decide), if_neg (by decide), if_pos (by decide), show max (0 : Int) 0 = 0 by decide, show min (2 : Int) 2 = 2 by decide]
  refine ge_JStringLatin1_indexOfChar_135 ?_
  rw [show xi2b 80 = 80 by decide +kernel]
  refine sg_JStringLatin1_indexOfChar_135_5 ?_
  rw [if_pos (by decide), wb_eq (by decide) (by decide), show ([73, 80] : List Int).getD (Int.toNat 0) 0 = 73 from rfl, if_neg (by decide), show iw ((0 : Int) + 1) = 1 by rw [iw_def]; omega]
  refine sg_JStringLatin1_indexOfChar_135_5 ?_
  rw [if_pos (by decide), wb_eq (by decide) (by decide), show ([73, 80] : List Int).getD (Int.toNat 1) 0 = 80 from rfl, if_pos rfl]
  exact gI_mk (gI_mk (gI_mk h))
theorem X_no_5_L {d k : Nat} {x : Nat × List Nat} {μ : Mem} {Q : AV → Mem → Prop} (hk : k < 14) (hl : lnX μ k x) (hx : x.1 = 5) (hn : x.2.length = 2) (h : Q (xI ((x.2.getD 0 0 : Nat) : Int)) μ) : GM (d + 4) 30 [xR 1, xI (k : Int), xI 76] μ Q := by
  refine ge_Text_numberOf ?_
  rw [wb_eq (by omega) (by omega), Int.toNat_natCast, hl.1, hx, if_pos (by decide)]
  refine X_ix_111_L ?_
  refine gI_mk ?_
  have ei : iw (iw ((k : Int) * 4) + 0) = ((4 * k + 0 : Nat) : Int) := iw_44 (p := k) (u := 0) (by omega) (by omega)
  rw [if_neg (by decide), if_pos (by decide), ei, wb_eq (by omega) (by omega), Int.toNat_natCast, hl.2 0 (by omega)]
  exact h
theorem X_no_5_K {d k : Nat} {x : Nat × List Nat} {μ : Mem} {Q : AV → Mem → Prop} (hk : k < 14) (hl : lnX μ k x) (hx : x.1 = 5) (hn : x.2.length = 2) (h : Q (xI ((x.2.getD 1 0 : Nat) : Int)) μ) : GM (d + 4) 30 [xR 1, xI (k : Int), xI 75] μ Q := by
  refine ge_Text_numberOf ?_
  rw [wb_eq (by omega) (by omega), Int.toNat_natCast, hl.1, hx, if_pos (by decide)]
  refine X_ix_111_K ?_
  refine gI_mk ?_
  have ei : iw (iw ((k : Int) * 4) + 1) = ((4 * k + 1 : Nat) : Int) := iw_44 (p := k) (u := 1) (by omega) (by omega)
  rw [if_neg (by decide), if_pos (by decide), ei, wb_eq (by omega) (by omega), Int.toNat_natCast, hl.2 1 (by omega)]
  exact h
theorem X_no_5_W {d k : Nat} {x : Nat × List Nat} {μ : Mem} {Q : AV → Mem → Prop} (hk : k < 14) (hl : lnX μ k x) (hx : x.1 = 5) (hn : x.2.length = 2) (h : Q (xI ((x.2.getD 2 0 : Nat) : Int)) μ) : GM (d + 4) 30 [xR 1, xI (k : Int), xI 87] μ Q := by
  refine ge_Text_numberOf ?_
  rw [wb_eq (by omega) (by omega), Int.toNat_natCast, hl.1, hx, if_pos (by decide)]
  refine X_ix_111_W ?_
  refine gI_mk ?_
  rw [if_pos (by decide)]
  rw [List.getD_eq_getElem?_getD, List.getElem?_eq_none (by omega)] at h
  exact h
theorem X_no_5_P {d k : Nat} {x : Nat × List Nat} {μ : Mem} {Q : AV → Mem → Prop} (hk : k < 14) (hl : lnX μ k x) (hx : x.1 = 5) (hn : x.2.length = 2) (h : Q (xI ((x.2.getD 3 0 : Nat) : Int)) μ) : GM (d + 4) 30 [xR 1, xI (k : Int), xI 80] μ Q := by
  refine ge_Text_numberOf ?_
  rw [wb_eq (by omega) (by omega), Int.toNat_natCast, hl.1, hx, if_pos (by decide)]
  refine X_ix_111_P ?_
  refine gI_mk ?_
  rw [if_pos (by decide)]
  rw [List.getD_eq_getElem?_getD, List.getElem?_eq_none (by omega)] at h
  exact h
theorem X_no_6_L {d k : Nat} {x : Nat × List Nat} {μ : Mem} {Q : AV → Mem → Prop} (hk : k < 14) (hl : lnX μ k x) (hx : x.1 = 6) (hn : x.2.length = 3) (h : Q (xI ((x.2.getD 0 0 : Nat) : Int)) μ) : GM (d + 4) 30 [xR 1, xI (k : Int), xI 76] μ Q := by
  refine ge_Text_numberOf ?_
  rw [wb_eq (by omega) (by omega), Int.toNat_natCast, hl.1, hx, if_neg (by decide), if_pos (by decide)]
  refine X_ix_112_L ?_
  refine gI_mk ?_
  have ei : iw (iw ((k : Int) * 4) + 0) = ((4 * k + 0 : Nat) : Int) := iw_44 (p := k) (u := 0) (by omega) (by omega)
  rw [if_neg (by decide), if_pos (by decide), ei, wb_eq (by omega) (by omega), Int.toNat_natCast, hl.2 0 (by omega)]
  exact h
theorem X_no_6_K {d k : Nat} {x : Nat × List Nat} {μ : Mem} {Q : AV → Mem → Prop} (hk : k < 14) (hl : lnX μ k x) (hx : x.1 = 6) (hn : x.2.length = 3) (h : Q (xI ((x.2.getD 1 0 : Nat) : Int)) μ) : GM (d + 4) 30 [xR 1, xI (k : Int), xI 75] μ Q := by
  refine ge_Text_numberOf ?_
  rw [wb_eq (by omega) (by omega), Int.toNat_natCast, hl.1, hx, if_neg (by decide), if_pos (by decide)]
  refine X_ix_112_K ?_
  refine gI_mk ?_
  have ei : iw (iw ((k : Int) * 4) + 1) = ((4 * k + 1 : Nat) : Int) := iw_44 (p := k) (u := 1) (by omega) (by omega)
  rw [if_neg (by decide), if_pos (by decide), ei, wb_eq (by omega) (by omega), Int.toNat_natCast, hl.2 1 (by omega)]
  exact h
theorem X_no_6_W {d k : Nat} {x : Nat × List Nat} {μ : Mem} {Q : AV → Mem → Prop} (hk : k < 14) (hl : lnX μ k x) (hx : x.1 = 6) (hn : x.2.length = 3) (h : Q (xI ((x.2.getD 2 0 : Nat) : Int)) μ) : GM (d + 4) 30 [xR 1, xI (k : Int), xI 87] μ Q := by
  refine ge_Text_numberOf ?_
  rw [wb_eq (by omega) (by omega), Int.toNat_natCast, hl.1, hx, if_neg (by decide), if_pos (by decide)]
  refine X_ix_112_W ?_
  refine gI_mk ?_
  have ei : iw (iw ((k : Int) * 4) + 2) = ((4 * k + 2 : Nat) : Int) := iw_44 (p := k) (u := 2) (by omega) (by omega)
  rw [if_neg (by decide), if_pos (by decide), ei, wb_eq (by omega) (by omega), Int.toNat_natCast, hl.2 2 (by omega)]
  exact h
theorem X_no_6_P {d k : Nat} {x : Nat × List Nat} {μ : Mem} {Q : AV → Mem → Prop} (hk : k < 14) (hl : lnX μ k x) (hx : x.1 = 6) (hn : x.2.length = 3) (h : Q (xI ((x.2.getD 3 0 : Nat) : Int)) μ) : GM (d + 4) 30 [xR 1, xI (k : Int), xI 80] μ Q := by
  refine ge_Text_numberOf ?_
  rw [wb_eq (by omega) (by omega), Int.toNat_natCast, hl.1, hx, if_neg (by decide), if_pos (by decide)]
  refine X_ix_112_P ?_
  refine gI_mk ?_
  rw [if_pos (by decide)]
  rw [List.getD_eq_getElem?_getD, List.getElem?_eq_none (by omega)] at h
  exact h
theorem X_no_7_L {d k : Nat} {x : Nat × List Nat} {μ : Mem} {Q : AV → Mem → Prop} (hk : k < 14) (hl : lnX μ k x) (hx : x.1 = 7) (hn : x.2.length = 4) (h : Q (xI ((x.2.getD 0 0 : Nat) : Int)) μ) : GM (d + 4) 30 [xR 1, xI (k : Int), xI 76] μ Q := by
  refine ge_Text_numberOf ?_
  rw [wb_eq (by omega) (by omega), Int.toNat_natCast, hl.1, hx, if_neg (by decide), if_neg (by decide), if_pos (by decide)]
  refine X_ix_113_L ?_
  refine gI_mk ?_
  have ei : iw (iw ((k : Int) * 4) + 0) = ((4 * k + 0 : Nat) : Int) := iw_44 (p := k) (u := 0) (by omega) (by omega)
  rw [if_neg (by decide), if_pos (by decide), ei, wb_eq (by omega) (by omega), Int.toNat_natCast, hl.2 0 (by omega)]
  exact h
theorem X_no_7_K {d k : Nat} {x : Nat × List Nat} {μ : Mem} {Q : AV → Mem → Prop} (hk : k < 14) (hl : lnX μ k x) (hx : x.1 = 7) (hn : x.2.length = 4) (h : Q (xI ((x.2.getD 1 0 : Nat) : Int)) μ) : GM (d + 4) 30 [xR 1, xI (k : Int), xI 75] μ Q := by
  refine ge_Text_numberOf ?_
  rw [wb_eq (by omega) (by omega), Int.toNat_natCast, hl.1, hx, if_neg (by decide), if_neg (by decide), if_pos (by decide)]
  refine X_ix_113_K ?_
  refine gI_mk ?_
  have ei : iw (iw ((k : Int) * 4) + 1) = ((4 * k + 1 : Nat) : Int) := iw_44 (p := k) (u := 1) (by omega) (by omega)
  rw [if_neg (by decide), if_pos (by decide), ei, wb_eq (by omega) (by omega), Int.toNat_natCast, hl.2 1 (by omega)]
  exact h
theorem X_no_7_W {d k : Nat} {x : Nat × List Nat} {μ : Mem} {Q : AV → Mem → Prop} (hk : k < 14) (hl : lnX μ k x) (hx : x.1 = 7) (hn : x.2.length = 4) (h : Q (xI ((x.2.getD 2 0 : Nat) : Int)) μ) : GM (d + 4) 30 [xR 1, xI (k : Int), xI 87] μ Q := by
  refine ge_Text_numberOf ?_
  rw [wb_eq (by omega) (by omega), Int.toNat_natCast, hl.1, hx, if_neg (by decide), if_neg (by decide), if_pos (by decide)]
  refine X_ix_113_W ?_
  refine gI_mk ?_
  have ei : iw (iw ((k : Int) * 4) + 2) = ((4 * k + 2 : Nat) : Int) := iw_44 (p := k) (u := 2) (by omega) (by omega)
  rw [if_neg (by decide), if_pos (by decide), ei, wb_eq (by omega) (by omega), Int.toNat_natCast, hl.2 2 (by omega)]
  exact h
theorem X_no_7_P {d k : Nat} {x : Nat × List Nat} {μ : Mem} {Q : AV → Mem → Prop} (hk : k < 14) (hl : lnX μ k x) (hx : x.1 = 7) (hn : x.2.length = 4) (h : Q (xI ((x.2.getD 3 0 : Nat) : Int)) μ) : GM (d + 4) 30 [xR 1, xI (k : Int), xI 80] μ Q := by
  refine ge_Text_numberOf ?_
  rw [wb_eq (by omega) (by omega), Int.toNat_natCast, hl.1, hx, if_neg (by decide), if_neg (by decide), if_pos (by decide)]
  refine X_ix_113_P ?_
  refine gI_mk ?_
  have ei : iw (iw ((k : Int) * 4) + 3) = ((4 * k + 3 : Nat) : Int) := iw_44 (p := k) (u := 3) (by omega) (by omega)
  rw [if_neg (by decide), if_pos (by decide), ei, wb_eq (by omega) (by omega), Int.toNat_natCast, hl.2 3 (by omega)]
  exact h
theorem X_no_8_L {d k : Nat} {x : Nat × List Nat} {μ : Mem} {Q : AV → Mem → Prop} (hk : k < 14) (hl : lnX μ k x) (hx : x.1 = 8) (hn : x.2.length = 3) (h : Q (xI ((x.2.getD 0 0 : Nat) : Int)) μ) : GM (d + 4) 30 [xR 1, xI (k : Int), xI 76] μ Q := by
  refine ge_Text_numberOf ?_
  rw [wb_eq (by omega) (by omega), Int.toNat_natCast, hl.1, hx, if_neg (by decide), if_neg (by decide), if_neg (by decide), if_pos (by decide)]
  refine X_ix_112_L ?_
  refine gI_mk ?_
  have ei : iw (iw ((k : Int) * 4) + 0) = ((4 * k + 0 : Nat) : Int) := iw_44 (p := k) (u := 0) (by omega) (by omega)
  rw [if_neg (by decide), if_pos (by decide), ei, wb_eq (by omega) (by omega), Int.toNat_natCast, hl.2 0 (by omega)]
  exact h
theorem X_no_8_K {d k : Nat} {x : Nat × List Nat} {μ : Mem} {Q : AV → Mem → Prop} (hk : k < 14) (hl : lnX μ k x) (hx : x.1 = 8) (hn : x.2.length = 3) (h : Q (xI ((x.2.getD 1 0 : Nat) : Int)) μ) : GM (d + 4) 30 [xR 1, xI (k : Int), xI 75] μ Q := by
  refine ge_Text_numberOf ?_
  rw [wb_eq (by omega) (by omega), Int.toNat_natCast, hl.1, hx, if_neg (by decide), if_neg (by decide), if_neg (by decide), if_pos (by decide)]
  refine X_ix_112_K ?_
  refine gI_mk ?_
  have ei : iw (iw ((k : Int) * 4) + 1) = ((4 * k + 1 : Nat) : Int) := iw_44 (p := k) (u := 1) (by omega) (by omega)
  rw [if_neg (by decide), if_pos (by decide), ei, wb_eq (by omega) (by omega), Int.toNat_natCast, hl.2 1 (by omega)]
  exact h
theorem X_no_8_W {d k : Nat} {x : Nat × List Nat} {μ : Mem} {Q : AV → Mem → Prop} (hk : k < 14) (hl : lnX μ k x) (hx : x.1 = 8) (hn : x.2.length = 3) (h : Q (xI ((x.2.getD 2 0 : Nat) : Int)) μ) : GM (d + 4) 30 [xR 1, xI (k : Int), xI 87] μ Q := by
  refine ge_Text_numberOf ?_
  rw [wb_eq (by omega) (by omega), Int.toNat_natCast, hl.1, hx, if_neg (by decide), if_neg (by decide), if_neg (by decide), if_pos (by decide)]
  refine X_ix_112_W ?_
  refine gI_mk ?_
  have ei : iw (iw ((k : Int) * 4) + 2) = ((4 * k + 2 : Nat) : Int) := iw_44 (p := k) (u := 2) (by omega) (by omega)
  rw [if_neg (by decide), if_pos (by decide), ei, wb_eq (by omega) (by omega), Int.toNat_natCast, hl.2 2 (by omega)]
  exact h
theorem X_no_8_P {d k : Nat} {x : Nat × List Nat} {μ : Mem} {Q : AV → Mem → Prop} (hk : k < 14) (hl : lnX μ k x) (hx : x.1 = 8) (hn : x.2.length = 3) (h : Q (xI ((x.2.getD 3 0 : Nat) : Int)) μ) : GM (d + 4) 30 [xR 1, xI (k : Int), xI 80] μ Q := by
  refine ge_Text_numberOf ?_
  rw [wb_eq (by omega) (by omega), Int.toNat_natCast, hl.1, hx, if_neg (by decide), if_neg (by decide), if_neg (by decide), if_pos (by decide)]
  refine X_ix_112_P ?_
  refine gI_mk ?_
  rw [if_pos (by decide)]
  rw [List.getD_eq_getElem?_getD, List.getElem?_eq_none (by omega)] at h
  exact h
theorem X_no_9_S {d k : Nat} {x : Nat × List Nat} {μ : Mem} {Q : AV → Mem → Prop} (hk : k < 14) (hl : lnX μ k x) (hx : x.1 = 9) (hn : x.2.length = 1) (h : Q (xI ((x.2.getD 0 0 : Nat) : Int)) μ) : GM (d + 4) 30 [xR 1, xI (k : Int), xI 83] μ Q := by
  refine ge_Text_numberOf ?_
  rw [wb_eq (by omega) (by omega), Int.toNat_natCast, hl.1, hx, if_neg (by decide), if_neg (by decide), if_neg (by decide), if_neg (by decide), if_pos (by decide)]
  refine X_ix_114_S ?_
  refine gI_mk ?_
  have ei : iw (iw ((k : Int) * 4) + 0) = ((4 * k + 0 : Nat) : Int) := iw_44 (p := k) (u := 0) (by omega) (by omega)
  rw [if_neg (by decide), if_pos (by decide), ei, wb_eq (by omega) (by omega), Int.toNat_natCast, hl.2 0 (by omega)]
  exact h
theorem X_no_10_I {d k : Nat} {x : Nat × List Nat} {μ : Mem} {Q : AV → Mem → Prop} (hk : k < 14) (hl : lnX μ k x) (hx : x.1 = 10) (hn : x.2.length = 2) (h : Q (xI ((x.2.getD 0 0 : Nat) : Int)) μ) : GM (d + 4) 30 [xR 1, xI (k : Int), xI 73] μ Q := by
  refine ge_Text_numberOf ?_
  rw [wb_eq (by omega) (by omega), Int.toNat_natCast, hl.1, hx, if_neg (by decide), if_neg (by decide), if_neg (by decide), if_neg (by decide), if_neg (by decide), if_pos (by decide)]
  refine X_ix_115_I ?_
  refine gI_mk ?_
  have ei : iw (iw ((k : Int) * 4) + 0) = ((4 * k + 0 : Nat) : Int) := iw_44 (p := k) (u := 0) (by omega) (by omega)
  rw [if_neg (by decide), if_pos (by decide), ei, wb_eq (by omega) (by omega), Int.toNat_natCast, hl.2 0 (by omega)]
  exact h
theorem X_no_10_P {d k : Nat} {x : Nat × List Nat} {μ : Mem} {Q : AV → Mem → Prop} (hk : k < 14) (hl : lnX μ k x) (hx : x.1 = 10) (hn : x.2.length = 2) (h : Q (xI ((x.2.getD 1 0 : Nat) : Int)) μ) : GM (d + 4) 30 [xR 1, xI (k : Int), xI 80] μ Q := by
  refine ge_Text_numberOf ?_
  rw [wb_eq (by omega) (by omega), Int.toNat_natCast, hl.1, hx, if_neg (by decide), if_neg (by decide), if_neg (by decide), if_neg (by decide), if_neg (by decide), if_pos (by decide)]
  refine X_ix_115_P ?_
  refine gI_mk ?_
  have ei : iw (iw ((k : Int) * 4) + 1) = ((4 * k + 1 : Nat) : Int) := iw_44 (p := k) (u := 1) (by omega) (by omega)
  rw [if_neg (by decide), if_pos (by decide), ei, wb_eq (by omega) (by omega), Int.toNat_natCast, hl.2 1 (by omega)]
  exact h
theorem X_nt_L {d k : Nat} {s : St3} {x : Nat × List Nat} {μ : Mem} {Q : AV → Mem → Prop} (hk : k < 14) (hl : lnX μ k x) (ok : okL s x) (h5 : 5 ≤ x.1) (h9 : x.1 < 9) (h : Q (xI ((x.2.getD 0 0 : Nat) : Int)) μ) : GM (d + 4) 30 [xR 1, xI (k : Int), xI 76] μ Q := by
  have hn := okN_len _ _ ok.2.2
  rcases (show x.1 = 5 ∨ x.1 = 6 ∨ x.1 = 7 ∨ x.1 = 8 by omega) with e | e | e | e <;> rw [e] at hn
  · exact X_no_5_L hk hl e hn h
  · exact X_no_6_L hk hl e hn h
  · exact X_no_7_L hk hl e hn h
  · exact X_no_8_L hk hl e hn h
theorem X_nt_K {d k : Nat} {s : St3} {x : Nat × List Nat} {μ : Mem} {Q : AV → Mem → Prop} (hk : k < 14) (hl : lnX μ k x) (ok : okL s x) (h5 : 5 ≤ x.1) (h9 : x.1 < 9) (h : Q (xI ((x.2.getD 1 0 : Nat) : Int)) μ) : GM (d + 4) 30 [xR 1, xI (k : Int), xI 75] μ Q := by
  have hn := okN_len _ _ ok.2.2
  rcases (show x.1 = 5 ∨ x.1 = 6 ∨ x.1 = 7 ∨ x.1 = 8 by omega) with e | e | e | e <;> rw [e] at hn
  · exact X_no_5_K hk hl e hn h
  · exact X_no_6_K hk hl e hn h
  · exact X_no_7_K hk hl e hn h
  · exact X_no_8_K hk hl e hn h
theorem X_nt_W {d k : Nat} {s : St3} {x : Nat × List Nat} {μ : Mem} {Q : AV → Mem → Prop} (hk : k < 14) (hl : lnX μ k x) (ok : okL s x) (h5 : 5 ≤ x.1) (h9 : x.1 < 9) (h : Q (xI ((x.2.getD 2 0 : Nat) : Int)) μ) : GM (d + 4) 30 [xR 1, xI (k : Int), xI 87] μ Q := by
  have hn := okN_len _ _ ok.2.2
  rcases (show x.1 = 5 ∨ x.1 = 6 ∨ x.1 = 7 ∨ x.1 = 8 by omega) with e | e | e | e <;> rw [e] at hn
  · exact X_no_5_W hk hl e hn h
  · exact X_no_6_W hk hl e hn h
  · exact X_no_7_W hk hl e hn h
  · exact X_no_8_W hk hl e hn h
theorem X_nt_P {d k : Nat} {s : St3} {x : Nat × List Nat} {μ : Mem} {Q : AV → Mem → Prop} (hk : k < 14) (hl : lnX μ k x) (ok : okL s x) (h5 : 5 ≤ x.1) (h9 : x.1 < 9) (h : Q (xI ((x.2.getD 3 0 : Nat) : Int)) μ) : GM (d + 4) 30 [xR 1, xI (k : Int), xI 80] μ Q := by
  have hn := okN_len _ _ ok.2.2
  rcases (show x.1 = 5 ∨ x.1 = 6 ∨ x.1 = 7 ∨ x.1 = 8 by omega) with e | e | e | e <;> rw [e] at hn
  · exact X_no_5_P hk hl e hn h
  · exact X_no_6_P hk hl e hn h
  · exact X_no_7_P hk hl e hn h
  · exact X_no_8_P hk hl e hn h
def fDX (μ μ' : Mem) : Prop := ∀ c j, c ≠ 2 → (c < 16 ∨ 22 < c) → μ' c j = μ c j
theorem lnX_fr {μ ν : Mem} {k : Nat} {x : Nat × List Nat} (h1 : ∀ j, ν 14 j = μ 14 j) (h2 : ∀ j, ν 15 j = μ 15 j) (g : lnX μ k x) : lnX ν k x := ⟨(h1 k).trans g.1, fun j hj => (h2 _).trans (g.2 j hj)⟩
set_option maxRecDepth 20000 in
theorem X_doLine_ok {d k : Nat} {x : Nat × List Nat} {μ : Mem} {α : Al} {Q : AV → Mem → Prop} (hu : uX μ α) (hw : uw α) (ok : okL (sOf α) x) (hl : lnX μ k x) (hk : k < 14) (h : ∀ μ', fDX μ μ' → uX μ' (dl α x) → Q (xI 0) μ') : GM (d + 6) 27 [xR 2, xR 1, xI (k : Int)] μ Q := by
  obtain ⟨u1, u2, u3, u4, u5, u6⟩ := hu
  obtain ⟨a1, a2, a3, a4, a5, a6⟩ := hw
  have hw11 := ok.1
  unfold dl at h
  refine ge_Told_doLine ?_
  rw [wb_eq (by omega) (by omega), Int.toNat_natCast, hl.1]
  by_cases c0 : x.1 = 0
  · rw [if_pos c0] at h
    rw [if_pos (by omega)]
    refine h _ (fun c j q1 q2 => by rw [xs_c q1, xs_c q1, xs_c q1]) ⟨?_, ?_, xs_s, fun i hi => absurd hi (Nat.not_lt_zero i), fun i hi => absurd hi (Nat.not_lt_zero i), fun i hi => absurd hi (Nat.not_lt_zero i)⟩
    · rw [xs_j (by decide), xs_j (by decide), xs_s]; rfl
    · rw [xs_j (by decide), xs_s]; rfl
  rw [if_neg c0] at h
  rw [if_neg (by omega), if_neg (by omega)]
  by_cases c1 : x.1 < 5
  · rw [if_pos c1] at h
    have hr : α.1 0 0 < 5 := by
      have h2 := ok.2.1
      unfold roomB at h2
      rw [if_neg c0, if_pos c1] at h2
      exact of_decide_eq_true h2
    have e1 : iw (((x.1 : Nat) : Int) - 1) = ((x.1 - 1 : Nat) : Int) := iw_s1 (by omega) (by omega)
    rw [if_neg (by omega), e1]
    refine ge_Told_addOne ?_
    rw [u1, if_pos (by omega), wb_eq (by omega) (by omega), Int.toNat_natCast, iw_k1 (by omega)]
    refine gV_mk ?_
    refine h _ (fun c j q1 q2 => by rw [xs_c q1, xs_c (by omega)]) ⟨xs_s, ?_, ?_, fun i hi => ?_, fun i hi => ?_, fun i hi => ?_⟩
    · rw [xs_j (by decide), xs_c (by decide)]; exact u2
    · rw [xs_j (by decide), xs_c (by decide)]; exact u3
    · have hi' : i < α.1 0 0 + 1 := hi
      show _ = (((as1 α 1 (α.1 0 0) (x.1 - 1)).1 1 i : Nat) : Int)
      rw [xs_c (by decide)]
      by_cases e : i = α.1 0 0
      · rw [e, as1_s, xs_s]
      · rw [as1_i e, xs_j e]; exact u4 i (by omega)
    · rw [xs_c (by decide), xs_c (by decide), xs_c (by decide), xs_c (by decide), xs_c (by decide), xs_c (by decide), xs_c (by decide), xs_c (by decide), xs_c (by decide), xs_c (by decide)]; exact u5 i hi
    · rw [xs_c (by decide), xs_c (by decide)]; exact u6 i hi
  rw [if_neg c1] at h
  rw [if_pos (by omega), if_neg (by omega)]
  by_cases c2 : x.1 < 9
  · rw [if_pos c2] at h
    obtain ⟨hr, _⟩ := okT ok (by omega) c2
    have hr : α.1 0 1 < 6 := hr
    have e5 : iw (((x.1 : Nat) : Int) - 5) = ((x.1 - 5 : Nat) : Int) := by rw [iw_id (by omega) (by omega)]; omega
    rw [if_neg (by omega), e5]
    refine ge_Told_addThing ?_
    rw [u2, if_pos (by omega), wb_eq (by omega) (by omega), Int.toNat_natCast]
    refine X_nt_L hk (lnX_fr (fun j => xs_c (by decide)) (fun j => xs_c (by decide)) hl) ok (by omega) c2 ?_
    refine gI_mk ?_
    rw [wb_eq (by omega) (by omega), xs_c (by decide), u2]
    refine X_nt_K hk (lnX_fr (fun j => by rw [xs_c (by decide), xs_c (by decide)]) (fun j => by rw [xs_c (by decide), xs_c (by decide)]) hl) ok (by omega) c2 ?_
    refine gI_mk ?_
    rw [wb_eq (by omega) (by omega), Int.toNat_natCast, xs_c (by decide), xs_c (by decide), u2]
    refine X_nt_W hk (lnX_fr (fun j => by rw [xs_c (by decide), xs_c (by decide), xs_c (by decide)]) (fun j => by rw [xs_c (by decide), xs_c (by decide), xs_c (by decide)]) hl) ok (by omega) c2 ?_
    refine gI_mk ?_
    rw [wb_eq (by omega) (by omega), Int.toNat_natCast, xs_c (by decide), xs_c (by decide), xs_c (by decide), u2]
    refine X_nt_P hk (lnX_fr (fun j => by rw [xs_c (by decide), xs_c (by decide), xs_c (by decide), xs_c (by decide)]) (fun j => by rw [xs_c (by decide), xs_c (by decide), xs_c (by decide), xs_c (by decide)]) hl) ok (by omega) c2 ?_
    refine gI_mk ?_
    rw [wb_eq (by omega) (by omega), Int.toNat_natCast, xs_c (by decide), xs_c (by decide), xs_c (by decide), xs_c (by decide), u2, iw_k1 (by omega)]
    refine gV_mk ?_
    refine h _ (fun c j q1 q2 => by rw [xs_c q1, xs_c (by omega), xs_c (by omega), xs_c (by omega), xs_c (by omega), xs_c (by omega)]) ⟨?_, xs_s, ?_, fun i hi => ?_, fun i hi => ?_, fun i hi => ?_⟩
    · rw [xs_j (by decide), xs_c (by decide), xs_c (by decide), xs_c (by decide), xs_c (by decide), xs_c (by decide)]; exact u1
    · rw [xs_j (by decide), xs_c (by decide), xs_c (by decide), xs_c (by decide), xs_c (by decide), xs_c (by decide)]; exact u3
    · rw [xs_c (by decide), xs_c (by decide), xs_c (by decide), xs_c (by decide), xs_c (by decide), xs_c (by decide)]; exact u4 i hi
    · have hi' : i < α.1 0 1 + 1 := hi
      show _ = (((as1 α 2 (α.1 0 1) (x.1 - 5)).1 2 i : Nat) : Int) ∧ _ = (((as1 α 3 (α.1 0 1) (x.2.getD 0 0)).1 3 i : Nat) : Int) ∧ _ = (((as1 α 4 (α.1 0 1) (x.2.getD 1 0)).1 4 i : Nat) : Int) ∧ _ = (((as1 α 5 (α.1 0 1) (x.2.getD 2 0)).1 5 i : Nat) : Int) ∧ _ = (((as1 α 6 (α.1 0 1) (x.2.getD 3 0)).1 6 i : Nat) : Int)
      by_cases e : i = α.1 0 1
      · rw [e, as1_s, as1_s, as1_s, as1_s, as1_s]
        refine ⟨?_, ?_, ?_, ?_, ?_⟩
        · rw [xs_c (by decide), xs_c (by decide), xs_c (by decide), xs_c (by decide), xs_c (by decide), xs_s]
        · rw [xs_c (by decide), xs_c (by decide), xs_c (by decide), xs_c (by decide), xs_s]
        · rw [xs_c (by decide), xs_c (by decide), xs_c (by decide), xs_s]
        · rw [xs_c (by decide), xs_c (by decide), xs_s]
        · rw [xs_c (by decide), xs_s]
      · rw [as1_i e, as1_i e, as1_i e, as1_i e, as1_i e]
        obtain ⟨b1, b2, b3, b4, b5⟩ := u5 i (by omega)
        refine ⟨?_, ?_, ?_, ?_, ?_⟩
        · rw [xs_c (by decide), xs_j e, xs_j e, xs_j e, xs_j e, xs_j e]; exact b1
        · rw [xs_c (by decide), xs_j e, xs_j e, xs_j e, xs_j e, xs_j e]; exact b2
        · rw [xs_c (by decide), xs_j e, xs_j e, xs_j e, xs_j e, xs_j e]; exact b3
        · rw [xs_c (by decide), xs_j e, xs_j e, xs_j e, xs_j e, xs_j e]; exact b4
        · rw [xs_c (by decide), xs_j e, xs_j e, xs_j e, xs_j e, xs_j e]; exact b5
    · rw [xs_c (by decide), xs_c (by decide), xs_c (by decide), xs_c (by decide), xs_c (by decide), xs_c (by decide)]; exact u6 i hi
  rw [if_neg c2] at h
  rw [if_pos (by omega)]
  have hn := okN_len _ _ ok.2.2
  by_cases c3 : x.1 = 9
  · rw [if_pos c3] at h
    have h2 := ok.2.1
    unfold roomB at h2
    rw [if_neg c0, if_neg c1, if_neg c2, if_pos c3] at h2
    have hr : α.1 0 2 < 6 := of_decide_eq_true h2
    rw [c3] at hn
    rw [if_pos (by omega)]
    refine X_no_9_S hk hl c3 hn ?_
    refine gI_mk ?_
    refine ge_Told_addNight ?_
    rw [u3, if_pos (by omega), wb_eq (by omega) (by omega), Int.toNat_natCast, iw_k1 (by omega)]
    refine gV_mk ?_
    refine h _ (fun c j q1 q2 => by rw [xs_c q1, xs_c (by omega)]) ⟨?_, ?_, xs_s, fun i hi => ?_, fun i hi => ?_, fun i hi => ?_⟩
    · rw [xs_j (by decide), xs_c (by decide)]; exact u1
    · rw [xs_j (by decide), xs_c (by decide)]; exact u2
    · rw [xs_c (by decide), xs_c (by decide)]; exact u4 i hi
    · rw [xs_c (by decide), xs_c (by decide), xs_c (by decide), xs_c (by decide), xs_c (by decide), xs_c (by decide), xs_c (by decide), xs_c (by decide), xs_c (by decide), xs_c (by decide)]; exact u5 i hi
    · have hi' : i < α.1 0 2 + 1 := hi
      show _ = (((as1 α 7 (α.1 0 2) (x.2.getD 0 0)).1 7 i : Nat) : Int)
      rw [xs_c (by decide)]
      by_cases e : i = α.1 0 2
      · rw [e, as1_s, xs_s]
      · rw [as1_i e, xs_j e]; exact u6 i (by omega)
  rw [if_neg c3] at h
  rw [if_neg (by omega)]
  have h10 : x.1 = 10 := by omega
  have h3 := ok.2.2
  rw [h10] at h3 hn
  have h3 : okN [α.1 0 1, 10] x.2 := h3
  obtain ⟨n0, n1, _⟩ := okN_2 h3
  refine X_no_10_I hk hl h10 hn ?_
  refine gI_mk ?_
  refine X_no_10_P hk hl h10 hn ?_
  refine gI_mk ?_
  refine ge_Told_tellPower ?_
  rw [u2, if_neg (by omega), if_pos (by omega), wb_eq (by omega) (by omega), Int.toNat_natCast]
  refine gV_mk ?_
  refine h _ (fun c j q1 q2 => by rw [xs_c (by omega)]) ⟨?_, ?_, ?_, fun i hi => ?_, fun i hi => ?_, fun i hi => ?_⟩
  · rw [xs_c (by decide)]; exact u1
  · rw [xs_c (by decide)]; exact u2
  · rw [xs_c (by decide)]; exact u3
  · rw [xs_c (by decide)]; exact u4 i hi
  · have hi' : i < α.1 0 1 := hi
    obtain ⟨b1, b2, b3, b4, b5⟩ := u5 i hi'
    rw [xs_c (by decide), xs_c (by decide), xs_c (by decide), xs_c (by decide)]
    refine ⟨b1, b2, b3, b4, ?_⟩
    by_cases e : i = x.2.getD 0 0
    · rw [e, as1_s, xs_s]
    · rw [as1_i e, xs_j e]; exact b5
  · rw [xs_c (by decide)]; exact u6 i hi
