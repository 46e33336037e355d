set_option maxRecDepth 20000 in
theorem ge_Fits_allowedIn {d : Nat} {p1 : Int} {μ : Mem} {Q : AV → Mem → Prop} (h : DW (d + 3) 90 4 [xR 10, xI p1, xI 0, xI 0] μ Q) : GM (d + 3) 90 [xR 10, xI p1] μ Q :=
  GM_wp (n := 400) (Nat.le_of_ble_eq_true rfl) (Nat.le_of_ble_eq_true rfl) rfl h
set_option maxRecDepth 20000 in
theorem sg_Fits_allowedIn_4 {d : Nat} {l1 l2 l3 : Int} {μ : Mem} {Q : AV → Mem → Prop} (h : if l3 < μ 2 1 then (wb l3 6 (wb l1 6 (if μ 18 l3.toNat = μ 18 l1.toNat then (GM (d + 2) 91 [xR 7, xR 3, xI l3, xI l1] μ (gI (fun r2 m1 => if r2 = 0 then (DW (d + 3) 90 4 [xR 10, xI l1, xI l2, xI (iw (l3 + 1))] m1 Q) else (DW (d + 3) 90 4 [xR 10, xI l1, xI (xior l2 (xshl 1 l3)), xI (iw (l3 + 1))] m1 Q)))) else (DW (d + 3) 90 4 [xR 10, xI l1, xI l2, xI (iw (l3 + 1))] μ Q)))) else (Q (xI l2) μ)) : DW (d + 3) 90 4 [xR 10, xI l1, xI l2, xI l3] μ Q :=
  DW_wp (n := 400) (Nat.le_of_ble_eq_true rfl) h
set_option maxRecDepth 20000 in
theorem ge_Seen_agrees {d : Nat} {p2 p3 : Int} {μ : Mem} {Q : AV → Mem → Prop} (h : DW (d + 2) 91 2 [xR 7, xR 3, xI p2, xI p3, xI 0] μ Q) : GM (d + 2) 91 [xR 7, xR 3, xI p2, xI p3] μ Q :=
  GM_wp (n := 400) (Nat.le_of_ble_eq_true rfl) (Nat.le_of_ble_eq_true rfl) rfl h
set_option maxRecDepth 20000 in
theorem sg_Seen_agrees_2 {d : Nat} {l2 l3 l4 : Int} {μ : Mem} {Q : AV → Mem → Prop} (h : if l4 < μ 7 0 then (wb l4 10 (if μ 35 l4.toNat = l3 then (wb l4 10 (GM (d + 1) 52 [xR 3, xI l2, xI l3, xI (μ 36 l4.toNat)] μ (gI (fun r2 m1 => wb l4 10 (if r2 = m1 37 l4.toNat then (DW (d + 2) 91 2 [xR 7, xR 3, xI l2, xI l3, xI (iw (l4 + 1))] m1 Q) else (Q (xI 0) m1)))))) else (DW (d + 2) 91 2 [xR 7, xR 3, xI l2, xI l3, xI (iw (l4 + 1))] μ Q))) else (Q (xI 1) μ)) : DW (d + 2) 91 2 [xR 7, xR 3, xI l2, xI l3, xI l4] μ Q :=
  DW_wp (n := 400) (Nat.le_of_ble_eq_true rfl) h
set_option maxRecDepth 20000 in
theorem ge_Fits_weighHeads {d : Nat} {p1 : Int} {μ : Mem} {Q : AV → Mem → Prop} (h : DW (d + 1) 92 7 [xR 10, xI p1, xI 1, xL 0, xL 0, xL 0] (xset μ 52 0 1) Q) : GM (d + 1) 92 [xR 10, xI p1] μ Q :=
  GM_wp (n := 400) (Nat.le_of_ble_eq_true rfl) (Nat.le_of_ble_eq_true rfl) rfl h
set_option maxRecDepth 20000 in
theorem sg_Fits_weighHeads_7 {d : Nat} {l1 l2 : Int} {v3 v4 v5 : AV} {μ : Mem} {Q : AV → Mem → Prop} (h : if l1 < l2 then (Q (xI 0) μ) else (GM d 77 [xI l2] μ (gI (fun r2 m1 => wb (iw (r2 - 1)) 6 (DW (d + 1) 92 25 [xR 10, xI l1, xI l2, xI (xand l2 (m1 51 (iw (r2 - 1)).toNat)), xI 0, xI 0] m1 Q))))) : DW (d + 1) 92 7 [xR 10, xI l1, xI l2, v3, v4, v5] μ Q :=
  DW_wp (n := 400) (Nat.le_of_ble_eq_true rfl) h
set_option maxRecDepth 20000 in
theorem sg_Fits_weighHeads_25 {d : Nat} {l1 l2 l3 l4 l5 : Int} {μ : Mem} {Q : AV → Mem → Prop} (h : if l5 < μ 2 1 then (if xand (xshr l3 l5) 1 = 1 then (wb (xxor l2 (xshl 1 l5)) 64 (DW (d + 1) 92 25 [xR 10, xI l1, xI l2, xI l3, xI (iw (l4 + (μ 52 (xxor l2 (xshl 1 l5)).toNat))), xI (iw (l5 + 1))] μ Q)) else (DW (d + 1) 92 25 [xR 10, xI l1, xI l2, xI l3, xI l4, xI (iw (l5 + 1))] μ Q)) else (DW (d + 1) 92 51 [xR 10, xI l1, xI l2, xI l3, xI l4, xI l5] μ Q)) : DW (d + 1) 92 25 [xR 10, xI l1, xI l2, xI l3, xI l4, xI l5] μ Q :=
  DW_wp (n := 400) (Nat.le_of_ble_eq_true rfl) h
set_option maxRecDepth 20000 in
theorem sg_Fits_weighHeads_51 {d : Nat} {l1 l2 l4 : Int} {v3 v5 : AV} {μ : Mem} {Q : AV → Mem → Prop} (h : wb l2 64 (DW (d + 1) 92 7 [xR 10, xI l1, xI (iw (l2 + 1)), v3, xI l4, v5] (xset μ 52 l2.toNat l4) Q)) : DW (d + 1) 92 51 [xR 10, xI l1, xI l2, v3, xI l4, v5] μ Q :=
  DW_wp (n := 400) (Nat.le_of_ble_eq_true rfl) h
set_option maxRecDepth 20000 in
theorem ge_Fits_weighTails {d : Nat} {p1 : Int} {μ : Mem} {Q : AV → Mem → Prop} (h : wb p1 64 (DW (d + 1) 93 9 [xR 10, xI p1, xI (iw (p1 - 1)), xL 0, xL 0, xL 0] (xset μ 53 p1.toNat 1) Q)) : GM (d + 1) 93 [xR 10, xI p1] μ Q :=
  GM_wp (n := 400) (Nat.le_of_ble_eq_true rfl) (Nat.le_of_ble_eq_true rfl) rfl h
set_option maxRecDepth 20000 in
theorem sg_Fits_weighTails_9 {d : Nat} {l2 : Int} {v1 v3 v4 v5 : AV} {μ : Mem} {Q : AV → Mem → Prop} (h : if l2 < 0 then (Q (xI 0) μ) else (GM d 77 [xI l2] μ (gI (fun r2 m1 => wb r2 6 (DW (d + 1) 93 26 [xR 10, v1, xI l2, xI (xand (m1 51 r2.toNat) (xxor l2 (-1))), xI 0, xI 0] m1 Q))))) : DW (d + 1) 93 9 [xR 10, v1, xI l2, v3, v4, v5] μ Q :=
  DW_wp (n := 400) (Nat.le_of_ble_eq_true rfl) h
set_option maxRecDepth 20000 in
theorem sg_Fits_weighTails_26 {d : Nat} {l2 l3 l4 l5 : Int} {v1 : AV} {μ : Mem} {Q : AV → Mem → Prop} (h : if l5 < μ 2 1 then (if xand (xshr l3 l5) 1 = 1 then (wb (xior l2 (xshl 1 l5)) 64 (DW (d + 1) 93 26 [xR 10, v1, xI l2, xI l3, xI (iw (l4 + (μ 53 (xior l2 (xshl 1 l5)).toNat))), xI (iw (l5 + 1))] μ Q)) else (DW (d + 1) 93 26 [xR 10, v1, xI l2, xI l3, xI l4, xI (iw (l5 + 1))] μ Q)) else (DW (d + 1) 93 52 [xR 10, v1, xI l2, xI l3, xI l4, xI l5] μ Q)) : DW (d + 1) 93 26 [xR 10, v1, xI l2, xI l3, xI l4, xI l5] μ Q :=
  DW_wp (n := 400) (Nat.le_of_ble_eq_true rfl) h
set_option maxRecDepth 20000 in
theorem sg_Fits_weighTails_52 {d : Nat} {l2 l4 : Int} {v1 v3 v5 : AV} {μ : Mem} {Q : AV → Mem → Prop} (h : wb l2 64 (DW (d + 1) 93 9 [xR 10, v1, xI (iw (l2 + (-1))), v3, xI l4, v5] (xset μ 53 l2.toNat l4) Q)) : DW (d + 1) 93 52 [xR 10, v1, xI l2, v3, xI l4, v5] μ Q :=
  DW_wp (n := 400) (Nat.le_of_ble_eq_true rfl) h
set_option maxRecDepth 20000 in
theorem ge_Fits_weighLying {d : Nat} {p1 : Int} {μ : Mem} {Q : AV → Mem → Prop} (h : GM d 95 [xR 54, xI 0] μ (gV (fun m1 => DW (d + 1) 94 6 [xR 10, xI p1, xI 0, xL 0, xL 0, xL 0] m1 Q))) : GM (d + 1) 94 [xR 10, xI p1] μ Q :=
  GM_wp (n := 400) (Nat.le_of_ble_eq_true rfl) (Nat.le_of_ble_eq_true rfl) rfl h
set_option maxRecDepth 20000 in
theorem sg_Fits_weighLying_6 {d : Nat} {l1 l2 : Int} {v3 v4 v5 : AV} {μ : Mem} {Q : AV → Mem → Prop} (h : if l2 < l1 then (GM d 77 [xI l2] μ (gI (fun r2 m1 => wb r2 6 (DW (d + 1) 94 24 [xR 10, xI l1, xI l2, xI r2, xI (xand (m1 51 r2.toNat) (xxor l2 (-1))), xI 0] m1 Q)))) else (Q (xI 0) μ)) : DW (d + 1) 94 6 [xR 10, xI l1, xI l2, v3, v4, v5] μ Q :=
  DW_wp (n := 400) (Nat.le_of_ble_eq_true rfl) h
set_option maxRecDepth 20000 in
theorem sg_Fits_weighLying_24 {d : Nat} {l1 l2 l3 l4 l5 : Int} {μ : Mem} {Q : AV → Mem → Prop} (h : if l5 < μ 2 1 then (if xand (xshr l4 l5) 1 = 1 then (wb (iw ((iw (l3 * 6)) + l5)) 36 (wb l2 64 (wb (xior l2 (xshl 1 l5)) 64 (wb (iw ((iw (l3 * 6)) + l5)) 36 (DW (d + 1) 94 24 [xR 10, xI l1, xI l2, xI l3, xI l4, xI (iw (l5 + 1))] (xset μ 54 ((iw ((iw (l3 * 6)) + l5)).toNat) (iw ((μ 54 (iw ((iw (l3 * 6)) + l5)).toNat) + (iw ((μ 52 l2.toNat) * (μ 53 (xior l2 (xshl 1 l5)).toNat)))))) Q))))) else (DW (d + 1) 94 24 [xR 10, xI l1, xI l2, xI l3, xI l4, xI (iw (l5 + 1))] μ Q)) else (DW (d + 1) 94 63 [xR 10, xI l1, xI l2, xI l3, xI l4, xI l5] μ Q)) : DW (d + 1) 94 24 [xR 10, xI l1, xI l2, xI l3, xI l4, xI l5] μ Q :=
  DW_wp (n := 400) (Nat.le_of_ble_eq_true rfl) h
set_option maxRecDepth 20000 in
theorem sg_Fits_weighLying_63 {d : Nat} {l1 l2 : Int} {v3 v4 v5 : AV} {μ : Mem} {Q : AV → Mem → Prop} (h : DW (d + 1) 94 6 [xR 10, xI l1, xI (iw (l2 + 1)), v3, v4, v5] μ Q) : DW (d + 1) 94 63 [xR 10, xI l1, xI l2, v3, v4, v5] μ Q :=
  DW_wp (n := 400) (Nat.le_of_ble_eq_true rfl) h
set_option maxRecDepth 20000 in
theorem ge_JArrays_fill_54 {d : Nat} {p1 : Int} {μ : Mem} {Q : AV → Mem → Prop} (h : DW d 95 5 [xR 54, xI p1, xI 0, xI 36] μ Q) : GM d 95 [xR 54, xI p1] μ Q :=
  GM_wp (n := 400) (Nat.le_of_ble_eq_true rfl) (Nat.le_of_ble_eq_true rfl) rfl h
set_option maxRecDepth 20000 in
theorem sg_JArrays_fill_54_5 {d : Nat} {l1 l2 l3 : Int} {μ : Mem} {Q : AV → Mem → Prop} (h : if l2 < l3 then (wb l2 36 (DW d 95 5 [xR 54, xI l1, xI (iw (l2 + 1)), xI l3] (xset μ 54 l2.toNat l1) Q)) else (Q (xI 0) μ)) : DW d 95 5 [xR 54, xI l1, xI l2, xI l3] μ Q :=
  DW_wp (n := 400) (Nat.le_of_ble_eq_true rfl) h
set_option maxRecDepth 20000 in
theorem ge_JArrays_fill_55 {d : Nat} {p1 : Int} {μ : Mem} {Q : AV → Mem → Prop} (h : DW d 95 5 [xR 55, xI p1, xI 0, xI 24] μ Q) : GM d 95 [xR 55, xI p1] μ Q :=
  GM_wp (n := 400) (Nat.le_of_ble_eq_true rfl) (Nat.le_of_ble_eq_true rfl) rfl h
set_option maxRecDepth 20000 in
theorem sg_JArrays_fill_55_5 {d : Nat} {l1 l2 l3 : Int} {μ : Mem} {Q : AV → Mem → Prop} (h : if l2 < l3 then (wb l2 24 (DW d 95 5 [xR 55, xI l1, xI (iw (l2 + 1)), xI l3] (xset μ 55 l2.toNat l1) Q)) else (Q (xI 0) μ)) : DW d 95 5 [xR 55, xI l1, xI l2, xI l3] μ Q :=
  DW_wp (n := 400) (Nat.le_of_ble_eq_true rfl) h
set_option maxRecDepth 20000 in
theorem ge_JArrays_fill_60 {d : Nat} {p1 : Int} {μ : Mem} {Q : AV → Mem → Prop} (h : DW d 95 5 [xR 60, xI p1, xI 0, xI 720] μ Q) : GM d 95 [xR 60, xI p1] μ Q :=
  GM_wp (n := 400) (Nat.le_of_ble_eq_true rfl) (Nat.le_of_ble_eq_true rfl) rfl h
set_option maxRecDepth 20000 in
theorem sg_JArrays_fill_60_5 {d : Nat} {l1 l2 l3 : Int} {μ : Mem} {Q : AV → Mem → Prop} (h : if l2 < l3 then (wb l2 720 (DW d 95 5 [xR 60, xI l1, xI (iw (l2 + 1)), xI l3] (xset μ 60 l2.toNat l1) Q)) else (Q (xI 0) μ)) : DW d 95 5 [xR 60, xI l1, xI l2, xI l3] μ Q :=
  DW_wp (n := 400) (Nat.le_of_ble_eq_true rfl) h
set_option maxRecDepth 20000 in
theorem ge_X_lies {d : Nat} {p1 : Int} {μ : Mem} {Q : AV → Mem → Prop} (h : if p1 < 0 then (Q (xI (-2)) μ) else (if p1 < μ 2 1 then (GM (d + 4) 89 [xR 10] μ (gV (fun m1 => GM (d + 4) 97 [xR 10, xI p1] m1 (gI (fun r3 m2 => Q (xI r3) m2))))) else (Q (xI (-2)) μ))) : GM (d + 5) 96 [xR 0, xI p1] μ Q :=
  GM_wp (n := 400) (Nat.le_of_ble_eq_true rfl) (Nat.le_of_ble_eq_true rfl) rfl h
set_option maxRecDepth 20000 in
theorem ge_Fits_mayLie {d : Nat} {p1 : Int} {μ : Mem} {Q : AV → Mem → Prop} (h : DW d 97 4 [xR 10, xI p1, xI 0, xI 0] μ Q) : GM d 97 [xR 10, xI p1] μ Q :=
  GM_wp (n := 400) (Nat.le_of_ble_eq_true rfl) (Nat.le_of_ble_eq_true rfl) rfl h
set_option maxRecDepth 20000 in
theorem sg_Fits_mayLie_4 {d : Nat} {l1 l2 l3 : Int} {μ : Mem} {Q : AV → Mem → Prop} (h : if l3 < μ 2 1 then (wb (iw ((iw (l1 * 6)) + l3)) 36 (if 0 < μ 54 (iw ((iw (l1 * 6)) + l3)).toNat then (DW d 97 4 [xR 10, xI l1, xI (xior l2 (xshl 1 l3)), xI (iw (l3 + 1))] μ Q) else (DW d 97 4 [xR 10, xI l1, xI l2, xI (iw (l3 + 1))] μ Q))) else (Q (xI l2) μ)) : DW d 97 4 [xR 10, xI l1, xI l2, xI l3] μ Q :=
  DW_wp (n := 400) (Nat.le_of_ble_eq_true rfl) h
set_option maxRecDepth 20000 in
theorem ge_X_sure {d : Nat} {μ : Mem} {Q : AV → Mem → Prop} (h : GM (d + 4) 89 [xR 10] μ (gV (fun m1 => GM (d + 4) 99 [xR 10] m1 (gI (fun r3 m2 => Q (xI r3) m2))))) : GM (d + 5) 98 [xR 0] μ Q :=
  GM_wp (n := 400) (Nat.le_of_ble_eq_true rfl) (Nat.le_of_ble_eq_true rfl) rfl h
set_option maxRecDepth 20000 in
theorem ge_Fits_surePlaces {d : Nat} {μ : Mem} {Q : AV → Mem → Prop} (h : DW (d + 1) 99 4 [xR 10, xI 0, xI 0] μ Q) : GM (d + 1) 99 [xR 10] μ Q :=
  GM_wp (n := 400) (Nat.le_of_ble_eq_true rfl) (Nat.le_of_ble_eq_true rfl) rfl h
set_option maxRecDepth 20000 in
theorem sg_Fits_surePlaces_4 {d : Nat} {l1 l2 : Int} {μ : Mem} {Q : AV → Mem → Prop} (h : if l2 < μ 2 1 then (GM d 97 [xR 10, xI l2] μ (gI (fun r2 m1 => GM d 77 [xI r2] m1 (gI (fun r4 m3 => if r4 = 1 then (DW (d + 1) 99 4 [xR 10, xI (xior l1 (xshl 1 l2)), xI (iw (l2 + 1))] m3 Q) else (DW (d + 1) 99 4 [xR 10, xI l1, xI (iw (l2 + 1))] m3 Q)))))) else (Q (xI l1) μ)) : DW (d + 1) 99 4 [xR 10, xI l1, xI l2] μ Q :=
  DW_wp (n := 400) (Nat.le_of_ble_eq_true rfl) h
set_option maxRecDepth 20000 in
theorem ge_X_odds {d : Nat} {p1 p2 : Int} {μ : Mem} {Q : AV → Mem → Prop} (h : if p1 < 0 then (Q (xI (-2)) μ) else (if p1 < μ 2 1 then (if p2 < 0 then (Q (xI (-3)) μ) else (if 1 < p2 then (Q (xI (-3)) μ) else (GM (d + 4) 89 [xR 10] μ (gV (fun m1 => if m1 10 7 = 0 then (Q (xI (-4)) m1) else (GM (d + 4) 101 [xR 10, xI p1] m1 (gI (fun r3 m2 => GM (d + 4) 102 [xI r3, xI (m2 10 7)] m2 (gI (fun r5 m4 => if p2 = 0 then (wz r5 (Q (xI (xdiv r3 r5)) m4)) else (wz r5 (Q (xI (xdiv (m4 10 7) r5)) m4)))))))))))) else (Q (xI (-2)) μ))) : GM (d + 5) 100 [xR 0, xI p1, xI p2] μ Q :=
  GM_wp (n := 400) (Nat.le_of_ble_eq_true rfl) (Nat.le_of_ble_eq_true rfl) rfl h
set_option maxRecDepth 20000 in
theorem ge_Fits_withCharm {d : Nat} {p1 : Int} {μ : Mem} {Q : AV → Mem → Prop} (h : DW (d + 1) 101 4 [xR 10, xI p1, xI 0, xI 0] μ Q) : GM (d + 1) 101 [xR 10, xI p1] μ Q :=
  GM_wp (n := 400) (Nat.le_of_ble_eq_true rfl) (Nat.le_of_ble_eq_true rfl) rfl h
set_option maxRecDepth 20000 in
theorem sg_Fits_withCharm_4 {d : Nat} {l1 l2 l3 : Int} {μ : Mem} {Q : AV → Mem → Prop} (h : if l3 < μ 2 1 then (wb l3 6 (if μ 17 l3.toNat = 0 then (DW (d + 1) 101 4 [xR 10, xI l1, xI l2, xI (iw (l3 + 1))] μ Q) else (wb (iw ((iw (l1 * 6)) + l3)) 36 (DW (d + 1) 101 4 [xR 10, xI l1, xI (iw (l2 + (μ 54 (iw ((iw (l1 * 6)) + l3)).toNat))), xI (iw (l3 + 1))] μ Q)))) else (Q (xI l2) μ)) : DW (d + 1) 101 4 [xR 10, xI l1, xI l2, xI l3] μ Q :=
  DW_wp (n := 400) (Nat.le_of_ble_eq_true rfl) h
set_option maxRecDepth 20000 in
theorem ge_X_commonDivisor {d : Nat} {p0 p1 : Int} {μ : Mem} {Q : AV → Mem → Prop} (h : DW (d + 1) 102 6 [xI p0, xI p1, xI p0, xI p1, xI 0, xL 0] μ Q) : GM (d + 1) 102 [xI p0, xI p1] μ Q :=
  GM_wp (n := 400) (Nat.le_of_ble_eq_true rfl) (Nat.le_of_ble_eq_true rfl) rfl h
set_option maxRecDepth 20000 in
theorem sg_X_commonDivisor_6 {d : Nat} {l2 l3 l4 : Int} {v0 v1 v5 : AV} {μ : Mem} {Q : AV → Mem → Prop} (h : if l4 < 64 then (if 0 < l3 then (wz l3 (DW (d + 1) 102 6 [v0, v1, xI l3, xI (xrem l2 l3), xI (iw (l4 + 1)), xI (xrem l2 l3)] μ Q)) else (DW (d + 1) 102 22 [v0, v1, xI l2, xI l3, xI l4, v5] μ Q)) else (DW (d + 1) 102 22 [v0, v1, xI l2, xI l3, xI l4, v5] μ Q)) : DW (d + 1) 102 6 [v0, v1, xI l2, xI l3, xI l4, v5] μ Q :=
  DW_wp (n := 400) (Nat.le_of_ble_eq_true rfl) h
set_option maxRecDepth 20000 in
theorem sg_X_commonDivisor_22 {d : Nat} {l2 : Int} {v0 v1 v3 v4 v5 : AV} {μ : Mem} {Q : AV → Mem → Prop} (h : Q (xI (max l2 1)) μ) : DW (d + 1) 102 22 [v0, v1, xI l2, v3, v4, v5] μ Q :=
  DW_wp (n := 400) (Nat.le_of_ble_eq_true rfl) h
set_option maxRecDepth 20000 in
theorem ge_X_next {d : Nat} {p1 : Int} {μ : Mem} {Q : AV → Mem → Prop} (h : if p1 < 0 then (Q (xI (-3)) μ) else (if 2 < p1 then (Q (xI (-3)) μ) else (GM (d + 4) 89 [xR 10] μ (gV (fun m1 => if m1 2 1 = 0 then (Q (xI (-1)) m1) else (if m1 10 7 = 0 then (Q (xI (-1)) m1) else (GM (d + 4) 104 [xR 10] m1 (gI (fun r3 m2 => if p1 = 0 then (Q (xI (xdiv r3 4)) m2) else (if p1 = 1 then (Q (xI (xrem r3 4)) m2) else (GM (d + 4) 105 [xR 10, xI (xdiv r3 4), xI (xrem r3 4)] m2 (gI (fun r5 m4 => Q (xI r5) m4))))))))))))) : GM (d + 5) 103 [xR 0, xI p1] μ Q :=
  GM_wp (n := 400) (Nat.le_of_ble_eq_true rfl) (Nat.le_of_ble_eq_true rfl) rfl h
set_option maxRecDepth 20000 in
theorem ge_Fits_bestPair {d : Nat} {μ : Mem} {Q : AV → Mem → Prop} (h : GM (d + 2) 105 [xR 10, xI 0, xI 0] μ (gI (fun r2 m1 => DW (d + 3) 104 9 [xR 10, xI 0, xI r2, xI 1, xL 0] m1 Q))) : GM (d + 3) 104 [xR 10] μ Q :=
  GM_wp (n := 400) (Nat.le_of_ble_eq_true rfl) (Nat.le_of_ble_eq_true rfl) rfl h
set_option maxRecDepth 20000 in
theorem sg_Fits_bestPair_9 {d : Nat} {l1 l2 l3 : Int} {v4 : AV} {μ : Mem} {Q : AV → Mem → Prop} (h : if l3 < iw ((μ 2 1) * 4) then (GM (d + 2) 105 [xR 10, xI (xdiv l3 4), xI (xrem l3 4)] μ (gI (fun r2 m1 => if r2 < l2 then (DW (d + 3) 104 9 [xR 10, xI l3, xI r2, xI (iw (l3 + 1)), xI r2] m1 Q) else (DW (d + 3) 104 9 [xR 10, xI l1, xI l2, xI (iw (l3 + 1)), xI r2] m1 Q)))) else (Q (xI l1) μ)) : DW (d + 3) 104 9 [xR 10, xI l1, xI l2, xI l3, v4] μ Q :=
  DW_wp (n := 400) (Nat.le_of_ble_eq_true rfl) h
set_option maxRecDepth 20000 in
theorem ge_Fits_leftAtMost {d : Nat} {p1 p2 : Int} {μ : Mem} {Q : AV → Mem → Prop} (h : DW (d + 2) 105 4 [xR 10, xI p1, xI p2, xI 0, xI 0] μ Q) : GM (d + 2) 105 [xR 10, xI p1, xI p2] μ Q :=
  GM_wp (n := 400) (Nat.le_of_ble_eq_true rfl) (Nat.le_of_ble_eq_true rfl) rfl h
set_option maxRecDepth 20000 in
theorem sg_Fits_leftAtMost_4 {d : Nat} {l1 l2 l3 l4 : Int} {μ : Mem} {Q : AV → Mem → Prop} (h : if l4 < μ 2 1 then (GM (d + 1) 52 [xR 3, xI l4, xI l1, xI l2] μ (gI (fun r2 m1 => if r2 = 0 then (DW (d + 2) 105 4 [xR 10, xI l1, xI l2, xI l3, xI (iw (l4 + 1))] m1 Q) else (wb (iw ((iw (l1 * 6)) + l4)) 36 (DW (d + 2) 105 4 [xR 10, xI l1, xI l2, xI (iw (l3 + (m1 54 (iw ((iw (l1 * 6)) + l4)).toNat))), xI (iw (l4 + 1))] m1 Q))))) else (DW (d + 2) 105 30 [xR 10, xI l1, xI l2, xI l3, xI l4] μ Q)) : DW (d + 2) 105 4 [xR 10, xI l1, xI l2, xI l3, xI l4] μ Q :=
  DW_wp (n := 400) (Nat.le_of_ble_eq_true rfl) h
set_option maxRecDepth 20000 in
theorem sg_Fits_leftAtMost_30 {d : Nat} {l3 : Int} {v1 v2 v4 : AV} {μ : Mem} {Q : AV → Mem → Prop} (h : Q (xI (max l3 (iw ((μ 10 7) - l3)))) μ) : DW (d + 2) 105 30 [xR 10, v1, v2, xI l3, v4] μ Q :=
  DW_wp (n := 400) (Nat.le_of_ble_eq_true rfl) h
set_option maxRecDepth 20000 in
theorem ge_X_apart {d : Nat} {p1 : Int} {μ : Mem} {Q : AV → Mem → Prop} (h : if p1 < (-1) then (Q (xI (-3)) μ) else (GM (d + 5) 107 [xR 11] μ (gI (fun r2 m1 => if p1 = (-1) then (Q (xI r2) m1) else (if p1 < r2 then (wb p1 4 (Q (xI (m1 58 p1.toNat)) m1)) else (Q (xI (-1)) m1)))))) : GM (d + 6) 106 [xR 0, xI p1] μ Q :=
  GM_wp (n := 400) (Nat.le_of_ble_eq_true rfl) (Nat.le_of_ble_eq_true rfl) rfl h
set_option maxRecDepth 20000 in
theorem ge_Apart_find {d : Nat} {μ : Mem} {Q : AV → Mem → Prop} (h : GM (d + 4) 89 [xR 10] μ (gV (fun m1 => if 16 < m1 10 7 then (Q (xI (-1)) m1) else (GM (d + 4) 95 [xR 55, xI 0] m1 (gV (fun m2 => GM (d + 4) 108 [xR 11, xI 0, xI 0] (xset m2 11 6 0) (gV (fun m3 => DW (d + 5) 107 33 [xR 11, xI 0] (xset m3 56 1 (iw ((xshl 1 (m3 11 6)) - 1))) Q)))))))) : GM (d + 5) 107 [xR 11] μ Q :=
  GM_wp (n := 400) (Nat.le_of_ble_eq_true rfl) (Nat.le_of_ble_eq_true rfl) rfl h
set_option maxRecDepth 20000 in
theorem sg_Apart_find_33 {d : Nat} {l1 : Int} {μ : Mem} {Q : AV → Mem → Prop} (h : if 4 < l1 then (Q (xI (-1)) μ) else (GM (d + 4) 110 [xR 11, xI 0, xI 0, xI l1] μ (gI (fun r2 m1 => if r2 = 0 then (DW (d + 5) 107 33 [xR 11, xI (iw (l1 + 1))] m1 Q) else (Q (xI l1) m1))))) : DW (d + 5) 107 33 [xR 11, xI l1] μ Q :=
  DW_wp (n := 400) (Nat.le_of_ble_eq_true rfl) h
set_option maxRecDepth 20000 in
theorem ge_Apart_gather {d : Nat} {p1 p2 : Int} {μ : Mem} {Q : AV → Mem → Prop} (h : wb p2 64 (if μ 53 p2.toNat = 0 then (Q (xI 0) μ) else (if μ 11 6 < 16 then (if p1 < μ 2 1 then (wb p1 6 (DW (d + 1) 108 37 [xR 11, xI p1, xI p2, xI (xand (μ 51 p1.toNat) (xxor p2 (-1))), xI 0] μ Q)) else (GM d 109 [xR 11] μ (gV (fun m1 => Q (xI 0) (xset m1 11 6 (iw ((m1 11 6) + 1))))))) else (Q (xI 0) μ)))) : GM (d + 1) 108 [xR 11, xI p1, xI p2] μ Q :=
  GM_wp (n := 400) (Nat.le_of_ble_eq_true rfl) (Nat.le_of_ble_eq_true rfl) rfl h
set_option maxRecDepth 20000 in
theorem sg_Apart_gather_37 {d : Nat} {l1 l2 l3 l4 : Int} {μ : Mem} {Q : AV → Mem → Prop} (h : if l4 < μ 2 1 then (if xand (xshr l3 l4) 1 = 1 then (wb l1 6 (GM d 108 [xR 11, xI (iw (l1 + 1)), xI (xior l2 (xshl 1 l4))] (xset μ 57 l1.toNat l4) (gV (fun m1 => DW (d + 1) 108 37 [xR 11, xI l1, xI l2, xI l3, xI (iw (l4 + 1))] m1 Q)))) else (DW (d + 1) 108 37 [xR 11, xI l1, xI l2, xI l3, xI (iw (l4 + 1))] μ Q)) else (Q (xI 0) μ)) : DW (d + 1) 108 37 [xR 11, xI l1, xI l2, xI l3, xI l4] μ Q :=
  DW_wp (n := 400) (Nat.le_of_ble_eq_true rfl) h
set_option maxRecDepth 20000 in
theorem ge_Apart_noteAnswers {d : Nat} {μ : Mem} {Q : AV → Mem → Prop} (h : DW (d + 2) 109 2 [xR 11, xI 0, xL 0] μ Q) : GM (d + 2) 109 [xR 11] μ Q :=
  GM_wp (n := 400) (Nat.le_of_ble_eq_true rfl) (Nat.le_of_ble_eq_true rfl) rfl h
set_option maxRecDepth 20000 in
theorem sg_Apart_noteAnswers_2 {d : Nat} {l1 : Int} {v2 : AV} {μ : Mem} {Q : AV → Mem → Prop} (h : if l1 < μ 2 1 then (DW (d + 2) 109 10 [xR 11, xI l1, xI 0] μ Q) else (Q (xI 0) μ)) : DW (d + 2) 109 2 [xR 11, xI l1, v2] μ Q :=
  DW_wp (n := 400) (Nat.le_of_ble_eq_true rfl) h
set_option maxRecDepth 20000 in
theorem sg_Apart_noteAnswers_10 {d : Nat} {l1 l2 : Int} {μ : Mem} {Q : AV → Mem → Prop} (h : if l2 < 4 then (wb l1 6 (GM (d + 1) 52 [xR 3, xI (μ 57 l1.toNat), xI l1, xI l2] μ (gI (fun r2 m1 => if r2 = 0 then (DW (d + 2) 109 10 [xR 11, xI l1, xI (iw (l2 + 1))] m1 Q) else (wb (iw ((iw (l1 * 4)) + l2)) 24 (wb (iw ((iw (l1 * 4)) + l2)) 24 (DW (d + 2) 109 10 [xR 11, xI l1, xI (iw (l2 + 1))] (xset m1 55 ((iw ((iw (l1 * 4)) + l2)).toNat) (xior (m1 55 (iw ((iw (l1 * 4)) + l2)).toNat) (xshl 1 (m1 11 6)))) Q))))))) else (DW (d + 2) 109 41 [xR 11, xI l1, xI l2] μ Q)) : DW (d + 2) 109 10 [xR 11, xI l1, xI l2] μ Q :=
  DW_wp (n := 400) (Nat.le_of_ble_eq_true rfl) h
set_option maxRecDepth 20000 in
theorem sg_Apart_noteAnswers_41 {d : Nat} {l1 : Int} {v2 : AV} {μ : Mem} {Q : AV → Mem → Prop} (h : DW (d + 2) 109 2 [xR 11, xI (iw (l1 + 1)), v2] μ Q) : DW (d + 2) 109 41 [xR 11, xI l1, v2] μ Q :=
  DW_wp (n := 400) (Nat.le_of_ble_eq_true rfl) h
set_option maxRecDepth 20000 in
theorem ge_Apart_choose {d : Nat} {p1 p2 p3 : Int} {μ : Mem} {Q : AV → Mem → Prop} (h : GM d 111 [xR 11, xI p1, xI (xshl 1 (iw (p3 - p1)))] μ (gI (fun r2 m1 => if r2 = 0 then (if p1 < p3 then (if p1 < 4 then (DW (d + 1) 110 21 [xR 11, xI p1, xI p2, xI p3, xI p2] m1 Q) else (Q (xI 1) m1)) else (Q (xI 1) m1)) else (Q (xI 0) m1)))) : GM (d + 1) 110 [xR 11, xI p1, xI p2, xI p3] μ Q :=
  GM_wp (n := 400) (Nat.le_of_ble_eq_true rfl) (Nat.le_of_ble_eq_true rfl) rfl h
set_option maxRecDepth 20000 in
theorem sg_Apart_choose_21 {d : Nat} {l1 l3 l4 : Int} {v2 : AV} {μ : Mem} {Q : AV → Mem → Prop} (h : if l4 < iw ((μ 2 1) * 4) then (wb l1 4 (wb l4 24 (GM d 112 [xR 11, xI l1, xI (μ 55 l4.toNat)] (xset μ 58 l1.toNat l4) (gV (fun m1 => GM d 110 [xR 11, xI (iw (l1 + 1)), xI (iw (l4 + 1)), xI l3] m1 (gI (fun r3 m2 => if r3 = 0 then (DW (d + 1) 110 21 [xR 11, xI l1, v2, xI l3, xI (iw (l4 + 1))] m2 Q) else (Q (xI 1) m2)))))))) else (Q (xI 0) μ)) : DW (d + 1) 110 21 [xR 11, xI l1, v2, xI l3, xI l4] μ Q :=
  DW_wp (n := 400) (Nat.le_of_ble_eq_true rfl) h
set_option maxRecDepth 20000 in
theorem ge_Apart_isTooCoarse {d : Nat} {p1 p2 : Int} {μ : Mem} {Q : AV → Mem → Prop} (h : DW (d + 1) 111 4 [xR 11, xI p1, xI p2, xI (xshl 1 p1)] μ Q) : GM (d + 1) 111 [xR 11, xI p1, xI p2] μ Q :=
  GM_wp (n := 400) (Nat.le_of_ble_eq_true rfl) (Nat.le_of_ble_eq_true rfl) rfl h
set_option maxRecDepth 20000 in
theorem sg_Apart_isTooCoarse_4 {d : Nat} {l1 l2 l3 : Int} {μ : Mem} {Q : AV → Mem → Prop} (h : if l3 < xshl 2 l1 then (wb l3 32 (GM d 77 [xI (μ 56 l3.toNat)] μ (gI (fun r2 m1 => if l2 < r2 then (Q (xI 1) m1) else (DW (d + 1) 111 4 [xR 11, xI l1, xI l2, xI (iw (l3 + 1))] m1 Q))))) else (Q (xI 0) μ)) : DW (d + 1) 111 4 [xR 11, xI l1, xI l2, xI l3] μ Q :=
  DW_wp (n := 400) (Nat.le_of_ble_eq_true rfl) h
set_option maxRecDepth 20000 in
theorem ge_Apart_split {d : Nat} {p1 p2 : Int} {μ : Mem} {Q : AV → Mem → Prop} (h : DW d 112 4 [xR 11, xI p1, xI p2, xI (xshl 1 p1)] μ Q) : GM d 112 [xR 11, xI p1, xI p2] μ Q :=
  GM_wp (n := 400) (Nat.le_of_ble_eq_true rfl) (Nat.le_of_ble_eq_true rfl) rfl h
set_option maxRecDepth 20000 in
theorem sg_Apart_split_4 {d : Nat} {l1 l2 l3 : Int} {μ : Mem} {Q : AV → Mem → Prop} (h : if l3 < xshl 2 l1 then (wb l3 32 (wb (iw (2 * l3)) 32 (wb l3 32 (wb (iw ((iw (2 * l3)) + 1)) 32 (DW d 112 4 [xR 11, xI l1, xI l2, xI (iw (l3 + 1))] (xset (xset μ 56 ((iw (2 * l3)).toNat) (xand (μ 56 l3.toNat) (xxor l2 (-1)))) 56 ((iw ((iw (2 * l3)) + 1)).toNat) (xand ((xset μ 56 ((iw (2 * l3)).toNat) (xand (μ 56 l3.toNat) (xxor l2 (-1)))) 56 l3.toNat) l2)) Q))))) else (Q (xI 0) μ)) : DW d 112 4 [xR 11, xI l1, xI l2, xI l3] μ Q :=
  DW_wp (n := 400) (Nat.le_of_ble_eq_true rfl) h
set_option maxRecDepth 20000 in
theorem ge_X_came {d : Nat} {p1 : Int} {μ : Mem} {Q : AV → Mem → Prop} (h : if p1 < 0 then (Q (xI (-3)) μ) else (if 1 < p1 then (Q (xI (-3)) μ) else (GM (d + 5) 114 [xR 12] μ (gV (fun m1 => if m1 12 8 = 0 then (Q (xI (-1)) m1) else (if p1 = 0 then (Q (xI (m1 12 7)) m1) else (Q (xI (m1 12 8)) m1))))))) : GM (d + 6) 113 [xR 0, xI p1] μ Q :=
  GM_wp (n := 400) (Nat.le_of_ble_eq_true rfl) (Nat.le_of_ble_eq_true rfl) rfl h
set_option maxRecDepth 20000 in
theorem ge_Came_find {d : Nat} {μ : Mem} {Q : AV → Mem → Prop} (h : if μ 12 6 = (-1) then (GM (d + 4) 115 [xR 12, xI 0, xI 0, xI 0] (xset μ 12 4 0) (gV (fun m1 => if m1 12 6 = (-1) then (GM (d + 4) 116 [xR 12] m1 (gV (fun m2 => DW (d + 5) 114 24 [xR 12, xL 0] m2 Q))) else (if m1 3 1 < m1 12 6 then (GM (d + 4) 116 [xR 12] m1 (gV (fun m3 => DW (d + 5) 114 24 [xR 12, xL 0] m3 Q))) else (DW (d + 5) 114 24 [xR 12, xL 0] m1 Q))))) else (if μ 12 6 = (-1) then (GM (d + 4) 116 [xR 12] μ (gV (fun m4 => DW (d + 5) 114 24 [xR 12, xL 0] m4 Q))) else (if μ 3 1 < μ 12 6 then (GM (d + 4) 116 [xR 12] μ (gV (fun m5 => DW (d + 5) 114 24 [xR 12, xL 0] m5 Q))) else (DW (d + 5) 114 24 [xR 12, xL 0] μ Q)))) : GM (d + 5) 114 [xR 12] μ Q :=
  GM_wp (n := 400) (Nat.le_of_ble_eq_true rfl) (Nat.le_of_ble_eq_true rfl) rfl h
set_option maxRecDepth 20000 in
theorem sg_Came_find_24 {d : Nat} {v1 : AV} {μ : Mem} {Q : AV → Mem → Prop} (h : if μ 12 6 < μ 3 1 then (GM (d + 4) 117 [xR 12] μ (gV (fun m1 => DW (d + 5) 114 24 [xR 12, v1] (xset m1 12 6 (iw ((m1 12 6) + 1))) Q))) else (DW (d + 5) 114 40 [xR 12, v1] μ Q)) : DW (d + 5) 114 24 [xR 12, v1] μ Q :=
  DW_wp (n := 400) (Nat.le_of_ble_eq_true rfl) h
set_option maxRecDepth 20000 in
theorem sg_Came_find_40 {d : Nat} {v1 : AV} {μ : Mem} {Q : AV → Mem → Prop} (h : GM (d + 4) 89 [xR 10] μ (gV (fun m1 => DW (d + 5) 114 52 [xR 12, xI 0] (xset (xset m1 12 7 7) 12 8 0) Q))) : DW (d + 5) 114 40 [xR 12, v1] μ Q :=
  DW_wp (n := 400) (Nat.le_of_ble_eq_true rfl) h
set_option maxRecDepth 20000 in
theorem sg_Came_find_52 {d : Nat} {l1 : Int} {μ : Mem} {Q : AV → Mem → Prop} (h : if l1 < μ 12 4 then (wb l1 720 (if μ 60 l1.toNat < 7 then (wb l1 720 (GM (d + 4) 122 [xR 12, xI (μ 59 l1.toNat)] μ (gI (fun r2 m1 => if r2 = 0 then (DW (d + 5) 114 52 [xR 12, xI (iw (l1 + 1))] m1 Q) else (wb l1 720 (DW (d + 5) 114 52 [xR 12, xI (iw (l1 + 1))] (xset (xset m1 12 8 (iw ((m1 12 8) + 1))) 12 7 (min (m1 12 7) (m1 60 l1.toNat))) Q)))))) else (DW (d + 5) 114 52 [xR 12, xI (iw (l1 + 1))] μ Q))) else (Q (xI 0) μ)) : DW (d + 5) 114 52 [xR 12, xI l1] μ Q :=
  DW_wp (n := 400) (Nat.le_of_ble_eq_true rfl) h
set_option maxRecDepth 20000 in
theorem ge_Came_list {d : Nat} {p1 p2 p3 : Int} {μ : Mem} {Q : AV → Mem → Prop} (h : if p1 < μ 2 1 then (DW (d + 1) 115 24 [xR 12, xI p1, xI p2, xI p3, xI 0] μ Q) else (if μ 12 4 < 720 then (wb (μ 12 4) 720 (Q (xI 0) (xset (xset μ 59 ((μ 12 4).toNat) p3) 12 4 (iw ((μ 12 4) + 1))))) else (Q (xI 0) μ))) : GM (d + 1) 115 [xR 12, xI p1, xI p2, xI p3] μ Q :=
  GM_wp (n := 400) (Nat.le_of_ble_eq_true rfl) (Nat.le_of_ble_eq_true rfl) rfl h
set_option maxRecDepth 20000 in
theorem sg_Came_list_24 {d : Nat} {l1 l2 l3 l4 : Int} {μ : Mem} {Q : AV → Mem → Prop} (h : if l4 < μ 2 1 then (wb l4 6 (wb l1 6 (if μ 18 l4.toNat = μ 18 l1.toNat then (if xand (xshr l2 l4) 1 = 0 then (GM d 115 [xR 12, xI (iw (l1 + 1)), xI (xior l2 (xshl 1 l4)), xI (xior (xshl l3 3) l4)] μ (gV (fun m1 => DW (d + 1) 115 24 [xR 12, xI l1, xI l2, xI l3, xI (iw (l4 + 1))] m1 Q))) else (DW (d + 1) 115 24 [xR 12, xI l1, xI l2, xI l3, xI (iw (l4 + 1))] μ Q)) else (DW (d + 1) 115 24 [xR 12, xI l1, xI l2, xI l3, xI (iw (l4 + 1))] μ Q)))) else (Q (xI 0) μ)) : DW (d + 1) 115 24 [xR 12, xI l1, xI l2, xI l3, xI l4] μ Q :=
  DW_wp (n := 400) (Nat.le_of_ble_eq_true rfl) h
set_option maxRecDepth 20000 in
theorem ge_Came_startAtHome {d : Nat} {μ : Mem} {Q : AV → Mem → Prop} (h : GM d 95 [xR 60, xI 7] μ (gV (fun m1 => Q (xI 0) (xset (xset m1 60 0 0) 12 6 0)))) : GM (d + 1) 116 [xR 12] μ Q :=
  GM_wp (n := 400) (Nat.le_of_ble_eq_true rfl) (Nat.le_of_ble_eq_true rfl) rfl h
set_option maxRecDepth 20000 in
theorem ge_Came_goOn {d : Nat} {μ : Mem} {Q : AV → Mem → Prop} (h : DW (d + 4) 117 3 [xR 12, xI (μ 12 6), xL 0] μ Q) : GM (d + 4) 117 [xR 12] μ Q :=
  GM_wp (n := 400) (Nat.le_of_ble_eq_true rfl) (Nat.le_of_ble_eq_true rfl) rfl h
set_option maxRecDepth 20000 in
theorem sg_Came_goOn_3 {d : Nat} {l1 : Int} {v2 : AV} {μ : Mem} {Q : AV → Mem → Prop} (h : if l1 < 0 then (Q (xI 0) μ) else (DW (d + 4) 117 8 [xR 12, xI l1, xI 0] μ Q)) : DW (d + 4) 117 3 [xR 12, xI l1, v2] μ Q :=
  DW_wp (n := 400) (Nat.le_of_ble_eq_true rfl) h
set_option maxRecDepth 20000 in
theorem sg_Came_goOn_8 {d : Nat} {l1 l2 : Int} {μ : Mem} {Q : AV → Mem → Prop} (h : if l2 < μ 12 4 then (wb l2 720 (if μ 60 l2.toNat = l1 then (wb l2 720 (GM (d + 3) 118 [xR 12, xI (μ 59 l2.toNat), xI (iw (l1 + 1))] μ (gV (fun m1 => DW (d + 4) 117 8 [xR 12, xI l1, xI (iw (l2 + 1))] m1 Q)))) else (DW (d + 4) 117 8 [xR 12, xI l1, xI (iw (l2 + 1))] μ Q))) else (DW (d + 4) 117 30 [xR 12, xI l1, xI l2] μ Q)) : DW (d + 4) 117 8 [xR 12, xI l1, xI l2] μ Q :=
  DW_wp (n := 400) (Nat.le_of_ble_eq_true rfl) h
set_option maxRecDepth 20000 in
theorem sg_Came_goOn_30 {d : Nat} {l1 : Int} {v2 : AV} {μ : Mem} {Q : AV → Mem → Prop} (h : DW (d + 4) 117 3 [xR 12, xI (iw (l1 + (-1))), v2] μ Q) : DW (d + 4) 117 30 [xR 12, xI l1, v2] μ Q :=
  DW_wp (n := 400) (Nat.le_of_ble_eq_true rfl) h
set_option maxRecDepth 20000 in
theorem ge_Came_spread {d : Nat} {p1 p2 : Int} {μ : Mem} {Q : AV → Mem → Prop} (h : DW (d + 3) 118 2 [xR 12, xI p1, xI p2, xI 0, xL 0, xL 0] μ Q) : GM (d + 3) 118 [xR 12, xI p1, xI p2] μ Q :=
  GM_wp (n := 400) (Nat.le_of_ble_eq_true rfl) (Nat.le_of_ble_eq_true rfl) rfl h
set_option maxRecDepth 20000 in
theorem sg_Came_spread_2 {d : Nat} {l1 l2 l3 : Int} {v4 v5 : AV} {μ : Mem} {Q : AV → Mem → Prop} (h : if l3 < μ 2 1 then (DW (d + 3) 118 12 [xR 12, xI l1, xI l2, xI l3, xI (iw (l3 + 1)), v5] μ Q) else (Q (xI 0) μ)) : DW (d + 3) 118 2 [xR 12, xI l1, xI l2, xI l3, v4, v5] μ Q :=
  DW_wp (n := 400) (Nat.le_of_ble_eq_true rfl) h
set_option maxRecDepth 20000 in
theorem sg_Came_spread_12 {d : Nat} {l1 l2 l3 l4 : Int} {v5 : AV} {μ : Mem} {Q : AV → Mem → Prop} (h : if l4 < μ 2 1 then (GM (d + 2) 57 [xR 2, xI (μ 12 6), xI l3, xI l4] μ (gI (fun r2 m1 => if r2 = 0 then (DW (d + 3) 118 12 [xR 12, xI l1, xI l2, xI l3, xI (iw (l4 + 1)), v5] m1 Q) else (GM (d + 2) 119 [xR 12, xI l1, xI l3, xI l4] m1 (gI (fun r4 m3 => GM (d + 2) 121 [xR 12, xI r4] m3 (gI (fun r6 m5 => wb r6 720 (wb r6 720 (DW (d + 3) 118 12 [xR 12, xI l1, xI l2, xI l3, xI (iw (l4 + 1)), xI r6] (xset m5 60 r6.toNat (min (m5 60 r6.toNat) l2)) Q)))))))))) else (DW (d + 3) 118 46 [xR 12, xI l1, xI l2, xI l3, xI l4, v5] μ Q)) : DW (d + 3) 118 12 [xR 12, xI l1, xI l2, xI l3, xI l4, v5] μ Q :=
  DW_wp (n := 400) (Nat.le_of_ble_eq_true rfl) h
set_option maxRecDepth 20000 in
theorem sg_Came_spread_46 {d : Nat} {l1 l2 l3 : Int} {v4 v5 : AV} {μ : Mem} {Q : AV → Mem → Prop} (h : DW (d + 3) 118 2 [xR 12, xI l1, xI l2, xI (iw (l3 + 1)), v4, v5] μ Q) : DW (d + 3) 118 46 [xR 12, xI l1, xI l2, xI l3, v4, v5] μ Q :=
  DW_wp (n := 400) (Nat.le_of_ble_eq_true rfl) h
set_option maxRecDepth 20000 in
theorem ge_Came_exchanged {d : Nat} {p1 p2 p3 : Int} {μ : Mem} {Q : AV → Mem → Prop} (h : Q (xI (xxor p1 (xior (xshl (xand (xxor (xshr p1 (iw (3 * (iw ((iw ((μ 2 1) - 1)) - p2))))) (xshr p1 (iw (3 * (iw ((iw ((μ 2 1) - 1)) - p3)))))) 7) (iw (3 * (iw ((iw ((μ 2 1) - 1)) - p2))))) (xshl (xand (xxor (xshr p1 (iw (3 * (iw ((iw ((μ 2 1) - 1)) - p2))))) (xshr p1 (iw (3 * (iw ((iw ((μ 2 1) - 1)) - p3)))))) 7) (iw (3 * (iw ((iw ((μ 2 1) - 1)) - p3)))))))) μ) : GM (d + 1) 119 [xR 12, xI p1, xI p2, xI p3] μ Q :=
  GM_wp (n := 400) (Nat.le_of_ble_eq_true rfl) (Nat.le_of_ble_eq_true rfl) rfl h
set_option maxRecDepth 20000 in
theorem ge_Came_indexOf {d : Nat} {p1 : Int} {μ : Mem} {Q : AV → Mem → Prop} (h : DW d 121 9 [xR 12, xI p1, xI 0, xI (iw ((μ 12 4) - 1)), xI 0, xL 0] μ Q) : GM d 121 [xR 12, xI p1] μ Q :=
  GM_wp (n := 400) (Nat.le_of_ble_eq_true rfl) (Nat.le_of_ble_eq_true rfl) rfl h
set_option maxRecDepth 20000 in
theorem sg_Came_indexOf_9 {d : Nat} {l1 l2 l3 l4 : Int} {v5 : AV} {μ : Mem} {Q : AV → Mem → Prop} (h : if l4 < 12 then (if l2 < l3 then (wb (xdiv (iw (l2 + l3)) 2) 720 (if μ 59 (xdiv (iw (l2 + l3)) 2).toNat < l1 then (DW d 121 9 [xR 12, xI l1, xI (iw ((xdiv (iw (l2 + l3)) 2) + 1)), xI l3, xI (iw (l4 + 1)), xI (xdiv (iw (l2 + l3)) 2)] μ Q) else (DW d 121 9 [xR 12, xI l1, xI l2, xI (xdiv (iw (l2 + l3)) 2), xI (iw (l4 + 1)), xI (xdiv (iw (l2 + l3)) 2)] μ Q))) else (Q (xI l2) μ)) else (Q (xI l2) μ)) : DW d 121 9 [xR 12, xI l1, xI l2, xI l3, xI l4, v5] μ Q :=
  DW_wp (n := 400) (Nat.le_of_ble_eq_true rfl) h
set_option maxRecDepth 20000 in
theorem ge_Came_isFit {d : Nat} {p1 : Int} {μ : Mem} {Q : AV → Mem → Prop} (h : DW (d + 1) 122 2 [xR 12, xI p1, xI 0, xL 0] μ Q) : GM (d + 1) 122 [xR 12, xI p1] μ Q :=
  GM_wp (n := 400) (Nat.le_of_ble_eq_true rfl) (Nat.le_of_ble_eq_true rfl) rfl h
set_option maxRecDepth 20000 in
theorem sg_Came_isFit_2 {d : Nat} {l1 l2 : Int} {v3 : AV} {μ : Mem} {Q : AV → Mem → Prop} (h : if l2 < μ 2 1 then (wb l2 6 (if xand (xshr (μ 51 l2.toNat) (xand (xshr l1 (iw (3 * (iw ((iw ((μ 2 1) - 1)) - l2))))) 7)) 1 = 0 then (Q (xI 0) μ) else (DW (d + 1) 122 2 [xR 12, xI l1, xI (iw (l2 + 1)), xI (xand (xshr l1 (iw (3 * (iw ((iw ((μ 2 1) - 1)) - l2))))) 7)] μ Q))) else (Q (xI 1) μ)) : DW (d + 1) 122 2 [xR 12, xI l1, xI l2, v3] μ Q :=
  DW_wp (n := 400) (Nat.le_of_ble_eq_true rfl) h
set_option maxRecDepth 20000 in
theorem ge_X_count {d : Nat} {p1 : Int} {μ : Mem} {Q : AV → Mem → Prop} (h : if p1 = 0 then (Q (xI (μ 2 0)) μ) else (if p1 = 1 then (Q (xI (μ 2 1)) μ) else (if p1 = 2 then (Q (xI (μ 2 2)) μ) else (if p1 = 3 then (Q (xI (μ 3 1)) μ) else (if p1 = 4 then (Q (xI (μ 3 2)) μ) else (if p1 = 5 then (Q (xI (μ 3 3)) μ) else (if p1 = 6 then (GM d 124 [xR 3] μ (gI (fun r4 m3 => Q (xI r4) m3))) else (if p1 = 7 then (GM d 125 [xR 2] μ (gI (fun r2 m1 => Q (xI r2) m1))) else (if p1 = 8 then (Q (xI (μ 7 0)) μ) else (if p1 = 9 then (Q (xI (μ 1 1)) μ) else (Q (xI (-3)) μ))))))))))) : GM (d + 1) 123 [xR 0, xI p1] μ Q :=
  GM_wp (n := 400) (Nat.le_of_ble_eq_true rfl) (Nat.le_of_ble_eq_true rfl) rfl h
set_option maxRecDepth 20000 in
theorem ge_Now_atHome {d : Nat} {μ : Mem} {Q : AV → Mem → Prop} (h : DW d 124 4 [xR 3, xI 0, xI 0] μ Q) : GM d 124 [xR 3] μ Q :=
  GM_wp (n := 400) (Nat.le_of_ble_eq_true rfl) (Nat.le_of_ble_eq_true rfl) rfl h
set_option maxRecDepth 20000 in
theorem sg_Now_atHome_4 {d : Nat} {l1 l2 : Int} {μ : Mem} {Q : AV → Mem → Prop} (h : if l2 < μ 2 1 then (wb l2 6 (if μ 23 l2.toNat = l2 then (DW d 124 4 [xR 3, xI (xior l1 (xshl 1 l2)), xI (iw (l2 + 1))] μ Q) else (DW d 124 4 [xR 3, xI l1, xI (iw (l2 + 1))] μ Q))) else (Q (xI l1) μ)) : DW d 124 4 [xR 3, xI l1, xI l2] μ Q :=
  DW_wp (n := 400) (Nat.le_of_ble_eq_true rfl) h
set_option maxRecDepth 20000 in
theorem ge_Told_arrangements {d : Nat} {μ : Mem} {Q : AV → Mem → Prop} (h : DW d 125 4 [xR 2, xI 1, xI 0, xL 0, xL 0] μ Q) : GM d 125 [xR 2] μ Q :=
  GM_wp (n := 400) (Nat.le_of_ble_eq_true rfl) (Nat.le_of_ble_eq_true rfl) rfl h
set_option maxRecDepth 20000 in
theorem sg_Told_arrangements_4 {d : Nat} {l1 l2 : Int} {v3 v4 : AV} {μ : Mem} {Q : AV → Mem → Prop} (h : if l2 < μ 2 1 then (DW d 125 13 [xR 2, xI l1, xI l2, xI 0, xI 0] μ Q) else (Q (xI l1) μ)) : DW d 125 4 [xR 2, xI l1, xI l2, v3, v4] μ Q :=
  DW_wp (n := 400) (Nat.le_of_ble_eq_true rfl) h
set_option maxRecDepth 20000 in
theorem sg_Told_arrangements_13 {d : Nat} {l1 l2 l3 l4 : Int} {μ : Mem} {Q : AV → Mem → Prop} (h : if l2 < l4 then (DW d 125 29 [xR 2, xI l1, xI l2, xI l3, xI l4] μ Q) else (wb l4 6 (wb l2 6 (if μ 18 l4.toNat = μ 18 l2.toNat then (DW d 125 13 [xR 2, xI l1, xI l2, xI (iw (l3 + 1)), xI (iw (l4 + 1))] μ Q) else (DW d 125 13 [xR 2, xI l1, xI l2, xI l3, xI (iw (l4 + 1))] μ Q))))) : DW d 125 13 [xR 2, xI l1, xI l2, xI l3, xI l4] μ Q :=
  DW_wp (n := 400) (Nat.le_of_ble_eq_true rfl) h
set_option maxRecDepth 20000 in
theorem sg_Told_arrangements_29 {d : Nat} {l1 l2 l3 : Int} {v4 : AV} {μ : Mem} {Q : AV → Mem → Prop} (h : DW d 125 4 [xR 2, xI (iw (l1 * l3)), xI (iw (l2 + 1)), xI l3, v4] μ Q) : DW d 125 29 [xR 2, xI l1, xI l2, xI l3, v4] μ Q :=
  DW_wp (n := 400) (Nat.le_of_ble_eq_true rfl) h
