set_option maxRecDepth 20000 in
theorem ge_M_say {d : Nat} {p1 p2 : Int} {μ : Mem} {Q : AV → Mem → Prop} (h : if p1 < 0 then (Q (xI (-2)) μ) else (if iw ((μ 61 2) - 1) < p1 then (Q (xI (-2)) μ) else (if p2 < 0 then (Q (xI (-3)) μ) else (if 3 < p2 then (Q (xI (-3)) μ) else (wb p1 27 (GM (d + 2) 153 [xR 61, xI (μ 67 p1.toNat), xI p1, xI p2] μ (gI (fun r2 m1 => if r2 = 0 then (wb (iw ((iw (5 * p1)) + 2)) 30 (wb (m1 63 (iw ((iw (5 * p1)) + 2)).toNat) 5 (if m1 62 (m1 63 (iw ((iw (5 * p1)) + 2)).toNat).toNat = 3 then (DW (d + 3) 160 82 [xR 61, xI p1, xI p2, xI (μ 67 p1.toNat), xI r2] m1 Q) else (wb (iw (5 * p1)) 30 (if 0 < m1 63 (iw (5 * p1)).toNat then (wb (iw ((iw (5 * p1)) + 3)) 30 (if m1 63 (iw ((iw (5 * p1)) + 3)).toNat = p2 then (wb (iw ((iw (5 * p1)) + 2)) 30 (DW (d + 3) 160 82 [xR 61, xI p1, xI p2, xI (μ 67 p1.toNat), xI r2] (xset m1 67 26 (xior (m1 67 26) (xshl 1 (m1 63 (iw ((iw (5 * p1)) + 2)).toNat)))) Q)) else (DW (d + 3) 160 82 [xR 61, xI p1, xI p2, xI (μ 67 p1.toNat), xI r2] m1 Q))) else (DW (d + 3) 160 82 [xR 61, xI p1, xI p2, xI (μ 67 p1.toNat), xI r2] m1 Q)))))) else (wb (iw (12 + (μ 67 p1.toNat))) 27 (wb (iw (12 + (μ 67 p1.toNat))) 27 (wb (iw (6 + (μ 67 p1.toNat))) 27 (wb (iw (5 * (μ 67 p1.toNat))) 30 (if m1 63 (iw (5 * (μ 67 p1.toNat))).toNat = 2 then (wb (iw (6 + (μ 67 p1.toNat))) 27 (DW (d + 3) 160 82 [xR 61, xI p1, xI p2, xI (μ 67 p1.toNat), xI r2] (xset (xset m1 67 ((iw (12 + (μ 67 p1.toNat))).toNat) (iw ((m1 67 (iw (12 + (μ 67 p1.toNat))).toNat) + 1))) 67 ((iw (6 + (μ 67 p1.toNat))).toNat) (iw (((xset m1 67 ((iw (12 + (μ 67 p1.toNat))).toNat) (iw ((m1 67 (iw (12 + (μ 67 p1.toNat))).toNat) + 1))) 67 (iw (6 + (μ 67 p1.toNat))).toNat) - 1))) Q)) else (wb (iw (6 + (μ 67 p1.toNat))) 27 (DW (d + 3) 160 82 [xR 61, xI p1, xI p2, xI (μ 67 p1.toNat), xI r2] (xset (xset m1 67 ((iw (12 + (μ 67 p1.toNat))).toNat) (iw ((m1 67 (iw (12 + (μ 67 p1.toNat))).toNat) + 1))) 67 ((iw (6 + (μ 67 p1.toNat))).toNat) (iw (((xset m1 67 ((iw (12 + (μ 67 p1.toNat))).toNat) (iw ((m1 67 (iw (12 + (μ 67 p1.toNat))).toNat) + 1))) 67 (iw (6 + (μ 67 p1.toNat))).toNat) - 0))) Q))))))))))))))) : GM (d + 3) 160 [xR 61, xI p1, xI p2] μ Q :=
  GM_wp (n := 400) (Nat.le_of_ble_eq_true rfl) (Nat.le_of_ble_eq_true rfl) rfl h
set_option maxRecDepth 20000 in
theorem sg_M_say_82 {d : Nat} {l4 : Int} {v0 v1 v2 v3 : AV} {μ : Mem} {Q : AV → Mem → Prop} (h : if l4 = 0 then (Q (xI 0) μ) else (Q (xI 1) μ)) : DW (d + 3) 160 82 [v0, v1, v2, v3, xI l4] μ Q :=
  DW_wp (n := 400) (Nat.le_of_ble_eq_true rfl) h
set_option maxRecDepth 20000 in
theorem ge_M_keep {d : Nat} {p1 : Int} {μ : Mem} {Q : AV → Mem → Prop} (h : if p1 < 0 then (Q (xI (-2)) μ) else (if 1 < p1 then (Q (xI (-2)) μ) else (DW (d + 1) 161 9 [xR 61, xI p1, xI 0] μ Q))) : GM (d + 1) 161 [xR 61, xI p1] μ Q :=
  GM_wp (n := 400) (Nat.le_of_ble_eq_true rfl) (Nat.le_of_ble_eq_true rfl) rfl h
set_option maxRecDepth 20000 in
theorem sg_M_keep_9 {d : Nat} {l1 l2 : Int} {μ : Mem} {Q : AV → Mem → Prop} (h : if l2 < 27 then (wb l2 27 (wb (iw ((iw (27 * l1)) + l2)) 54 (DW (d + 1) 161 9 [xR 61, xI l1, xI (iw (l2 + 1))] (xset μ 68 ((iw ((iw (27 * l1)) + l2)).toNat) (μ 67 l2.toNat)) Q))) else (DW (d + 1) 161 27 [xR 61, xI l1, xI l2] μ Q)) : DW (d + 1) 161 9 [xR 61, xI l1, xI l2] μ Q :=
  DW_wp (n := 400) (Nat.le_of_ble_eq_true rfl) h
set_option maxRecDepth 20000 in
theorem sg_M_keep_27 {d : Nat} {l1 : Int} {v2 : AV} {μ : Mem} {Q : AV → Mem → Prop} (h : wb l1 2 (Q (xI (μ 67 24)) (xset μ 69 l1.toNat 1))) : DW (d + 1) 161 27 [xR 61, xI l1, v2] μ Q :=
  DW_wp (n := 400) (Nat.le_of_ble_eq_true rfl) h
set_option maxRecDepth 20000 in
theorem ge_M_back {d : Nat} {p1 : Int} {μ : Mem} {Q : AV → Mem → Prop} (h : if p1 < 0 then (Q (xI (-2)) μ) else (if 1 < p1 then (Q (xI (-2)) μ) else (wb p1 2 (if μ 69 p1.toNat = 0 then (Q (xI (-4)) μ) else (DW (d + 1) 162 16 [xR 61, xI p1, xI 0] μ Q))))) : GM (d + 1) 162 [xR 61, xI p1] μ Q :=
  GM_wp (n := 400) (Nat.le_of_ble_eq_true rfl) (Nat.le_of_ble_eq_true rfl) rfl h
set_option maxRecDepth 20000 in
theorem sg_M_back_16 {d : Nat} {l1 l2 : Int} {μ : Mem} {Q : AV → Mem → Prop} (h : if l2 < 27 then (wb (iw ((iw (27 * l1)) + l2)) 54 (wb l2 27 (DW (d + 1) 162 16 [xR 61, xI l1, xI (iw (l2 + 1))] (xset μ 67 l2.toNat (μ 68 (iw ((iw (27 * l1)) + l2)).toNat)) Q))) else (DW (d + 1) 162 34 [xR 61, xI l1, xI l2] μ Q)) : DW (d + 1) 162 16 [xR 61, xI l1, xI l2] μ Q :=
  DW_wp (n := 400) (Nat.le_of_ble_eq_true rfl) h
set_option maxRecDepth 20000 in
theorem sg_M_back_34 {d : Nat} {v1 v2 : AV} {μ : Mem} {Q : AV → Mem → Prop} (h : Q (xI (μ 67 24)) μ) : DW (d + 1) 162 34 [xR 61, v1, v2] μ Q :=
  DW_wp (n := 400) (Nat.le_of_ble_eq_true rfl) h
set_option maxRecDepth 20000 in
theorem ge_M_rings {d : Nat} {μ : Mem} {Q : AV → Mem → Prop} (h : DW (d + 1) 163 6 [xR 61, xI 0, xI 0, xI 0, xL 0] μ Q) : GM (d + 1) 163 [xR 61] μ Q :=
  GM_wp (n := 400) (Nat.le_of_ble_eq_true rfl) (Nat.le_of_ble_eq_true rfl) rfl h
set_option maxRecDepth 20000 in
theorem sg_M_rings_6 {d : Nat} {l1 l2 l3 : Int} {v4 : AV} {μ : Mem} {Q : AV → Mem → Prop} (h : if l3 < μ 61 2 then (if xand (xshr l1 l3) 1 = 1 then (DW (d + 1) 163 23 [xR 61, xI l1, xI (iw (l2 + 0)), xI l3, xI l3] μ Q) else (DW (d + 1) 163 23 [xR 61, xI l1, xI (iw (l2 + 1)), xI l3, xI l3] μ Q)) else (Q (xI l2) μ)) : DW (d + 1) 163 6 [xR 61, xI l1, xI l2, xI l3, v4] μ Q :=
  DW_wp (n := 400) (Nat.le_of_ble_eq_true rfl) h
set_option maxRecDepth 20000 in
theorem sg_M_rings_23 {d : Nat} {l1 l2 l3 l4 : Int} {μ : Mem} {Q : AV → Mem → Prop} (h : if xand (xshr l1 l4) 1 = 1 then (DW (d + 1) 163 40 [xR 61, xI l1, xI l2, xI l3, xI l4] μ Q) else (wb l4 27 (DW (d + 1) 163 23 [xR 61, xI (xior l1 (xshl 1 l4)), xI l2, xI l3, xI (μ 67 l4.toNat)] μ Q))) : DW (d + 1) 163 23 [xR 61, xI l1, xI l2, xI l3, xI l4] μ Q :=
  DW_wp (n := 400) (Nat.le_of_ble_eq_true rfl) h
set_option maxRecDepth 20000 in
theorem sg_M_rings_40 {d : Nat} {l1 l2 l3 : Int} {v4 : AV} {μ : Mem} {Q : AV → Mem → Prop} (h : DW (d + 1) 163 6 [xR 61, xI l1, xI l2, xI (iw (l3 + 1)), v4] μ Q) : DW (d + 1) 163 40 [xR 61, xI l1, xI l2, xI l3, v4] μ Q :=
  DW_wp (n := 400) (Nat.le_of_ble_eq_true rfl) h
set_option maxRecDepth 20000 in
theorem ge_M_mend {d : Nat} {p1 p2 : Int} {μ : Mem} {Q : AV → Mem → Prop} (h : if p1 < (-1) then (Q (xI (-3)) μ) else (if p2 < 0 then (Q (xI (-3)) μ) else (if 1 < p2 then (Q (xI (-3)) μ) else (DW (d + 2) 164 12 [xR 61, xI p1, xI p2, xI 0, xL 0, xL 0] μ Q)))) : GM (d + 2) 164 [xR 61, xI p1, xI p2] μ Q :=
  GM_wp (n := 400) (Nat.le_of_ble_eq_true rfl) (Nat.le_of_ble_eq_true rfl) rfl h
set_option maxRecDepth 20000 in
theorem sg_M_mend_12 {d : Nat} {l1 l2 l3 : Int} {v4 v5 : AV} {μ : Mem} {Q : AV → Mem → Prop} (h : if l3 < μ 61 2 then (wb l3 27 (wb l3 6 (wb (iw ((iw (5 * l3)) + 2)) 30 (wb (μ 63 (iw ((iw (5 * l3)) + 2)).toNat) 5 (if μ 62 (μ 63 (iw ((iw (5 * l3)) + 2)).toNat).toNat = 1 then (wb l3 27 (if μ 67 l3.toNat = l3 then (DW (d + 2) 164 12 [xR 61, xI l1, xI l2, xI (iw (l3 + 1)), v4, v5] (xset μ 71 l3.toNat (μ 67 l3.toNat)) Q) else (Q (xI (-1)) (xset μ 71 l3.toNat (μ 67 l3.toNat))))) else (DW (d + 2) 164 12 [xR 61, xI l1, xI l2, xI (iw (l3 + 1)), v4, v5] (xset μ 71 l3.toNat (μ 67 l3.toNat)) Q)))))) else (DW (d + 2) 164 40 [xR 61, xI l1, xI l2, xI l3, v4, v5] μ Q)) : DW (d + 2) 164 12 [xR 61, xI l1, xI l2, xI l3, v4, v5] μ Q :=
  DW_wp (n := 400) (Nat.le_of_ble_eq_true rfl) h
set_option maxRecDepth 20000 in
theorem sg_M_mend_40 {d : Nat} {l1 l2 : Int} {v3 v4 v5 : AV} {μ : Mem} {Q : AV → Mem → Prop} (h : DW (d + 2) 164 45 [xR 61, xI l1, xI l2, xI 0, xI 0, v5] μ Q) : DW (d + 2) 164 40 [xR 61, xI l1, xI l2, v3, v4, v5] μ Q :=
  DW_wp (n := 400) (Nat.le_of_ble_eq_true rfl) h
set_option maxRecDepth 20000 in
theorem sg_M_mend_45 {d : Nat} {l1 l2 l3 l4 : Int} {v5 : AV} {μ : Mem} {Q : AV → Mem → Prop} (h : if l4 < μ 61 2 then (wb l4 6 (if μ 71 l4.toNat = l4 then (DW (d + 2) 164 45 [xR 61, xI l1, xI l2, xI l3, xI (iw (l4 + 1)), v5] μ Q) else (DW (d + 2) 164 60 [xR 61, xI l1, xI l2, xI l3, xI l4, xI (iw (l4 + 1))] μ Q))) else (DW (d + 2) 164 95 [xR 61, xI l1, xI l2, xI l3, xI l4, v5] μ Q)) : DW (d + 2) 164 45 [xR 61, xI l1, xI l2, xI l3, xI l4, v5] μ Q :=
  DW_wp (n := 400) (Nat.le_of_ble_eq_true rfl) h
set_option maxRecDepth 20000 in
theorem sg_M_mend_60 {d : Nat} {l1 l2 l3 l4 l5 : Int} {μ : Mem} {Q : AV → Mem → Prop} (h : wb l5 6 (if μ 71 l5.toNat = l4 then (DW (d + 2) 164 69 [xR 61, xI l1, xI l2, xI l3, xI l4, xI l5] μ Q) else (DW (d + 2) 164 60 [xR 61, xI l1, xI l2, xI l3, xI l4, xI (iw (l5 + 1))] μ Q))) : DW (d + 2) 164 60 [xR 61, xI l1, xI l2, xI l3, xI l4, xI l5] μ Q :=
  DW_wp (n := 400) (Nat.le_of_ble_eq_true rfl) h
set_option maxRecDepth 20000 in
theorem sg_M_mend_69 {d : Nat} {l1 l2 l3 l4 l5 : Int} {μ : Mem} {Q : AV → Mem → Prop} (h : if l3 = l1 then (if l2 = 0 then (Q (xI l4) μ) else (Q (xI l5) μ)) else (wb l4 6 (wb l5 6 (wb l4 6 (DW (d + 2) 164 45 [xR 61, xI l1, xI l2, xI (iw (l3 + 1)), xI (iw (l4 + 1)), xI l5] (xset (xset μ 71 l5.toNat (μ 71 l4.toNat)) 71 l4.toNat l4) Q))))) : DW (d + 2) 164 69 [xR 61, xI l1, xI l2, xI l3, xI l4, xI l5] μ Q :=
  DW_wp (n := 400) (Nat.le_of_ble_eq_true rfl) h
set_option maxRecDepth 20000 in
theorem sg_M_mend_95 {d : Nat} {l1 l3 : Int} {v0 v2 v4 v5 : AV} {μ : Mem} {Q : AV → Mem → Prop} (h : if l1 = (-1) then (Q (xI l3) μ) else (Q (xI (-1)) μ)) : DW (d + 2) 164 95 [v0, xI l1, v2, xI l3, v4, v5] μ Q :=
  DW_wp (n := 400) (Nat.le_of_ble_eq_true rfl) h
set_option maxRecDepth 20000 in
theorem ge_M_show {d : Nat} {p1 : Int} {μ : Mem} {Q : AV → Mem → Prop} (h : if p1 < 0 then (Q (xI (-2)) μ) else (if iw ((μ 61 0) - 1) < p1 then (Q (xI (-2)) μ) else (DW (d + 3) 165 10 [xR 61, xI p1, xI 0, xI 0] μ Q))) : GM (d + 3) 165 [xR 61, xI p1] μ Q :=
  GM_wp (n := 400) (Nat.le_of_ble_eq_true rfl) (Nat.le_of_ble_eq_true rfl) rfl h
set_option maxRecDepth 20000 in
theorem sg_M_show_10 {d : Nat} {l1 l2 l3 : Int} {μ : Mem} {Q : AV → Mem → Prop} (h : if l3 < μ 61 2 then (wb (iw ((iw (5 * l3)) + 2)) 30 (if μ 63 (iw ((iw (5 * l3)) + 2)).toNat = l1 then (wb l3 27 (wb (iw ((iw (5 * l3)) + 3)) 30 (GM (d + 2) 153 [xR 61, xI (μ 67 l3.toNat), xI l3, xI (μ 63 (iw ((iw (5 * l3)) + 3)).toNat)] μ (gI (fun r2 m1 => if r2 = 0 then (DW (d + 3) 165 10 [xR 61, xI l1, xI (iw (l2 + 0)), xI (iw (l3 + 1))] m1 Q) else (DW (d + 3) 165 10 [xR 61, xI l1, xI (iw (l2 + 1)), xI (iw (l3 + 1))] m1 Q)))))) else (DW (d + 3) 165 10 [xR 61, xI l1, xI (iw (l2 + 0)), xI (iw (l3 + 1))] μ Q))) else (Q (xI l2) μ)) : DW (d + 3) 165 10 [xR 61, xI l1, xI l2, xI l3] μ Q :=
  DW_wp (n := 400) (Nat.le_of_ble_eq_true rfl) h
set_option maxRecDepth 20000 in
theorem ge_M_plan {d : Nat} {p1 : Int} {μ : Mem} {Q : AV → Mem → Prop} (h : if p1 < 0 then (Q (xI (-3)) μ) else (if 1 < p1 then (Q (xI (-3)) μ) else (GM (d + 4) 167 [xR 61] μ (gV (fun m1 => GM (d + 4) 174 [xR 61] m1 (gV (fun m2 => GM (d + 4) 173 [xR 61] m2 (gI (fun r4 m3 => wb (iw ((iw (720 * (m2 67 24))) + r4)) 5040 (if p1 = 0 then (Q (xI (xdiv (iw ((m3 73 (iw ((iw (720 * (m2 67 24))) + r4)).toNat) + 99)) 100)) m3) else (Q (xI (iw ((iw (100 * (xdiv (iw ((m3 73 (iw ((iw (720 * (m2 67 24))) + r4)).toNat) + 99)) 100))) - (m3 73 (iw ((iw (720 * (m2 67 24))) + r4)).toNat)))) m3))))))))))) : GM (d + 5) 166 [xR 61, xI p1] μ Q :=
  GM_wp (n := 400) (Nat.le_of_ble_eq_true rfl) (Nat.le_of_ble_eq_true rfl) rfl h
set_option maxRecDepth 20000 in
theorem ge_M_layPlan {d : Nat} {μ : Mem} {Q : AV → Mem → Prop} (h : DW (d + 4) 167 3 [xR 61, xI (μ 61 4), xL 0, xL 0, xL 0, xL 0, xL 0] μ Q) : GM (d + 4) 167 [xR 61] μ Q :=
  GM_wp (n := 400) (Nat.le_of_ble_eq_true rfl) (Nat.le_of_ble_eq_true rfl) rfl h
set_option maxRecDepth 20000 in
theorem sg_M_layPlan_3 {d : Nat} {l1 : Int} {v2 v3 v4 v5 v6 : AV} {μ : Mem} {Q : AV → Mem → Prop} (h : if l1 < μ 67 24 then (Q (xI 0) μ) else (DW (d + 4) 167 12 [xR 61, xI l1, xI 0, v3, v4, v5, v6] μ Q)) : DW (d + 4) 167 3 [xR 61, xI l1, v2, v3, v4, v5, v6] μ Q :=
  DW_wp (n := 400) (Nat.le_of_ble_eq_true rfl) h
set_option maxRecDepth 20000 in
theorem sg_M_layPlan_12 {d : Nat} {l1 l2 : Int} {v3 v4 v5 v6 : AV} {μ : Mem} {Q : AV → Mem → Prop} (h : GM (d + 3) 168 [xR 61] μ (gI (fun r2 m1 => if l2 < r2 then (GM (d + 3) 169 [xR 61, xI l2] m1 (gV (fun m3 => GM (d + 3) 170 [xR 61] m3 (gI (fun r5 m4 => if r5 = 0 then (DW (d + 4) 167 114 [xR 61, xI l1, xI l2, xI (-1000), v4, v5, v6] m4 Q) else (if l1 = m4 61 4 then (DW (d + 4) 167 34 [xR 61, xI l1, xI l2, xI 0, xI 0, v5, v6] m4 Q) else (wb (iw ((iw (720 * (iw (l1 + 1)))) + l2)) 5040 (DW (d + 4) 167 74 [xR 61, xI l1, xI l2, xI (m4 73 (iw ((iw (720 * (iw (l1 + 1)))) + l2)).toNat), xI 0, v5, v6] m4 Q)))))))) else (DW (d + 4) 167 126 [xR 61, xI l1, xI l2, v3, v4, v5, v6] m1 Q)))) : DW (d + 4) 167 12 [xR 61, xI l1, xI l2, v3, v4, v5, v6] μ Q :=
  DW_wp (n := 400) (Nat.le_of_ble_eq_true rfl) h
set_option maxRecDepth 20000 in
theorem sg_M_layPlan_34 {d : Nat} {l1 l2 l3 l4 : Int} {v5 v6 : AV} {μ : Mem} {Q : AV → Mem → Prop} (h : if l4 < μ 61 2 then (wb (iw ((iw (5 * l4)) + 2)) 30 (wb (μ 63 (iw ((iw (5 * l4)) + 2)).toNat) 5 (if μ 62 (μ 63 (iw ((iw (5 * l4)) + 2)).toNat).toNat = 3 then (wb l4 6 (wb (iw (5 * (μ 71 l4.toNat))) 30 (if 0 < μ 63 (iw (5 * (μ 71 l4.toNat))).toNat then (DW (d + 4) 167 34 [xR 61, xI l1, xI l2, xI (iw (l3 + 100)), xI (iw (l4 + 1)), v5, v6] μ Q) else (DW (d + 4) 167 34 [xR 61, xI l1, xI l2, xI (iw (l3 + 0)), xI (iw (l4 + 1)), v5, v6] μ Q)))) else (DW (d + 4) 167 34 [xR 61, xI l1, xI l2, xI (iw (l3 + 0)), xI (iw (l4 + 1)), v5, v6] μ Q)))) else (DW (d + 4) 167 59 [xR 61, xI l1, xI l2, xI l3, xI l4, v5, v6] μ Q)) : DW (d + 4) 167 34 [xR 61, xI l1, xI l2, xI l3, xI l4, v5, v6] μ Q :=
  DW_wp (n := 400) (Nat.le_of_ble_eq_true rfl) h
set_option maxRecDepth 20000 in
theorem sg_M_layPlan_59 {d : Nat} {l1 l2 l3 : Int} {v4 v5 v6 : AV} {μ : Mem} {Q : AV → Mem → Prop} (h : DW (d + 4) 167 114 [xR 61, xI l1, xI l2, xI l3, v4, v5, v6] μ Q) : DW (d + 4) 167 59 [xR 61, xI l1, xI l2, xI l3, v4, v5, v6] μ Q :=
  DW_wp (n := 400) (Nat.le_of_ble_eq_true rfl) h
set_option maxRecDepth 20000 in
theorem sg_M_layPlan_74 {d : Nat} {l1 l2 l3 l4 : Int} {v5 v6 : AV} {μ : Mem} {Q : AV → Mem → Prop} (h : if l4 < μ 61 2 then (DW (d + 4) 167 83 [xR 61, xI l1, xI l2, xI l3, xI l4, xI (iw (l4 + 1)), v6] μ Q) else (DW (d + 4) 167 114 [xR 61, xI l1, xI l2, xI l3, xI l4, v5, v6] μ Q)) : DW (d + 4) 167 74 [xR 61, xI l1, xI l2, xI l3, xI l4, v5, v6] μ Q :=
  DW_wp (n := 400) (Nat.le_of_ble_eq_true rfl) h
set_option maxRecDepth 20000 in
theorem sg_M_layPlan_83 {d : Nat} {l1 l2 l3 l4 l5 : Int} {v6 : AV} {μ : Mem} {Q : AV → Mem → Prop} (h : if l5 < μ 61 2 then (GM (d + 3) 157 [xR 61, xI l1, xI l4, xI l5] μ (gI (fun r2 m1 => if r2 = 0 then (if l3 < (-1000) then (DW (d + 4) 167 83 [xR 61, xI l1, xI l2, xI (-1000), xI l4, xI (iw (l5 + 1)), xI (-1000)] m1 Q) else (DW (d + 4) 167 83 [xR 61, xI l1, xI l2, xI l3, xI l4, xI (iw (l5 + 1)), xI (-1000)] m1 Q)) else (GM (d + 3) 171 [xR 61, xI l1, xI l4, xI l5] m1 (gI (fun r4 m3 => if l3 < r4 then (DW (d + 4) 167 83 [xR 61, xI l1, xI l2, xI r4, xI l4, xI (iw (l5 + 1)), xI r4] m3 Q) else (DW (d + 4) 167 83 [xR 61, xI l1, xI l2, xI l3, xI l4, xI (iw (l5 + 1)), xI r4] m3 Q))))))) else (DW (d + 4) 167 111 [xR 61, xI l1, xI l2, xI l3, xI l4, xI l5, v6] μ Q)) : DW (d + 4) 167 83 [xR 61, xI l1, xI l2, xI l3, xI l4, xI l5, v6] μ Q :=
  DW_wp (n := 400) (Nat.le_of_ble_eq_true rfl) h
set_option maxRecDepth 20000 in
theorem sg_M_layPlan_111 {d : Nat} {l1 l2 l3 l4 : Int} {v5 v6 : AV} {μ : Mem} {Q : AV → Mem → Prop} (h : DW (d + 4) 167 74 [xR 61, xI l1, xI l2, xI l3, xI (iw (l4 + 1)), v5, v6] μ Q) : DW (d + 4) 167 111 [xR 61, xI l1, xI l2, xI l3, xI l4, v5, v6] μ Q :=
  DW_wp (n := 400) (Nat.le_of_ble_eq_true rfl) h
set_option maxRecDepth 20000 in
theorem sg_M_layPlan_114 {d : Nat} {l1 l2 l3 : Int} {v4 v5 v6 : AV} {μ : Mem} {Q : AV → Mem → Prop} (h : wb (iw ((iw (720 * l1)) + l2)) 5040 (DW (d + 4) 167 12 [xR 61, xI l1, xI (iw (l2 + 1)), xI l3, v4, v5, v6] (xset μ 73 ((iw ((iw (720 * l1)) + l2)).toNat) l3) Q)) : DW (d + 4) 167 114 [xR 61, xI l1, xI l2, xI l3, v4, v5, v6] μ Q :=
  DW_wp (n := 400) (Nat.le_of_ble_eq_true rfl) h
set_option maxRecDepth 20000 in
theorem sg_M_layPlan_126 {d : Nat} {l1 : Int} {v2 v3 v4 v5 v6 : AV} {μ : Mem} {Q : AV → Mem → Prop} (h : DW (d + 4) 167 3 [xR 61, xI (iw (l1 + (-1))), v2, v3, v4, v5, v6] μ Q) : DW (d + 4) 167 126 [xR 61, xI l1, v2, v3, v4, v5, v6] μ Q :=
  DW_wp (n := 400) (Nat.le_of_ble_eq_true rfl) h
set_option maxRecDepth 20000 in
theorem ge_M_rowMany {d : Nat} {μ : Mem} {Q : AV → Mem → Prop} (h : DW d 168 4 [xR 61, xI 1, xI 2] μ Q) : GM d 168 [xR 61] μ Q :=
  GM_wp (n := 400) (Nat.le_of_ble_eq_true rfl) (Nat.le_of_ble_eq_true rfl) rfl h
set_option maxRecDepth 20000 in
theorem sg_M_rowMany_4 {d : Nat} {l1 l2 : Int} {μ : Mem} {Q : AV → Mem → Prop} (h : if μ 61 2 < l2 then (Q (xI l1) μ) else (DW d 168 4 [xR 61, xI (iw (l1 * l2)), xI (iw (l2 + 1))] μ Q)) : DW d 168 4 [xR 61, xI l1, xI l2] μ Q :=
  DW_wp (n := 400) (Nat.le_of_ble_eq_true rfl) h
set_option maxRecDepth 20000 in
theorem ge_M_lay {d : Nat} {p1 : Int} {μ : Mem} {Q : AV → Mem → Prop} (h : GM d 168 [xR 61] μ (gI (fun r2 m1 => DW (d + 1) 169 9 [xR 61, xI p1, xI p1, xI 0, xI r2, xI 0, xL 0, xL 0] m1 Q))) : GM (d + 1) 169 [xR 61, xI p1] μ Q :=
  GM_wp (n := 400) (Nat.le_of_ble_eq_true rfl) (Nat.le_of_ble_eq_true rfl) rfl h
set_option maxRecDepth 20000 in
theorem sg_M_lay_9 {d : Nat} {l2 l3 l4 l5 : Int} {v1 v6 v7 : AV} {μ : Mem} {Q : AV → Mem → Prop} (h : if l5 < μ 61 2 then (wz (iw ((μ 61 2) - l5)) (wz (xdiv l4 (iw ((μ 61 2) - l5))) (wz (xdiv l4 (iw ((μ 61 2) - l5))) (DW (d + 1) 169 31 [xR 61, v1, xI (xrem l2 (xdiv l4 (iw ((μ 61 2) - l5)))), xI l3, xI (xdiv l4 (iw ((μ 61 2) - l5))), xI l5, xI (xdiv l2 (xdiv l4 (iw ((μ 61 2) - l5)))), xI 0] μ Q)))) else (Q (xI 0) μ)) : DW (d + 1) 169 9 [xR 61, v1, xI l2, xI l3, xI l4, xI l5, v6, v7] μ Q :=
  DW_wp (n := 400) (Nat.le_of_ble_eq_true rfl) h
set_option maxRecDepth 20000 in
theorem sg_M_lay_31 {d : Nat} {l2 l3 l4 l5 l6 l7 : Int} {v1 : AV} {μ : Mem} {Q : AV → Mem → Prop} (h : if xand (xshr l3 l7) 1 = 1 then (if xand (xshr l3 l7) 1 = 1 then (DW (d + 1) 169 31 [xR 61, v1, xI l2, xI l3, xI l4, xI l5, xI (iw (l6 - 0)), xI (iw (l7 + 1))] μ Q) else (DW (d + 1) 169 31 [xR 61, v1, xI l2, xI l3, xI l4, xI l5, xI (iw (l6 - 1)), xI (iw (l7 + 1))] μ Q)) else (if 0 < l6 then (if xand (xshr l3 l7) 1 = 1 then (DW (d + 1) 169 31 [xR 61, v1, xI l2, xI l3, xI l4, xI l5, xI (iw (l6 - 0)), xI (iw (l7 + 1))] μ Q) else (DW (d + 1) 169 31 [xR 61, v1, xI l2, xI l3, xI l4, xI l5, xI (iw (l6 - 1)), xI (iw (l7 + 1))] μ Q)) else (DW (d + 1) 169 50 [xR 61, v1, xI l2, xI l3, xI l4, xI l5, xI l6, xI l7] μ Q))) : DW (d + 1) 169 31 [xR 61, v1, xI l2, xI l3, xI l4, xI l5, xI l6, xI l7] μ Q :=
  DW_wp (n := 400) (Nat.le_of_ble_eq_true rfl) h
set_option maxRecDepth 20000 in
theorem sg_M_lay_50 {d : Nat} {l2 l3 l4 l5 l7 : Int} {v1 v6 : AV} {μ : Mem} {Q : AV → Mem → Prop} (h : wb l5 6 (DW (d + 1) 169 9 [xR 61, v1, xI l2, xI (xior l3 (xshl 1 l7)), xI l4, xI (iw (l5 + 1)), v6, xI l7] (xset μ 71 l5.toNat l7) Q)) : DW (d + 1) 169 50 [xR 61, v1, xI l2, xI l3, xI l4, xI l5, v6, xI l7] μ Q :=
  DW_wp (n := 400) (Nat.le_of_ble_eq_true rfl) h
set_option maxRecDepth 20000 in
theorem ge_M_isLawful {d : Nat} {μ : Mem} {Q : AV → Mem → Prop} (h : DW (d + 1) 170 4 [xR 61, xI 1, xI 0] μ Q) : GM (d + 1) 170 [xR 61] μ Q :=
  GM_wp (n := 400) (Nat.le_of_ble_eq_true rfl) (Nat.le_of_ble_eq_true rfl) rfl h
set_option maxRecDepth 20000 in
theorem sg_M_isLawful_4 {d : Nat} {l1 l2 : Int} {μ : Mem} {Q : AV → Mem → Prop} (h : if l2 < μ 61 2 then (if l1 = 0 then (DW (d + 1) 170 4 [xR 61, xI 0, xI (iw (l2 + 1))] μ Q) else (wb (iw ((iw (5 * l2)) + 1)) 30 (wb l2 6 (wb (iw ((iw (5 * (μ 71 l2.toNat))) + 1)) 30 (if μ 63 (iw ((iw (5 * l2)) + 1)).toNat = μ 63 (iw ((iw (5 * (μ 71 l2.toNat))) + 1)).toNat then (DW (d + 1) 170 4 [xR 61, xI 1, xI (iw (l2 + 1))] μ Q) else (DW (d + 1) 170 4 [xR 61, xI 0, xI (iw (l2 + 1))] μ Q)))))) else (wb l1 2 (Q (xI l1) μ))) : DW (d + 1) 170 4 [xR 61, xI l1, xI l2] μ Q :=
  DW_wp (n := 400) (Nat.le_of_ble_eq_true rfl) h
set_option maxRecDepth 20000 in
theorem ge_M_by {d : Nat} {p1 p2 p3 : Int} {μ : Mem} {Q : AV → Mem → Prop} (h : wb p2 6 (wb p3 6 (wb p2 6 (wb p3 6 (GM (d + 1) 173 [xR 61] (xset (xset μ 71 p2.toNat (μ 71 p3.toNat)) 71 p3.toNat (μ 71 p2.toNat)) (gI (fun r2 m1 => wb (iw ((iw (720 * (iw (p1 + 1)))) + r2)) 5040 (wb p2 6 (wb p3 6 (wb p2 6 (wb p3 6 (Q (xI (iw ((m1 73 (iw ((iw (720 * (iw (p1 + 1)))) + r2)).toNat) - 1))) (xset (xset m1 71 p2.toNat (m1 71 p3.toNat)) 71 p3.toNat (m1 71 p2.toNat)))))))))))))) : GM (d + 2) 171 [xR 61, xI p1, xI p2, xI p3] μ Q :=
  GM_wp (n := 400) (Nat.le_of_ble_eq_true rfl) (Nat.le_of_ble_eq_true rfl) rfl h
set_option maxRecDepth 20000 in
theorem ge_M_rowOf {d : Nat} {μ : Mem} {Q : AV → Mem → Prop} (h : DW (d + 1) 173 6 [xR 61, xI 0, xI 0, xI 0, xL 0, xL 0] μ Q) : GM (d + 1) 173 [xR 61] μ Q :=
  GM_wp (n := 400) (Nat.le_of_ble_eq_true rfl) (Nat.le_of_ble_eq_true rfl) rfl h
set_option maxRecDepth 20000 in
theorem sg_M_rowOf_6 {d : Nat} {l1 l2 l3 : Int} {v4 v5 : AV} {μ : Mem} {Q : AV → Mem → Prop} (h : if l3 < μ 61 2 then (DW (d + 1) 173 15 [xR 61, xI l1, xI l2, xI l3, xI 0, xI 0] μ Q) else (Q (xI l1) μ)) : DW (d + 1) 173 6 [xR 61, xI l1, xI l2, xI l3, v4, v5] μ Q :=
  DW_wp (n := 400) (Nat.le_of_ble_eq_true rfl) h
set_option maxRecDepth 20000 in
theorem sg_M_rowOf_15 {d : Nat} {l1 l2 l3 l4 l5 : Int} {μ : Mem} {Q : AV → Mem → Prop} (h : wb l3 6 (if l5 < μ 71 l3.toNat then (if xand (xshr l2 l5) 1 = 1 then (DW (d + 1) 173 15 [xR 61, xI l1, xI l2, xI l3, xI (iw (l4 + 0)), xI (iw (l5 + 1))] μ Q) else (DW (d + 1) 173 15 [xR 61, xI l1, xI l2, xI l3, xI (iw (l4 + 1)), xI (iw (l5 + 1))] μ Q)) else (DW (d + 1) 173 34 [xR 61, xI l1, xI l2, xI l3, xI l4, xI l5] μ Q))) : DW (d + 1) 173 15 [xR 61, xI l1, xI l2, xI l3, xI l4, xI l5] μ Q :=
  DW_wp (n := 400) (Nat.le_of_ble_eq_true rfl) h
set_option maxRecDepth 20000 in
theorem sg_M_rowOf_34 {d : Nat} {l1 l2 l3 l4 : Int} {v5 : AV} {μ : Mem} {Q : AV → Mem → Prop} (h : wb l3 6 (DW (d + 1) 173 6 [xR 61, xI (iw ((iw (l1 * (iw ((μ 61 2) - l3)))) + l4)), xI (xior l2 (xshl 1 (μ 71 l3.toNat))), xI (iw (l3 + 1)), xI l4, v5] μ Q)) : DW (d + 1) 173 34 [xR 61, xI l1, xI l2, xI l3, xI l4, v5] μ Q :=
  DW_wp (n := 400) (Nat.le_of_ble_eq_true rfl) h
set_option maxRecDepth 20000 in
theorem ge_M_layNow {d : Nat} {μ : Mem} {Q : AV → Mem → Prop} (h : DW d 174 2 [xR 61, xI 0] μ Q) : GM d 174 [xR 61] μ Q :=
  GM_wp (n := 400) (Nat.le_of_ble_eq_true rfl) (Nat.le_of_ble_eq_true rfl) rfl h
set_option maxRecDepth 20000 in
theorem sg_M_layNow_2 {d : Nat} {l1 : Int} {μ : Mem} {Q : AV → Mem → Prop} (h : if l1 < μ 61 2 then (wb l1 27 (wb l1 6 (DW d 174 2 [xR 61, xI (iw (l1 + 1))] (xset μ 71 l1.toNat (μ 67 l1.toNat)) Q))) else (Q (xI 0) μ)) : DW d 174 2 [xR 61, xI l1] μ Q :=
  DW_wp (n := 400) (Nat.le_of_ble_eq_true rfl) h
set_option maxRecDepth 20000 in
theorem ge_M_planned {d : Nat} {p1 p2 : Int} {μ : Mem} {Q : AV → Mem → Prop} (h : if p1 < μ 67 24 then (Q (xI (-2)) μ) else (if iw ((μ 61 4) - 1) < p1 then (Q (xI (-2)) μ) else (if p2 < 0 then (Q (xI (-3)) μ) else (if 1 < p2 then (Q (xI (-3)) μ) else (GM (d + 4) 167 [xR 61] μ (gV (fun m1 => GM (d + 4) 174 [xR 61] m1 (gV (fun m2 => DW (d + 5) 175 33 [xR 61, xI p1, xI p2, xI (-1), xI (-1), xI (m2 67 24), xL 0, xL 0, xL 0, xL 0] m2 Q))))))))) : GM (d + 5) 175 [xR 61, xI p1, xI p2] μ Q :=
  GM_wp (n := 400) (Nat.le_of_ble_eq_true rfl) (Nat.le_of_ble_eq_true rfl) rfl h
set_option maxRecDepth 20000 in
theorem sg_M_planned_33 {d : Nat} {l1 l2 l3 l4 l5 : Int} {v6 v7 v8 v9 : AV} {μ : Mem} {Q : AV → Mem → Prop} (h : if l1 < l5 then (DW (d + 5) 175 122 [xR 61, xI l1, xI l2, xI l3, xI l4, xI l5, v6, v7, v8, v9] μ Q) else (GM (d + 4) 173 [xR 61] μ (gI (fun r2 m1 => wb (iw ((iw (720 * l5)) + r2)) 5040 (GM (d + 4) 173 [xR 61] m1 (gI (fun r4 m3 => wb (iw ((iw (720 * (iw (l5 + 1)))) + r4)) 5040 (if m3 73 (iw ((iw (720 * (iw (l5 + 1)))) + r4)).toNat = m1 73 (iw ((iw (720 * l5)) + r2)).toNat then (DW (d + 5) 175 70 [xR 61, xI l1, xI l2, xI (-1), xI (-1), xI l5, xI (m1 73 (iw ((iw (720 * l5)) + r2)).toNat), xI 1, xI 0, v9] m3 Q) else (DW (d + 5) 175 70 [xR 61, xI l1, xI l2, xI (-1), xI (-1), xI l5, xI (m1 73 (iw ((iw (720 * l5)) + r2)).toNat), xI 0, xI 0, v9] m3 Q))))))))) : DW (d + 5) 175 33 [xR 61, xI l1, xI l2, xI l3, xI l4, xI l5, v6, v7, v8, v9] μ Q :=
  DW_wp (n := 400) (Nat.le_of_ble_eq_true rfl) h
set_option maxRecDepth 20000 in
theorem sg_M_planned_70 {d : Nat} {l1 l2 l3 l4 l5 l6 l7 l8 : Int} {v9 : AV} {μ : Mem} {Q : AV → Mem → Prop} (h : if l8 < μ 61 2 then (if l7 = 0 then (DW (d + 5) 175 81 [xR 61, xI l1, xI l2, xI l3, xI l4, xI l5, xI l6, xI l7, xI l8, xI (iw (l8 + 1))] μ Q) else (DW (d + 5) 175 112 [xR 61, xI l1, xI l2, xI l3, xI l4, xI l5, xI l6, xI l7, xI l8, v9] μ Q)) else (DW (d + 5) 175 112 [xR 61, xI l1, xI l2, xI l3, xI l4, xI l5, xI l6, xI l7, xI l8, v9] μ Q)) : DW (d + 5) 175 70 [xR 61, xI l1, xI l2, xI l3, xI l4, xI l5, xI l6, xI l7, xI l8, v9] μ Q :=
  DW_wp (n := 400) (Nat.le_of_ble_eq_true rfl) h
set_option maxRecDepth 20000 in
theorem sg_M_planned_81 {d : Nat} {l1 l2 l3 l4 l5 l6 l7 l8 l9 : Int} {μ : Mem} {Q : AV → Mem → Prop} (h : if l9 < μ 61 2 then (if l7 = 0 then (GM (d + 4) 157 [xR 61, xI l5, xI l8, xI l9] μ (gI (fun r2 m1 => if r2 = 0 then (DW (d + 5) 175 81 [xR 61, xI l1, xI l2, xI l3, xI l4, xI l5, xI l6, xI l7, xI l8, xI (iw (l9 + 1))] m1 Q) else (GM (d + 4) 171 [xR 61, xI l5, xI l8, xI l9] m1 (gI (fun r4 m3 => if r4 = l6 then (DW (d + 5) 175 81 [xR 61, xI l1, xI l2, xI l8, xI l9, xI l5, xI l6, xI 1, xI l8, xI (iw (l9 + 1))] m3 Q) else (DW (d + 5) 175 81 [xR 61, xI l1, xI l2, xI l3, xI l4, xI l5, xI l6, xI l7, xI l8, xI (iw (l9 + 1))] m3 Q))))))) else (DW (d + 5) 175 109 [xR 61, xI l1, xI l2, xI l3, xI l4, xI l5, xI l6, xI l7, xI l8, xI l9] μ Q)) else (DW (d + 5) 175 109 [xR 61, xI l1, xI l2, xI l3, xI l4, xI l5, xI l6, xI l7, xI l8, xI l9] μ Q)) : DW (d + 5) 175 81 [xR 61, xI l1, xI l2, xI l3, xI l4, xI l5, xI l6, xI l7, xI l8, xI l9] μ Q :=
  DW_wp (n := 400) (Nat.le_of_ble_eq_true rfl) h
set_option maxRecDepth 20000 in
theorem sg_M_planned_109 {d : Nat} {l1 l2 l3 l4 l5 l6 l7 l8 : Int} {v9 : AV} {μ : Mem} {Q : AV → Mem → Prop} (h : DW (d + 5) 175 70 [xR 61, xI l1, xI l2, xI l3, xI l4, xI l5, xI l6, xI l7, xI (iw (l8 + 1)), v9] μ Q) : DW (d + 5) 175 109 [xR 61, xI l1, xI l2, xI l3, xI l4, xI l5, xI l6, xI l7, xI l8, v9] μ Q :=
  DW_wp (n := 400) (Nat.le_of_ble_eq_true rfl) h
set_option maxRecDepth 20000 in
theorem sg_M_planned_112 {d : Nat} {l1 l2 l3 l4 l5 : Int} {v6 v7 v8 v9 : AV} {μ : Mem} {Q : AV → Mem → Prop} (h : if l3 = (-1) then (DW (d + 5) 175 33 [xR 61, xI l1, xI l2, xI l3, xI l4, xI (iw (l5 + 1)), v6, v7, v8, v9] μ Q) else (wb l3 6 (wb l4 6 (wb l3 6 (wb l4 6 (DW (d + 5) 175 33 [xR 61, xI l1, xI l2, xI l3, xI l4, xI (iw (l5 + 1)), v6, v7, v8, v9] (xset (xset μ 71 l3.toNat (μ 71 l4.toNat)) 71 l4.toNat (μ 71 l3.toNat)) Q)))))) : DW (d + 5) 175 112 [xR 61, xI l1, xI l2, xI l3, xI l4, xI l5, v6, v7, v8, v9] μ Q :=
  DW_wp (n := 400) (Nat.le_of_ble_eq_true rfl) h
set_option maxRecDepth 20000 in
theorem sg_M_planned_122 {d : Nat} {l2 l3 l4 : Int} {v0 v1 v5 v6 v7 v8 v9 : AV} {μ : Mem} {Q : AV → Mem → Prop} (h : if l2 = 0 then (Q (xI l3) μ) else (Q (xI l4) μ)) : DW (d + 5) 175 122 [v0, v1, xI l2, xI l3, xI l4, v5, v6, v7, v8, v9] μ Q :=
  DW_wp (n := 400) (Nat.le_of_ble_eq_true rfl) h
set_option maxRecDepth 20000 in
theorem ge_M_seen {d : Nat} {p1 p2 p3 : Int} {μ : Mem} {Q : AV → Mem → Prop} (h : if p1 < 0 then (Q (xI (-2)) μ) else (if iw ((μ 61 2) - 1) < p1 then (Q (xI (-2)) μ) else (if p2 < 0 then (Q (xI (-3)) μ) else (if 3 < p2 then (Q (xI (-3)) μ) else (if p3 < 0 then (Q (xI (-3)) μ) else (if 1 < p3 then (Q (xI (-3)) μ) else (if μ 61 22 = 10 then (Q (xI (-5)) μ) else (wb (iw (3 * (μ 61 22))) 30 (wb (iw ((iw (3 * (μ 61 22))) + 1)) 30 (wb (iw ((iw (3 * (μ 61 22))) + 2)) 30 (Q (xI (iw ((μ 61 22) + 1))) (xset (xset (xset (xset μ 70 ((iw (3 * (μ 61 22))).toNat) p1) 70 ((iw ((iw (3 * (μ 61 22))) + 1)).toNat) p2) 70 ((iw ((iw (3 * (μ 61 22))) + 2)).toNat) p3) 61 22 (iw ((μ 61 22) + 1)))))))))))))) : GM (d + 2) 176 [xR 61, xI p1, xI p2, xI p3] μ Q :=
  GM_wp (n := 400) (Nat.le_of_ble_eq_true rfl) (Nat.le_of_ble_eq_true rfl) rfl h
set_option maxRecDepth 20000 in
theorem ge_M_forget {d : Nat} {μ : Mem} {Q : AV → Mem → Prop} (h : Q (xI (μ 61 22)) (xset μ 61 22 0)) : GM d 177 [xR 61] μ Q :=
  GM_wp (n := 400) (Nat.le_of_ble_eq_true rfl) (Nat.le_of_ble_eq_true rfl) rfl h
set_option maxRecDepth 20000 in
theorem ge_M_fit {d : Nat} {μ : Mem} {Q : AV → Mem → Prop} (h : GM (d + 4) 179 [xR 61] μ (gV (fun m1 => Q (xI (m1 61 26)) m1))) : GM (d + 5) 178 [xR 61] μ Q :=
  GM_wp (n := 400) (Nat.le_of_ble_eq_true rfl) (Nat.le_of_ble_eq_true rfl) rfl h
set_option maxRecDepth 20000 in
theorem ge_M_layFitting {d : Nat} {μ : Mem} {Q : AV → Mem → Prop} (h : DW (d + 4) 179 5 [xR 61, xI 0] (xset μ 61 26 0) Q) : GM (d + 4) 179 [xR 61] μ Q :=
  GM_wp (n := 400) (Nat.le_of_ble_eq_true rfl) (Nat.le_of_ble_eq_true rfl) rfl h
set_option maxRecDepth 20000 in
theorem sg_M_layFitting_5 {d : Nat} {l1 : Int} {μ : Mem} {Q : AV → Mem → Prop} (h : GM (d + 3) 168 [xR 61] μ (gI (fun r2 m1 => if l1 < r2 then (GM (d + 3) 169 [xR 61, xI l1] m1 (gV (fun m3 => GM (d + 3) 170 [xR 61] m3 (gI (fun r5 m4 => if r5 = 0 then (DW (d + 4) 179 5 [xR 61, xI (iw (l1 + 1))] m4 Q) else (GM (d + 3) 180 [xR 61] m4 (gI (fun r7 m6 => if r7 = 0 then (DW (d + 4) 179 5 [xR 61, xI (iw (l1 + 1))] m6 Q) else (wb (m6 61 26) 720 (DW (d + 4) 179 5 [xR 61, xI (iw (l1 + 1))] (xset (xset m6 72 ((m6 61 26).toNat) l1) 61 26 (iw ((m6 61 26) + 1))) Q)))))))))) else (Q (xI 0) m1)))) : DW (d + 4) 179 5 [xR 61, xI l1] μ Q :=
  DW_wp (n := 400) (Nat.le_of_ble_eq_true rfl) h
set_option maxRecDepth 20000 in
theorem ge_M_isAsSeen {d : Nat} {μ : Mem} {Q : AV → Mem → Prop} (h : DW (d + 3) 180 4 [xR 61, xI 1, xI 0, xL 0] μ Q) : GM (d + 3) 180 [xR 61] μ Q :=
  GM_wp (n := 400) (Nat.le_of_ble_eq_true rfl) (Nat.le_of_ble_eq_true rfl) rfl h
set_option maxRecDepth 20000 in
theorem sg_M_isAsSeen_4 {d : Nat} {l1 l2 : Int} {v3 : AV} {μ : Mem} {Q : AV → Mem → Prop} (h : if l2 < μ 61 22 then (wb (iw (3 * l2)) 30 (if l1 = 0 then (DW (d + 3) 180 4 [xR 61, xI 0, xI (iw (l2 + 1)), xI (μ 70 (iw (3 * l2)).toNat)] μ Q) else (wb (μ 70 (iw (3 * l2)).toNat) 6 (wb (iw ((iw (3 * l2)) + 1)) 30 (GM (d + 2) 153 [xR 61, xI (μ 71 (μ 70 (iw (3 * l2)).toNat).toNat), xI (μ 70 (iw (3 * l2)).toNat), xI (μ 70 (iw ((iw (3 * l2)) + 1)).toNat)] μ (gI (fun r2 m1 => wb (iw ((iw (3 * l2)) + 2)) 30 (if m1 70 (iw ((iw (3 * l2)) + 2)).toNat = 1 then (if r2 = 1 then (DW (d + 3) 180 4 [xR 61, xI 1, xI (iw (l2 + 1)), xI (μ 70 (iw (3 * l2)).toNat)] m1 Q) else (DW (d + 3) 180 4 [xR 61, xI 0, xI (iw (l2 + 1)), xI (μ 70 (iw (3 * l2)).toNat)] m1 Q)) else (if r2 = 0 then (DW (d + 3) 180 4 [xR 61, xI 1, xI (iw (l2 + 1)), xI (μ 70 (iw (3 * l2)).toNat)] m1 Q) else (DW (d + 3) 180 4 [xR 61, xI 0, xI (iw (l2 + 1)), xI (μ 70 (iw (3 * l2)).toNat)] m1 Q)))))))))) else (wb l1 2 (Q (xI l1) μ))) : DW (d + 3) 180 4 [xR 61, xI l1, xI l2, v3] μ Q :=
  DW_wp (n := 400) (Nat.le_of_ble_eq_true rfl) h
set_option maxRecDepth 20000 in
theorem ge_M_lies {d : Nat} {p1 : Int} {μ : Mem} {Q : AV → Mem → Prop} (h : if p1 < 0 then (Q (xI (-2)) μ) else (if iw ((μ 61 2) - 1) < p1 then (Q (xI (-2)) μ) else (GM (d + 4) 179 [xR 61] μ (gV (fun m1 => GM (d + 4) 182 [xR 61, xI p1] m1 (gI (fun r3 m2 => Q (xI r3) m2))))))) : GM (d + 5) 181 [xR 61, xI p1] μ Q :=
  GM_wp (n := 400) (Nat.le_of_ble_eq_true rfl) (Nat.le_of_ble_eq_true rfl) rfl h
set_option maxRecDepth 20000 in
theorem ge_M_liesIn {d : Nat} {p1 : Int} {μ : Mem} {Q : AV → Mem → Prop} (h : DW (d + 2) 182 4 [xR 61, xI p1, xI 0, xI 0] μ Q) : GM (d + 2) 182 [xR 61, xI p1] μ Q :=
  GM_wp (n := 400) (Nat.le_of_ble_eq_true rfl) (Nat.le_of_ble_eq_true rfl) rfl h
set_option maxRecDepth 20000 in
theorem sg_M_liesIn_4 {d : Nat} {l1 l2 l3 : Int} {μ : Mem} {Q : AV → Mem → Prop} (h : if l3 < μ 61 26 then (wb l3 720 (GM (d + 1) 169 [xR 61, xI (μ 72 l3.toNat)] μ (gV (fun m1 => wb l1 6 (DW (d + 2) 182 4 [xR 61, xI l1, xI (xior l2 (xshl 1 (m1 71 l1.toNat))), xI (iw (l3 + 1))] m1 Q))))) else (Q (xI l2) μ)) : DW (d + 2) 182 4 [xR 61, xI l1, xI l2, xI l3] μ Q :=
  DW_wp (n := 400) (Nat.le_of_ble_eq_true rfl) h
set_option maxRecDepth 20000 in
theorem ge_M_sure {d : Nat} {μ : Mem} {Q : AV → Mem → Prop} (h : GM (d + 4) 179 [xR 61] μ (gV (fun m1 => DW (d + 5) 183 6 [xR 61, xI 0, xI 0, xL 0] m1 Q))) : GM (d + 5) 183 [xR 61] μ Q :=
  GM_wp (n := 400) (Nat.le_of_ble_eq_true rfl) (Nat.le_of_ble_eq_true rfl) rfl h
set_option maxRecDepth 20000 in
theorem sg_M_sure_6 {d : Nat} {l1 l2 : Int} {v3 : AV} {μ : Mem} {Q : AV → Mem → Prop} (h : if l2 < μ 61 2 then (GM (d + 4) 182 [xR 61, xI l2] μ (gI (fun r2 m1 => if r2 = 0 then (DW (d + 5) 183 6 [xR 61, xI (xior l1 0), xI (iw (l2 + 1)), xI r2] m1 Q) else (if xand r2 (iw (r2 - 1)) = 0 then (DW (d + 5) 183 6 [xR 61, xI (xior l1 (xshl 1 l2)), xI (iw (l2 + 1)), xI r2] m1 Q) else (DW (d + 5) 183 6 [xR 61, xI (xior l1 0), xI (iw (l2 + 1)), xI r2] m1 Q))))) else (Q (xI l1) μ)) : DW (d + 5) 183 6 [xR 61, xI l1, xI l2, v3] μ Q :=
  DW_wp (n := 400) (Nat.le_of_ble_eq_true rfl) h
set_option maxRecDepth 20000 in
theorem ge_M_odds {d : Nat} {p1 p2 : Int} {μ : Mem} {Q : AV → Mem → Prop} (h : if p1 < 0 then (Q (xI (-2)) μ) else (if iw ((μ 61 2) - 1) < p1 then (Q (xI (-2)) μ) else (if p2 < 0 then (Q (xI (-3)) μ) else (if 1 < p2 then (Q (xI (-3)) μ) else (GM (d + 4) 179 [xR 61] μ (gV (fun m1 => if m1 61 26 = 0 then (Q (xI (-4)) m1) else (DW (d + 5) 184 24 [xR 61, xI p1, xI p2, xI 0, xI 0, xL 0, xL 0] m1 Q)))))))) : GM (d + 5) 184 [xR 61, xI p1, xI p2] μ Q :=
  GM_wp (n := 400) (Nat.le_of_ble_eq_true rfl) (Nat.le_of_ble_eq_true rfl) rfl h
set_option maxRecDepth 20000 in
theorem sg_M_odds_24 {d : Nat} {l1 l2 l3 l4 : Int} {v5 v6 : AV} {μ : Mem} {Q : AV → Mem → Prop} (h : if l4 < μ 61 26 then (wb l4 720 (GM (d + 4) 169 [xR 61, xI (μ 72 l4.toNat)] μ (gV (fun m1 => wb l1 6 (wb (iw (5 * (m1 71 l1.toNat))) 30 (if 0 < m1 63 (iw (5 * (m1 71 l1.toNat))).toNat then (DW (d + 5) 184 24 [xR 61, xI l1, xI l2, xI (iw (l3 + 1)), xI (iw (l4 + 1)), v5, v6] m1 Q) else (DW (d + 5) 184 24 [xR 61, xI l1, xI l2, xI (iw (l3 + 0)), xI (iw (l4 + 1)), v5, v6] m1 Q))))))) else (DW (d + 5) 184 50 [xR 61, xI l1, xI l2, xI l3, xI l4, v5, v6] μ Q)) : DW (d + 5) 184 24 [xR 61, xI l1, xI l2, xI l3, xI l4, v5, v6] μ Q :=
  DW_wp (n := 400) (Nat.le_of_ble_eq_true rfl) h
set_option maxRecDepth 20000 in
theorem sg_M_odds_50 {d : Nat} {l2 l3 : Int} {v1 v4 v5 v6 : AV} {μ : Mem} {Q : AV → Mem → Prop} (h : DW (d + 5) 184 56 [xR 61, v1, xI l2, xI l3, xI l3, xI (μ 61 26), v6] μ Q) : DW (d + 5) 184 50 [xR 61, v1, xI l2, xI l3, v4, v5, v6] μ Q :=
  DW_wp (n := 400) (Nat.le_of_ble_eq_true rfl) h
set_option maxRecDepth 20000 in
theorem sg_M_odds_56 {d : Nat} {l2 l3 l4 l5 : Int} {v1 v6 : AV} {μ : Mem} {Q : AV → Mem → Prop} (h : if 0 < l5 then (wz l5 (DW (d + 5) 184 56 [xR 61, v1, xI l2, xI l3, xI l5, xI (xrem l4 l5), xI (xrem l4 l5)] μ Q)) else (DW (d + 5) 184 68 [xR 61, v1, xI l2, xI l3, xI l4, xI l5, v6] μ Q)) : DW (d + 5) 184 56 [xR 61, v1, xI l2, xI l3, xI l4, xI l5, v6] μ Q :=
  DW_wp (n := 400) (Nat.le_of_ble_eq_true rfl) h
set_option maxRecDepth 20000 in
theorem sg_M_odds_68 {d : Nat} {l2 l3 l4 : Int} {v1 v5 v6 : AV} {μ : Mem} {Q : AV → Mem → Prop} (h : if l2 = 0 then (wz l4 (Q (xI (xdiv l3 l4)) μ)) else (wz l4 (Q (xI (xdiv (μ 61 26) l4)) μ))) : DW (d + 5) 184 68 [xR 61, v1, xI l2, xI l3, xI l4, v5, v6] μ Q :=
  DW_wp (n := 400) (Nat.le_of_ble_eq_true rfl) h
set_option maxRecDepth 20000 in
theorem ge_M_next {d : Nat} {p1 : Int} {μ : Mem} {Q : AV → Mem → Prop} (h : if p1 < 0 then (Q (xI (-3)) μ) else (if 2 < p1 then (Q (xI (-3)) μ) else (GM (d + 4) 179 [xR 61] μ (gV (fun m1 => DW (d + 5) 185 15 [xR 61, xI p1, xI (-1), xI (-1), xI 0, xL 0, xL 0, xL 0] m1 Q))))) : GM (d + 5) 185 [xR 61, xI p1] μ Q :=
  GM_wp (n := 400) (Nat.le_of_ble_eq_true rfl) (Nat.le_of_ble_eq_true rfl) rfl h
set_option maxRecDepth 20000 in
theorem sg_M_next_15 {d : Nat} {l1 l2 l3 l4 : Int} {v5 v6 v7 : AV} {μ : Mem} {Q : AV → Mem → Prop} (h : if l4 < iw (4 * (μ 61 2)) then (if 0 < μ 61 26 then (DW (d + 5) 185 29 [xR 61, xI l1, xI l2, xI l3, xI l4, xI 0, xI 0, v7] μ Q) else (DW (d + 5) 185 101 [xR 61, xI l1, xI l2, xI l3, xI l4, v5, v6, v7] μ Q)) else (DW (d + 5) 185 101 [xR 61, xI l1, xI l2, xI l3, xI l4, v5, v6, v7] μ Q)) : DW (d + 5) 185 15 [xR 61, xI l1, xI l2, xI l3, xI l4, v5, v6, v7] μ Q :=
  DW_wp (n := 400) (Nat.le_of_ble_eq_true rfl) h
set_option maxRecDepth 20000 in
theorem sg_M_next_29 {d : Nat} {l1 l2 l3 l4 l5 l6 : Int} {v7 : AV} {μ : Mem} {Q : AV → Mem → Prop} (h : if l6 < μ 61 26 then (wb l6 720 (GM (d + 4) 169 [xR 61, xI (μ 72 l6.toNat)] μ (gV (fun m1 => wb (xdiv l4 4) 6 (GM (d + 4) 153 [xR 61, xI (m1 71 (xdiv l4 4).toNat), xI (xdiv l4 4), xI (xrem l4 4)] m1 (gI (fun r3 m2 => if r3 = 0 then (DW (d + 5) 185 29 [xR 61, xI l1, xI l2, xI l3, xI l4, xI (iw (l5 + 0)), xI (iw (l6 + 1)), v7] m2 Q) else (DW (d + 5) 185 29 [xR 61, xI l1, xI l2, xI l3, xI l4, xI (iw (l5 + 1)), xI (iw (l6 + 1)), v7] m2 Q)))))))) else (DW (d + 5) 185 63 [xR 61, xI l1, xI l2, xI l3, xI l4, xI l5, xI l6, v7] μ Q)) : DW (d + 5) 185 29 [xR 61, xI l1, xI l2, xI l3, xI l4, xI l5, xI l6, v7] μ Q :=
  DW_wp (n := 400) (Nat.le_of_ble_eq_true rfl) h
set_option maxRecDepth 20000 in
theorem sg_M_next_63 {d : Nat} {l1 l2 l3 l4 l5 : Int} {v6 v7 : AV} {μ : Mem} {Q : AV → Mem → Prop} (h : if iw ((μ 61 26) - l5) < l5 then (if l2 = (-1) then (DW (d + 5) 185 15 [xR 61, xI l1, xI l4, xI l5, xI (iw (l4 + 1)), xI l5, xI l5, xI 1] μ Q) else (if l5 < l3 then (DW (d + 5) 185 15 [xR 61, xI l1, xI l4, xI l5, xI (iw (l4 + 1)), xI l5, xI l5, xI 1] μ Q) else (DW (d + 5) 185 15 [xR 61, xI l1, xI l2, xI l3, xI (iw (l4 + 1)), xI l5, xI l5, xI 0] μ Q))) else (if l2 = (-1) then (DW (d + 5) 185 15 [xR 61, xI l1, xI l4, xI (iw ((μ 61 26) - l5)), xI (iw (l4 + 1)), xI l5, xI (iw ((μ 61 26) - l5)), xI 1] μ Q) else (if iw ((μ 61 26) - l5) < l3 then (DW (d + 5) 185 15 [xR 61, xI l1, xI l4, xI (iw ((μ 61 26) - l5)), xI (iw (l4 + 1)), xI l5, xI (iw ((μ 61 26) - l5)), xI 1] μ Q) else (DW (d + 5) 185 15 [xR 61, xI l1, xI l2, xI l3, xI (iw (l4 + 1)), xI l5, xI (iw ((μ 61 26) - l5)), xI 0] μ Q)))) : DW (d + 5) 185 63 [xR 61, xI l1, xI l2, xI l3, xI l4, xI l5, v6, v7] μ Q :=
  DW_wp (n := 400) (Nat.le_of_ble_eq_true rfl) h
set_option maxRecDepth 20000 in
theorem sg_M_next_101 {d : Nat} {l1 l2 l3 : Int} {v0 v4 v5 v6 v7 : AV} {μ : Mem} {Q : AV → Mem → Prop} (h : if l2 = (-1) then (Q (xI l3) μ) else (if l1 = 2 then (Q (xI l3) μ) else (if l1 = 0 then (Q (xI (xdiv l2 4)) μ) else (Q (xI (xrem l2 4)) μ)))) : DW (d + 5) 185 101 [v0, xI l1, xI l2, xI l3, v4, v5, v6, v7] μ Q :=
  DW_wp (n := 400) (Nat.le_of_ble_eq_true rfl) h
set_option maxRecDepth 20000 in
theorem ge_M_apart {d : Nat} {p1 : Int} {μ : Mem} {Q : AV → Mem → Prop} (h : if p1 < (-1) then (Q (xI (-3)) μ) else (GM (d + 5) 187 [xR 61] μ (gV (fun m1 => DW (d + 6) 186 13 [xR 61, xI p1, xI 0, xI (-1), xI 1, xL 0, xL 0] m1 Q)))) : GM (d + 6) 186 [xR 61, xI p1] μ Q :=
  GM_wp (n := 400) (Nat.le_of_ble_eq_true rfl) (Nat.le_of_ble_eq_true rfl) rfl h
set_option maxRecDepth 20000 in
theorem sg_M_apart_13 {d : Nat} {l1 l2 l3 l4 : Int} {v5 v6 : AV} {μ : Mem} {Q : AV → Mem → Prop} (h : if l2 < 5 then (if l3 = (-1) then (if l4 < μ 61 26 then (DW (d + 6) 186 13 [xR 61, xI l1, xI (iw (l2 + 1)), xI (-1), xI (iw (l4 * 2)), v5, v6] μ Q) else (GM (d + 5) 188 [xR 61, xI l2] μ (gI (fun r2 m1 => DW (d + 6) 186 13 [xR 61, xI l1, xI (iw (l2 + 1)), xI r2, xI (iw (l4 * 2)), v5, v6] m1 Q)))) else (DW (d + 6) 186 36 [xR 61, xI l1, xI l2, xI l3, xI l4, v5, v6] μ Q)) else (DW (d + 6) 186 36 [xR 61, xI l1, xI l2, xI l3, xI l4, v5, v6] μ Q)) : DW (d + 6) 186 13 [xR 61, xI l1, xI l2, xI l3, xI l4, v5, v6] μ Q :=
  DW_wp (n := 400) (Nat.le_of_ble_eq_true rfl) h
set_option maxRecDepth 20000 in
theorem sg_M_apart_36 {d : Nat} {l1 l2 l3 : Int} {v4 v5 v6 : AV} {μ : Mem} {Q : AV → Mem → Prop} (h : if l3 = (-1) then (Q (xI (-1)) μ) else (if l1 = (-1) then (Q (xI (iw (l2 - 1))) μ) else (DW (d + 6) 186 53 [xR 61, xI l1, xI l2, xI l3, v4, xI l1, xI 0] μ Q))) : DW (d + 6) 186 36 [xR 61, xI l1, xI l2, xI l3, v4, v5, v6] μ Q :=
  DW_wp (n := 400) (Nat.le_of_ble_eq_true rfl) h
set_option maxRecDepth 20000 in
theorem sg_M_apart_53 {d : Nat} {l3 l5 l6 : Int} {v1 v2 v4 : AV} {μ : Mem} {Q : AV → Mem → Prop} (h : if l6 < iw (4 * (μ 61 2)) then (if xand (xshr l3 l6) 1 = 1 then (if l5 = 0 then (Q (xI l6) μ) else (DW (d + 6) 186 53 [xR 61, v1, v2, xI l3, v4, xI (iw (l5 + (-1))), xI (iw (l6 + 1))] μ Q)) else (DW (d + 6) 186 53 [xR 61, v1, v2, xI l3, v4, xI l5, xI (iw (l6 + 1))] μ Q)) else (Q (xI (-1)) μ)) : DW (d + 6) 186 53 [xR 61, v1, v2, xI l3, v4, xI l5, xI l6] μ Q :=
  DW_wp (n := 400) (Nat.le_of_ble_eq_true rfl) h
set_option maxRecDepth 20000 in
theorem ge_M_layAnswers {d : Nat} {μ : Mem} {Q : AV → Mem → Prop} (h : GM (d + 4) 179 [xR 61] μ (gV (fun m1 => DW (d + 5) 187 4 [xR 61, xI 0, xL 0] m1 Q))) : GM (d + 5) 187 [xR 61] μ Q :=
  GM_wp (n := 400) (Nat.le_of_ble_eq_true rfl) (Nat.le_of_ble_eq_true rfl) rfl h
set_option maxRecDepth 20000 in
theorem sg_M_layAnswers_4 {d : Nat} {l1 : Int} {v2 : AV} {μ : Mem} {Q : AV → Mem → Prop} (h : if l1 < μ 61 26 then (wb l1 720 (GM (d + 4) 169 [xR 61, xI (μ 72 l1.toNat)] μ (gV (fun m1 => wb l1 720 (DW (d + 5) 187 22 [xR 61, xI l1, xI 0] (xset m1 74 l1.toNat 0) Q))))) else (Q (xI 0) μ)) : DW (d + 5) 187 4 [xR 61, xI l1, v2] μ Q :=
  DW_wp (n := 400) (Nat.le_of_ble_eq_true rfl) h
set_option maxRecDepth 20000 in
theorem sg_M_layAnswers_22 {d : Nat} {l1 l2 : Int} {μ : Mem} {Q : AV → Mem → Prop} (h : if l2 < iw (4 * (μ 61 2)) then (wb l1 720 (wb (xdiv l2 4) 6 (GM (d + 4) 153 [xR 61, xI (μ 71 (xdiv l2 4).toNat), xI (xdiv l2 4), xI (xrem l2 4)] μ (gI (fun r2 m1 => if r2 = 0 then (wb l1 720 (DW (d + 5) 187 22 [xR 61, xI l1, xI (iw (l2 + 1))] (xset m1 74 l1.toNat (xior (μ 74 l1.toNat) 0)) Q)) else (wb l1 720 (DW (d + 5) 187 22 [xR 61, xI l1, xI (iw (l2 + 1))] (xset m1 74 l1.toNat (xior (μ 74 l1.toNat) (xshl 1 l2))) Q))))))) else (DW (d + 5) 187 60 [xR 61, xI l1, xI l2] μ Q)) : DW (d + 5) 187 22 [xR 61, xI l1, xI l2] μ Q :=
  DW_wp (n := 400) (Nat.le_of_ble_eq_true rfl) h
set_option maxRecDepth 20000 in
theorem sg_M_layAnswers_60 {d : Nat} {l1 : Int} {v2 : AV} {μ : Mem} {Q : AV → Mem → Prop} (h : DW (d + 5) 187 4 [xR 61, xI (iw (l1 + 1)), v2] μ Q) : DW (d + 5) 187 60 [xR 61, xI l1, v2] μ Q :=
  DW_wp (n := 400) (Nat.le_of_ble_eq_true rfl) h
set_option maxRecDepth 20000 in
theorem ge_M_leastOf_61_n0 {d : Nat} {μ : Mem} {Q : AV → Mem → Prop} (h : DW (d + 1) 188 13 [xR 61, xI 0, xI (iw (4 * (μ 61 2))), xI 1, xI 0, xL 0, xL 0, xL 0, xL 0] μ Q) : GM (d + 1) 188 [xR 61, xI 0] μ Q :=
  GM_wp (n := 400) (Nat.le_of_ble_eq_true rfl) (Nat.le_of_ble_eq_true rfl) rfl h
set_option maxRecDepth 20000 in
theorem sg_M_leastOf_61_n0_13 {d : Nat} {l2 l3 l4 : Int} {v5 v6 v7 v8 : AV} {μ : Mem} {Q : AV → Mem → Prop} (h : if l4 < l3 then (DW (d + 1) 188 26 [xR 61, xI 0, xI l2, xI l3, xI l4, xI 0, v6, v7, v8] μ Q) else (Q (xI (-1)) μ)) : DW (d + 1) 188 13 [xR 61, xI 0, xI l2, xI l3, xI l4, v5, v6, v7, v8] μ Q :=
  DW_wp (n := 400) (Nat.le_of_ble_eq_true rfl) h
set_option maxRecDepth 20000 in
theorem sg_M_leastOf_61_n0_26 {d : Nat} {l2 l3 l4 l5 : Int} {v6 v7 v8 : AV} {μ : Mem} {Q : AV → Mem → Prop} (h : if l5 < 1 then (DW (d + 1) 188 44 [xR 61, xI 0, xI l2, xI l3, xI l4, xI l5, xI 0, v7, v8] μ Q) else (DW (d + 1) 188 120 [xR 61, xI 0, xI l2, xI l3, xI l4, xI l5, v6, v7, v8] μ Q)) : DW (d + 1) 188 26 [xR 61, xI 0, xI l2, xI l3, xI l4, xI l5, v6, v7, v8] μ Q :=
  DW_wp (n := 400) (Nat.le_of_ble_eq_true rfl) h
set_option maxRecDepth 20000 in
theorem sg_M_leastOf_61_n0_44 {d : Nat} {l2 l3 l4 l5 l6 : Int} {v7 v8 : AV} {μ : Mem} {Q : AV → Mem → Prop} (h : if l6 < 1 then (DW (d + 1) 188 62 [xR 61, xI 0, xI l2, xI l3, xI l4, xI l5, xI l6, xI 0, v8] μ Q) else (DW (d + 1) 188 117 [xR 61, xI 0, xI l2, xI l3, xI l4, xI l5, xI l6, v7, v8] μ Q)) : DW (d + 1) 188 44 [xR 61, xI 0, xI l2, xI l3, xI l4, xI l5, xI l6, v7, v8] μ Q :=
  DW_wp (n := 400) (Nat.le_of_ble_eq_true rfl) h
set_option maxRecDepth 20000 in
theorem sg_M_leastOf_61_n0_62 {d : Nat} {l2 l3 l4 l5 l6 l7 : Int} {v8 : AV} {μ : Mem} {Q : AV → Mem → Prop} (h : if l7 < 1 then (GM d 189 [xR 61, xI 0] μ (gI (fun r2 m1 => if r2 = 0 then (DW (d + 1) 188 62 [xR 61, xI 0, xI l2, xI l3, xI l4, xI l5, xI l6, xI (iw (l7 + 1)), xI 0] m1 Q) else (Q (xI 0) m1)))) else (DW (d + 1) 188 114 [xR 61, xI 0, xI l2, xI l3, xI l4, xI l5, xI l6, xI l7, v8] μ Q)) : DW (d + 1) 188 62 [xR 61, xI 0, xI l2, xI l3, xI l4, xI l5, xI l6, xI l7, v8] μ Q :=
  DW_wp (n := 400) (Nat.le_of_ble_eq_true rfl) h
set_option maxRecDepth 20000 in
theorem sg_M_leastOf_61_n0_114 {d : Nat} {l2 l3 l4 l5 l6 : Int} {v7 v8 : AV} {μ : Mem} {Q : AV → Mem → Prop} (h : DW (d + 1) 188 44 [xR 61, xI 0, xI l2, xI l3, xI l4, xI l5, xI (iw (l6 + 1)), v7, v8] μ Q) : DW (d + 1) 188 114 [xR 61, xI 0, xI l2, xI l3, xI l4, xI l5, xI l6, v7, v8] μ Q :=
  DW_wp (n := 400) (Nat.le_of_ble_eq_true rfl) h
set_option maxRecDepth 20000 in
theorem sg_M_leastOf_61_n0_117 {d : Nat} {l2 l3 l4 l5 : Int} {v6 v7 v8 : AV} {μ : Mem} {Q : AV → Mem → Prop} (h : DW (d + 1) 188 26 [xR 61, xI 0, xI l2, xI l3, xI l4, xI (iw (l5 + 1)), v6, v7, v8] μ Q) : DW (d + 1) 188 117 [xR 61, xI 0, xI l2, xI l3, xI l4, xI l5, v6, v7, v8] μ Q :=
  DW_wp (n := 400) (Nat.le_of_ble_eq_true rfl) h
set_option maxRecDepth 20000 in
theorem sg_M_leastOf_61_n0_120 {d : Nat} {l2 l3 l4 : Int} {v5 v6 v7 v8 : AV} {μ : Mem} {Q : AV → Mem → Prop} (h : DW (d + 1) 188 13 [xR 61, xI 0, xI l2, xI l3, xI (iw (l4 + 1)), v5, v6, v7, v8] μ Q) : DW (d + 1) 188 120 [xR 61, xI 0, xI l2, xI l3, xI l4, v5, v6, v7, v8] μ Q :=
  DW_wp (n := 400) (Nat.le_of_ble_eq_true rfl) h
set_option maxRecDepth 20000 in
theorem ge_M_leastOf_61_n1 {d : Nat} {μ : Mem} {Q : AV → Mem → Prop} (h : DW (d + 1) 188 13 [xR 61, xI 1, xI (iw (4 * (μ 61 2))), xI (iw (4 * (μ 61 2))), xI 0, xL 0, xL 0, xL 0, xL 0] μ Q) : GM (d + 1) 188 [xR 61, xI 1] μ Q :=
  GM_wp (n := 400) (Nat.le_of_ble_eq_true rfl) (Nat.le_of_ble_eq_true rfl) rfl h
set_option maxRecDepth 20000 in
theorem sg_M_leastOf_61_n1_13 {d : Nat} {l2 l3 l4 : Int} {v5 v6 v7 v8 : AV} {μ : Mem} {Q : AV → Mem → Prop} (h : if l4 < l3 then (DW (d + 1) 188 26 [xR 61, xI 1, xI l2, xI l3, xI l4, xI 0, v6, v7, v8] μ Q) else (Q (xI (-1)) μ)) : DW (d + 1) 188 13 [xR 61, xI 1, xI l2, xI l3, xI l4, v5, v6, v7, v8] μ Q :=
  DW_wp (n := 400) (Nat.le_of_ble_eq_true rfl) h
set_option maxRecDepth 20000 in
theorem sg_M_leastOf_61_n1_26 {d : Nat} {l2 l3 l4 l5 : Int} {v6 v7 v8 : AV} {μ : Mem} {Q : AV → Mem → Prop} (h : if l5 < 1 then (DW (d + 1) 188 44 [xR 61, xI 1, xI l2, xI l3, xI l4, xI l5, xI 0, v7, v8] μ Q) else (DW (d + 1) 188 120 [xR 61, xI 1, xI l2, xI l3, xI l4, xI l5, v6, v7, v8] μ Q)) : DW (d + 1) 188 26 [xR 61, xI 1, xI l2, xI l3, xI l4, xI l5, v6, v7, v8] μ Q :=
  DW_wp (n := 400) (Nat.le_of_ble_eq_true rfl) h
set_option maxRecDepth 20000 in
theorem sg_M_leastOf_61_n1_44 {d : Nat} {l2 l3 l4 l5 l6 : Int} {v7 v8 : AV} {μ : Mem} {Q : AV → Mem → Prop} (h : if l6 < 1 then (DW (d + 1) 188 62 [xR 61, xI 1, xI l2, xI l3, xI l4, xI l5, xI l6, xI 0, v8] μ Q) else (DW (d + 1) 188 117 [xR 61, xI 1, xI l2, xI l3, xI l4, xI l5, xI l6, v7, v8] μ Q)) : DW (d + 1) 188 44 [xR 61, xI 1, xI l2, xI l3, xI l4, xI l5, xI l6, v7, v8] μ Q :=
  DW_wp (n := 400) (Nat.le_of_ble_eq_true rfl) h
set_option maxRecDepth 20000 in
theorem sg_M_leastOf_61_n1_62 {d : Nat} {l2 l3 l4 l5 l6 l7 : Int} {v8 : AV} {μ : Mem} {Q : AV → Mem → Prop} (h : if l7 < 1 then (GM d 189 [xR 61, xI (xior (xior (xior (xshl 1 l4) 0) 0) 0)] μ (gI (fun r2 m1 => if r2 = 0 then (DW (d + 1) 188 62 [xR 61, xI 1, xI l2, xI l3, xI l4, xI l5, xI l6, xI (iw (l7 + 1)), xI (xior (xior (xior (xshl 1 l4) 0) 0) 0)] m1 Q) else (Q (xI (xior (xior (xior (xshl 1 l4) 0) 0) 0)) m1)))) else (DW (d + 1) 188 114 [xR 61, xI 1, xI l2, xI l3, xI l4, xI l5, xI l6, xI l7, v8] μ Q)) : DW (d + 1) 188 62 [xR 61, xI 1, xI l2, xI l3, xI l4, xI l5, xI l6, xI l7, v8] μ Q :=
  DW_wp (n := 400) (Nat.le_of_ble_eq_true rfl) h
set_option maxRecDepth 20000 in
theorem sg_M_leastOf_61_n1_114 {d : Nat} {l2 l3 l4 l5 l6 : Int} {v7 v8 : AV} {μ : Mem} {Q : AV → Mem → Prop} (h : DW (d + 1) 188 44 [xR 61, xI 1, xI l2, xI l3, xI l4, xI l5, xI (iw (l6 + 1)), v7, v8] μ Q) : DW (d + 1) 188 114 [xR 61, xI 1, xI l2, xI l3, xI l4, xI l5, xI l6, v7, v8] μ Q :=
  DW_wp (n := 400) (Nat.le_of_ble_eq_true rfl) h
set_option maxRecDepth 20000 in
theorem sg_M_leastOf_61_n1_117 {d : Nat} {l2 l3 l4 l5 : Int} {v6 v7 v8 : AV} {μ : Mem} {Q : AV → Mem → Prop} (h : DW (d + 1) 188 26 [xR 61, xI 1, xI l2, xI l3, xI l4, xI (iw (l5 + 1)), v6, v7, v8] μ Q) : DW (d + 1) 188 117 [xR 61, xI 1, xI l2, xI l3, xI l4, xI l5, v6, v7, v8] μ Q :=
  DW_wp (n := 400) (Nat.le_of_ble_eq_true rfl) h
set_option maxRecDepth 20000 in
theorem sg_M_leastOf_61_n1_120 {d : Nat} {l2 l3 l4 : Int} {v5 v6 v7 v8 : AV} {μ : Mem} {Q : AV → Mem → Prop} (h : DW (d + 1) 188 13 [xR 61, xI 1, xI l2, xI l3, xI (iw (l4 + 1)), v5, v6, v7, v8] μ Q) : DW (d + 1) 188 120 [xR 61, xI 1, xI l2, xI l3, xI l4, v5, v6, v7, v8] μ Q :=
  DW_wp (n := 400) (Nat.le_of_ble_eq_true rfl) h
set_option maxRecDepth 20000 in
theorem ge_M_leastOf_61_n2 {d : Nat} {μ : Mem} {Q : AV → Mem → Prop} (h : DW (d + 1) 188 13 [xR 61, xI 2, xI (iw (4 * (μ 61 2))), xI (iw (4 * (μ 61 2))), xI 0, xL 0, xL 0, xL 0, xL 0] μ Q) : GM (d + 1) 188 [xR 61, xI 2] μ Q :=
  GM_wp (n := 400) (Nat.le_of_ble_eq_true rfl) (Nat.le_of_ble_eq_true rfl) rfl h
set_option maxRecDepth 20000 in
theorem sg_M_leastOf_61_n2_13 {d : Nat} {l2 l3 l4 : Int} {v5 v6 v7 v8 : AV} {μ : Mem} {Q : AV → Mem → Prop} (h : if l4 < l3 then (DW (d + 1) 188 26 [xR 61, xI 2, xI l2, xI l3, xI l4, xI (iw (l4 + 1)), v6, v7, v8] μ Q) else (Q (xI (-1)) μ)) : DW (d + 1) 188 13 [xR 61, xI 2, xI l2, xI l3, xI l4, v5, v6, v7, v8] μ Q :=
  DW_wp (n := 400) (Nat.le_of_ble_eq_true rfl) h
set_option maxRecDepth 20000 in
theorem sg_M_leastOf_61_n2_26 {d : Nat} {l2 l3 l4 l5 : Int} {v6 v7 v8 : AV} {μ : Mem} {Q : AV → Mem → Prop} (h : if l5 < l2 then (DW (d + 1) 188 44 [xR 61, xI 2, xI l2, xI l3, xI l4, xI l5, xI 0, v7, v8] μ Q) else (DW (d + 1) 188 120 [xR 61, xI 2, xI l2, xI l3, xI l4, xI l5, v6, v7, v8] μ Q)) : DW (d + 1) 188 26 [xR 61, xI 2, xI l2, xI l3, xI l4, xI l5, v6, v7, v8] μ Q :=
  DW_wp (n := 400) (Nat.le_of_ble_eq_true rfl) h
set_option maxRecDepth 20000 in
theorem sg_M_leastOf_61_n2_44 {d : Nat} {l2 l3 l4 l5 l6 : Int} {v7 v8 : AV} {μ : Mem} {Q : AV → Mem → Prop} (h : if l6 < 1 then (DW (d + 1) 188 62 [xR 61, xI 2, xI l2, xI l3, xI l4, xI l5, xI l6, xI 0, v8] μ Q) else (DW (d + 1) 188 117 [xR 61, xI 2, xI l2, xI l3, xI l4, xI l5, xI l6, v7, v8] μ Q)) : DW (d + 1) 188 44 [xR 61, xI 2, xI l2, xI l3, xI l4, xI l5, xI l6, v7, v8] μ Q :=
  DW_wp (n := 400) (Nat.le_of_ble_eq_true rfl) h
set_option maxRecDepth 20000 in
theorem sg_M_leastOf_61_n2_62 {d : Nat} {l2 l3 l4 l5 l6 l7 : Int} {v8 : AV} {μ : Mem} {Q : AV → Mem → Prop} (h : if l7 < 1 then (GM d 189 [xR 61, xI (xior (xior (xior (xshl 1 l4) (xshl 1 l5)) 0) 0)] μ (gI (fun r2 m1 => if r2 = 0 then (DW (d + 1) 188 62 [xR 61, xI 2, xI l2, xI l3, xI l4, xI l5, xI l6, xI (iw (l7 + 1)), xI (xior (xior (xior (xshl 1 l4) (xshl 1 l5)) 0) 0)] m1 Q) else (Q (xI (xior (xior (xior (xshl 1 l4) (xshl 1 l5)) 0) 0)) m1)))) else (DW (d + 1) 188 114 [xR 61, xI 2, xI l2, xI l3, xI l4, xI l5, xI l6, xI l7, v8] μ Q)) : DW (d + 1) 188 62 [xR 61, xI 2, xI l2, xI l3, xI l4, xI l5, xI l6, xI l7, v8] μ Q :=
  DW_wp (n := 400) (Nat.le_of_ble_eq_true rfl) h
set_option maxRecDepth 20000 in
theorem sg_M_leastOf_61_n2_114 {d : Nat} {l2 l3 l4 l5 l6 : Int} {v7 v8 : AV} {μ : Mem} {Q : AV → Mem → Prop} (h : DW (d + 1) 188 44 [xR 61, xI 2, xI l2, xI l3, xI l4, xI l5, xI (iw (l6 + 1)), v7, v8] μ Q) : DW (d + 1) 188 114 [xR 61, xI 2, xI l2, xI l3, xI l4, xI l5, xI l6, v7, v8] μ Q :=
  DW_wp (n := 400) (Nat.le_of_ble_eq_true rfl) h
set_option maxRecDepth 20000 in
theorem sg_M_leastOf_61_n2_117 {d : Nat} {l2 l3 l4 l5 : Int} {v6 v7 v8 : AV} {μ : Mem} {Q : AV → Mem → Prop} (h : DW (d + 1) 188 26 [xR 61, xI 2, xI l2, xI l3, xI l4, xI (iw (l5 + 1)), v6, v7, v8] μ Q) : DW (d + 1) 188 117 [xR 61, xI 2, xI l2, xI l3, xI l4, xI l5, v6, v7, v8] μ Q :=
  DW_wp (n := 400) (Nat.le_of_ble_eq_true rfl) h
set_option maxRecDepth 20000 in
theorem sg_M_leastOf_61_n2_120 {d : Nat} {l2 l3 l4 : Int} {v5 v6 v7 v8 : AV} {μ : Mem} {Q : AV → Mem → Prop} (h : DW (d + 1) 188 13 [xR 61, xI 2, xI l2, xI l3, xI (iw (l4 + 1)), v5, v6, v7, v8] μ Q) : DW (d + 1) 188 120 [xR 61, xI 2, xI l2, xI l3, xI l4, v5, v6, v7, v8] μ Q :=
  DW_wp (n := 400) (Nat.le_of_ble_eq_true rfl) h
set_option maxRecDepth 20000 in
theorem ge_M_leastOf_61_n3 {d : Nat} {μ : Mem} {Q : AV → Mem → Prop} (h : DW (d + 1) 188 13 [xR 61, xI 3, xI (iw (4 * (μ 61 2))), xI (iw (4 * (μ 61 2))), xI 0, xL 0, xL 0, xL 0, xL 0] μ Q) : GM (d + 1) 188 [xR 61, xI 3] μ Q :=
  GM_wp (n := 400) (Nat.le_of_ble_eq_true rfl) (Nat.le_of_ble_eq_true rfl) rfl h
set_option maxRecDepth 20000 in
theorem sg_M_leastOf_61_n3_13 {d : Nat} {l2 l3 l4 : Int} {v5 v6 v7 v8 : AV} {μ : Mem} {Q : AV → Mem → Prop} (h : if l4 < l3 then (DW (d + 1) 188 26 [xR 61, xI 3, xI l2, xI l3, xI l4, xI (iw (l4 + 1)), v6, v7, v8] μ Q) else (Q (xI (-1)) μ)) : DW (d + 1) 188 13 [xR 61, xI 3, xI l2, xI l3, xI l4, v5, v6, v7, v8] μ Q :=
  DW_wp (n := 400) (Nat.le_of_ble_eq_true rfl) h
set_option maxRecDepth 20000 in
theorem sg_M_leastOf_61_n3_26 {d : Nat} {l2 l3 l4 l5 : Int} {v6 v7 v8 : AV} {μ : Mem} {Q : AV → Mem → Prop} (h : if l5 < l2 then (DW (d + 1) 188 44 [xR 61, xI 3, xI l2, xI l3, xI l4, xI l5, xI (iw (l5 + 1)), v7, v8] μ Q) else (DW (d + 1) 188 120 [xR 61, xI 3, xI l2, xI l3, xI l4, xI l5, v6, v7, v8] μ Q)) : DW (d + 1) 188 26 [xR 61, xI 3, xI l2, xI l3, xI l4, xI l5, v6, v7, v8] μ Q :=
  DW_wp (n := 400) (Nat.le_of_ble_eq_true rfl) h
set_option maxRecDepth 20000 in
theorem sg_M_leastOf_61_n3_44 {d : Nat} {l2 l3 l4 l5 l6 : Int} {v7 v8 : AV} {μ : Mem} {Q : AV → Mem → Prop} (h : if l6 < l2 then (DW (d + 1) 188 62 [xR 61, xI 3, xI l2, xI l3, xI l4, xI l5, xI l6, xI 0, v8] μ Q) else (DW (d + 1) 188 117 [xR 61, xI 3, xI l2, xI l3, xI l4, xI l5, xI l6, v7, v8] μ Q)) : DW (d + 1) 188 44 [xR 61, xI 3, xI l2, xI l3, xI l4, xI l5, xI l6, v7, v8] μ Q :=
  DW_wp (n := 400) (Nat.le_of_ble_eq_true rfl) h
set_option maxRecDepth 20000 in
theorem sg_M_leastOf_61_n3_62 {d : Nat} {l2 l3 l4 l5 l6 l7 : Int} {v8 : AV} {μ : Mem} {Q : AV → Mem → Prop} (h : if l7 < 1 then (GM d 189 [xR 61, xI (xior (xior (xior (xshl 1 l4) (xshl 1 l5)) (xshl 1 l6)) 0)] μ (gI (fun r2 m1 => if r2 = 0 then (DW (d + 1) 188 62 [xR 61, xI 3, xI l2, xI l3, xI l4, xI l5, xI l6, xI (iw (l7 + 1)), xI (xior (xior (xior (xshl 1 l4) (xshl 1 l5)) (xshl 1 l6)) 0)] m1 Q) else (Q (xI (xior (xior (xior (xshl 1 l4) (xshl 1 l5)) (xshl 1 l6)) 0)) m1)))) else (DW (d + 1) 188 114 [xR 61, xI 3, xI l2, xI l3, xI l4, xI l5, xI l6, xI l7, v8] μ Q)) : DW (d + 1) 188 62 [xR 61, xI 3, xI l2, xI l3, xI l4, xI l5, xI l6, xI l7, v8] μ Q :=
  DW_wp (n := 400) (Nat.le_of_ble_eq_true rfl) h
set_option maxRecDepth 20000 in
theorem sg_M_leastOf_61_n3_114 {d : Nat} {l2 l3 l4 l5 l6 : Int} {v7 v8 : AV} {μ : Mem} {Q : AV → Mem → Prop} (h : DW (d + 1) 188 44 [xR 61, xI 3, xI l2, xI l3, xI l4, xI l5, xI (iw (l6 + 1)), v7, v8] μ Q) : DW (d + 1) 188 114 [xR 61, xI 3, xI l2, xI l3, xI l4, xI l5, xI l6, v7, v8] μ Q :=
  DW_wp (n := 400) (Nat.le_of_ble_eq_true rfl) h
set_option maxRecDepth 20000 in
theorem sg_M_leastOf_61_n3_117 {d : Nat} {l2 l3 l4 l5 : Int} {v6 v7 v8 : AV} {μ : Mem} {Q : AV → Mem → Prop} (h : DW (d + 1) 188 26 [xR 61, xI 3, xI l2, xI l3, xI l4, xI (iw (l5 + 1)), v6, v7, v8] μ Q) : DW (d + 1) 188 117 [xR 61, xI 3, xI l2, xI l3, xI l4, xI l5, v6, v7, v8] μ Q :=
  DW_wp (n := 400) (Nat.le_of_ble_eq_true rfl) h
set_option maxRecDepth 20000 in
theorem sg_M_leastOf_61_n3_120 {d : Nat} {l2 l3 l4 : Int} {v5 v6 v7 v8 : AV} {μ : Mem} {Q : AV → Mem → Prop} (h : DW (d + 1) 188 13 [xR 61, xI 3, xI l2, xI l3, xI (iw (l4 + 1)), v5, v6, v7, v8] μ Q) : DW (d + 1) 188 120 [xR 61, xI 3, xI l2, xI l3, xI l4, v5, v6, v7, v8] μ Q :=
  DW_wp (n := 400) (Nat.le_of_ble_eq_true rfl) h
set_option maxRecDepth 20000 in
theorem ge_M_leastOf_61_n4 {d : Nat} {μ : Mem} {Q : AV → Mem → Prop} (h : DW (d + 1) 188 13 [xR 61, xI 4, xI (iw (4 * (μ 61 2))), xI (iw (4 * (μ 61 2))), xI 0, xL 0, xL 0, xL 0, xL 0] μ Q) : GM (d + 1) 188 [xR 61, xI 4] μ Q :=
  GM_wp (n := 400) (Nat.le_of_ble_eq_true rfl) (Nat.le_of_ble_eq_true rfl) rfl h
set_option maxRecDepth 20000 in
theorem sg_M_leastOf_61_n4_13 {d : Nat} {l2 l3 l4 : Int} {v5 v6 v7 v8 : AV} {μ : Mem} {Q : AV → Mem → Prop} (h : if l4 < l3 then (DW (d + 1) 188 26 [xR 61, xI 4, xI l2, xI l3, xI l4, xI (iw (l4 + 1)), v6, v7, v8] μ Q) else (Q (xI (-1)) μ)) : DW (d + 1) 188 13 [xR 61, xI 4, xI l2, xI l3, xI l4, v5, v6, v7, v8] μ Q :=
  DW_wp (n := 400) (Nat.le_of_ble_eq_true rfl) h
set_option maxRecDepth 20000 in
theorem sg_M_leastOf_61_n4_26 {d : Nat} {l2 l3 l4 l5 : Int} {v6 v7 v8 : AV} {μ : Mem} {Q : AV → Mem → Prop} (h : if l5 < l2 then (DW (d + 1) 188 44 [xR 61, xI 4, xI l2, xI l3, xI l4, xI l5, xI (iw (l5 + 1)), v7, v8] μ Q) else (DW (d + 1) 188 120 [xR 61, xI 4, xI l2, xI l3, xI l4, xI l5, v6, v7, v8] μ Q)) : DW (d + 1) 188 26 [xR 61, xI 4, xI l2, xI l3, xI l4, xI l5, v6, v7, v8] μ Q :=
  DW_wp (n := 400) (Nat.le_of_ble_eq_true rfl) h
set_option maxRecDepth 20000 in
theorem sg_M_leastOf_61_n4_44 {d : Nat} {l2 l3 l4 l5 l6 : Int} {v7 v8 : AV} {μ : Mem} {Q : AV → Mem → Prop} (h : if l6 < l2 then (DW (d + 1) 188 62 [xR 61, xI 4, xI l2, xI l3, xI l4, xI l5, xI l6, xI (iw (l6 + 1)), v8] μ Q) else (DW (d + 1) 188 117 [xR 61, xI 4, xI l2, xI l3, xI l4, xI l5, xI l6, v7, v8] μ Q)) : DW (d + 1) 188 44 [xR 61, xI 4, xI l2, xI l3, xI l4, xI l5, xI l6, v7, v8] μ Q :=
  DW_wp (n := 400) (Nat.le_of_ble_eq_true rfl) h
set_option maxRecDepth 20000 in
theorem sg_M_leastOf_61_n4_62 {d : Nat} {l2 l3 l4 l5 l6 l7 : Int} {v8 : AV} {μ : Mem} {Q : AV → Mem → Prop} (h : if l7 < l2 then (GM d 189 [xR 61, xI (xior (xior (xior (xshl 1 l4) (xshl 1 l5)) (xshl 1 l6)) (xshl 1 l7))] μ (gI (fun r2 m1 => if r2 = 0 then (DW (d + 1) 188 62 [xR 61, xI 4, xI l2, xI l3, xI l4, xI l5, xI l6, xI (iw (l7 + 1)), xI (xior (xior (xior (xshl 1 l4) (xshl 1 l5)) (xshl 1 l6)) (xshl 1 l7))] m1 Q) else (Q (xI (xior (xior (xior (xshl 1 l4) (xshl 1 l5)) (xshl 1 l6)) (xshl 1 l7))) m1)))) else (DW (d + 1) 188 114 [xR 61, xI 4, xI l2, xI l3, xI l4, xI l5, xI l6, xI l7, v8] μ Q)) : DW (d + 1) 188 62 [xR 61, xI 4, xI l2, xI l3, xI l4, xI l5, xI l6, xI l7, v8] μ Q :=
  DW_wp (n := 400) (Nat.le_of_ble_eq_true rfl) h
set_option maxRecDepth 20000 in
theorem sg_M_leastOf_61_n4_114 {d : Nat} {l2 l3 l4 l5 l6 : Int} {v7 v8 : AV} {μ : Mem} {Q : AV → Mem → Prop} (h : DW (d + 1) 188 44 [xR 61, xI 4, xI l2, xI l3, xI l4, xI l5, xI (iw (l6 + 1)), v7, v8] μ Q) : DW (d + 1) 188 114 [xR 61, xI 4, xI l2, xI l3, xI l4, xI l5, xI l6, v7, v8] μ Q :=
  DW_wp (n := 400) (Nat.le_of_ble_eq_true rfl) h
set_option maxRecDepth 20000 in
theorem sg_M_leastOf_61_n4_117 {d : Nat} {l2 l3 l4 l5 : Int} {v6 v7 v8 : AV} {μ : Mem} {Q : AV → Mem → Prop} (h : DW (d + 1) 188 26 [xR 61, xI 4, xI l2, xI l3, xI l4, xI (iw (l5 + 1)), v6, v7, v8] μ Q) : DW (d + 1) 188 117 [xR 61, xI 4, xI l2, xI l3, xI l4, xI l5, v6, v7, v8] μ Q :=
  DW_wp (n := 400) (Nat.le_of_ble_eq_true rfl) h
set_option maxRecDepth 20000 in
theorem sg_M_leastOf_61_n4_120 {d : Nat} {l2 l3 l4 : Int} {v5 v6 v7 v8 : AV} {μ : Mem} {Q : AV → Mem → Prop} (h : DW (d + 1) 188 13 [xR 61, xI 4, xI l2, xI l3, xI (iw (l4 + 1)), v5, v6, v7, v8] μ Q) : DW (d + 1) 188 120 [xR 61, xI 4, xI l2, xI l3, xI l4, v5, v6, v7, v8] μ Q :=
  DW_wp (n := 400) (Nat.le_of_ble_eq_true rfl) h
set_option maxRecDepth 20000 in
theorem ge_M_parts {d : Nat} {p1 : Int} {μ : Mem} {Q : AV → Mem → Prop} (h : DW d 189 2 [xR 61, xI p1, xI 0, xL 0] μ Q) : GM d 189 [xR 61, xI p1] μ Q :=
  GM_wp (n := 400) (Nat.le_of_ble_eq_true rfl) (Nat.le_of_ble_eq_true rfl) rfl h
set_option maxRecDepth 20000 in
theorem sg_M_parts_2 {d : Nat} {l1 l2 : Int} {v3 : AV} {μ : Mem} {Q : AV → Mem → Prop} (h : if l2 < μ 61 26 then (DW d 189 9 [xR 61, xI l1, xI l2, xI 0] μ Q) else (Q (xI 1) μ)) : DW d 189 2 [xR 61, xI l1, xI l2, v3] μ Q :=
  DW_wp (n := 400) (Nat.le_of_ble_eq_true rfl) h
set_option maxRecDepth 20000 in
theorem sg_M_parts_9 {d : Nat} {l1 l2 l3 : Int} {μ : Mem} {Q : AV → Mem → Prop} (h : if l3 < l2 then (wb l2 720 (wb l3 720 (if xand (xxor (μ 74 l2.toNat) (μ 74 l3.toNat)) l1 = 0 then (Q (xI 0) μ) else (DW d 189 9 [xR 61, xI l1, xI l2, xI (iw (l3 + 1))] μ Q)))) else (DW d 189 29 [xR 61, xI l1, xI l2, xI l3] μ Q)) : DW d 189 9 [xR 61, xI l1, xI l2, xI l3] μ Q :=
  DW_wp (n := 400) (Nat.le_of_ble_eq_true rfl) h
set_option maxRecDepth 20000 in
theorem sg_M_parts_29 {d : Nat} {l1 l2 : Int} {v3 : AV} {μ : Mem} {Q : AV → Mem → Prop} (h : DW d 189 2 [xR 61, xI l1, xI (iw (l2 + 1)), v3] μ Q) : DW d 189 29 [xR 61, xI l1, xI l2, v3] μ Q :=
  DW_wp (n := 400) (Nat.le_of_ble_eq_true rfl) h
set_option maxRecDepth 20000 in
theorem ge_M_came {d : Nat} {p1 : Int} {μ : Mem} {Q : AV → Mem → Prop} (h : if p1 < 0 then (Q (xI (-3)) μ) else (if 1 < p1 then (Q (xI (-3)) μ) else (GM (d + 4) 179 [xR 61] μ (gV (fun m1 => GM (d + 4) 191 [xR 61] m1 (gV (fun m2 => DW (d + 5) 190 17 [xR 61, xI p1, xI 99, xI 0, xI 0, xL 0] m2 Q))))))) : GM (d + 5) 190 [xR 61, xI p1] μ Q :=
  GM_wp (n := 400) (Nat.le_of_ble_eq_true rfl) (Nat.le_of_ble_eq_true rfl) rfl h
set_option maxRecDepth 20000 in
theorem sg_M_came_17 {d : Nat} {l1 l2 l3 l4 : Int} {v5 : AV} {μ : Mem} {Q : AV → Mem → Prop} (h : if l4 < μ 61 26 then (wb l4 720 (wb (μ 72 l4.toNat) 5040 (if μ 73 (μ 72 l4.toNat).toNat < l2 then (if μ 73 (μ 72 l4.toNat).toNat < 99 then (DW (d + 5) 190 17 [xR 61, xI l1, xI (μ 73 (μ 72 l4.toNat).toNat), xI (iw (l3 + 1)), xI (iw (l4 + 1)), xI (μ 73 (μ 72 l4.toNat).toNat)] μ Q) else (DW (d + 5) 190 17 [xR 61, xI l1, xI (μ 73 (μ 72 l4.toNat).toNat), xI (iw (l3 + 0)), xI (iw (l4 + 1)), xI (μ 73 (μ 72 l4.toNat).toNat)] μ Q)) else (if μ 73 (μ 72 l4.toNat).toNat < 99 then (DW (d + 5) 190 17 [xR 61, xI l1, xI l2, xI (iw (l3 + 1)), xI (iw (l4 + 1)), xI (μ 73 (μ 72 l4.toNat).toNat)] μ Q) else (DW (d + 5) 190 17 [xR 61, xI l1, xI l2, xI (iw (l3 + 0)), xI (iw (l4 + 1)), xI (μ 73 (μ 72 l4.toNat).toNat)] μ Q))))) else (DW (d + 5) 190 48 [xR 61, xI l1, xI l2, xI l3, xI l4, v5] μ Q)) : DW (d + 5) 190 17 [xR 61, xI l1, xI l2, xI l3, xI l4, v5] μ Q :=
  DW_wp (n := 400) (Nat.le_of_ble_eq_true rfl) h
set_option maxRecDepth 20000 in
theorem sg_M_came_48 {d : Nat} {l1 l2 l3 : Int} {v0 v4 v5 : AV} {μ : Mem} {Q : AV → Mem → Prop} (h : if l3 = 0 then (Q (xI (-1)) μ) else (if l1 = 0 then (Q (xI l2) μ) else (Q (xI l3) μ))) : DW (d + 5) 190 48 [v0, xI l1, xI l2, xI l3, v4, v5] μ Q :=
  DW_wp (n := 400) (Nat.le_of_ble_eq_true rfl) h
set_option maxRecDepth 20000 in
theorem ge_M_layCame {d : Nat} {μ : Mem} {Q : AV → Mem → Prop} (h : DW (d + 4) 191 2 [xR 61, xI 0, xL 0, xL 0, xL 0, xL 0, xL 0] μ Q) : GM (d + 4) 191 [xR 61] μ Q :=
  GM_wp (n := 400) (Nat.le_of_ble_eq_true rfl) (Nat.le_of_ble_eq_true rfl) rfl h
set_option maxRecDepth 20000 in
theorem sg_M_layCame_2 {d : Nat} {l1 : Int} {v2 v3 v4 v5 v6 : AV} {μ : Mem} {Q : AV → Mem → Prop} (h : GM (d + 3) 168 [xR 61] μ (gI (fun r2 m1 => if l1 < r2 then (if l1 = 0 then (wb l1 5040 (DW (d + 4) 191 2 [xR 61, xI (iw (l1 + 1)), v2, v3, v4, v5, v6] (xset m1 73 l1.toNat 0) Q)) else (wb l1 5040 (DW (d + 4) 191 2 [xR 61, xI (iw (l1 + 1)), v2, v3, v4, v5, v6] (xset m1 73 l1.toNat 99) Q))) else (DW (d + 4) 191 18 [xR 61, xI l1, v2, v3, v4, v5, v6] m1 Q)))) : DW (d + 4) 191 2 [xR 61, xI l1, v2, v3, v4, v5, v6] μ Q :=
  DW_wp (n := 400) (Nat.le_of_ble_eq_true rfl) h
set_option maxRecDepth 20000 in
theorem sg_M_layCame_18 {d : Nat} {v1 v2 v3 v4 v5 v6 : AV} {μ : Mem} {Q : AV → Mem → Prop} (h : DW (d + 4) 191 21 [xR 61, xI 0, v2, v3, v4, v5, v6] μ Q) : DW (d + 4) 191 18 [xR 61, v1, v2, v3, v4, v5, v6] μ Q :=
  DW_wp (n := 400) (Nat.le_of_ble_eq_true rfl) h
set_option maxRecDepth 20000 in
theorem sg_M_layCame_21 {d : Nat} {l1 : Int} {v2 v3 v4 v5 v6 : AV} {μ : Mem} {Q : AV → Mem → Prop} (h : if l1 < μ 67 24 then (DW (d + 4) 191 30 [xR 61, xI l1, xI 0, v3, v4, v5, v6] μ Q) else (Q (xI 0) μ)) : DW (d + 4) 191 21 [xR 61, xI l1, v2, v3, v4, v5, v6] μ Q :=
  DW_wp (n := 400) (Nat.le_of_ble_eq_true rfl) h
set_option maxRecDepth 20000 in
theorem sg_M_layCame_30 {d : Nat} {l1 l2 : Int} {v3 v4 v5 v6 : AV} {μ : Mem} {Q : AV → Mem → Prop} (h : GM (d + 3) 168 [xR 61] μ (gI (fun r2 m1 => if l2 < r2 then (wb l2 5040 (wb (iw (720 + l2)) 5040 (DW (d + 4) 191 30 [xR 61, xI l1, xI (iw (l2 + 1)), v3, v4, v5, v6] (xset m1 73 ((iw (720 + l2)).toNat) (m1 73 l2.toNat)) Q))) else (DW (d + 4) 191 47 [xR 61, xI l1, xI l2, v3, v4, v5, v6] m1 Q)))) : DW (d + 4) 191 30 [xR 61, xI l1, xI l2, v3, v4, v5, v6] μ Q :=
  DW_wp (n := 400) (Nat.le_of_ble_eq_true rfl) h
set_option maxRecDepth 20000 in
theorem sg_M_layCame_47 {d : Nat} {l1 : Int} {v2 v3 v4 v5 v6 : AV} {μ : Mem} {Q : AV → Mem → Prop} (h : DW (d + 4) 191 50 [xR 61, xI l1, xI 0, v3, v4, v5, v6] μ Q) : DW (d + 4) 191 47 [xR 61, xI l1, v2, v3, v4, v5, v6] μ Q :=
  DW_wp (n := 400) (Nat.le_of_ble_eq_true rfl) h
set_option maxRecDepth 20000 in
theorem sg_M_layCame_50 {d : Nat} {l1 l2 : Int} {v3 v4 v5 v6 : AV} {μ : Mem} {Q : AV → Mem → Prop} (h : GM (d + 3) 168 [xR 61] μ (gI (fun r2 m1 => if l2 < r2 then (DW (d + 4) 191 57 [xR 61, xI l1, xI l2, xI 0, v4, v5, v6] m1 Q) else (DW (d + 4) 191 133 [xR 61, xI l1, xI l2, v3, v4, v5, v6] m1 Q)))) : DW (d + 4) 191 50 [xR 61, xI l1, xI l2, v3, v4, v5, v6] μ Q :=
  DW_wp (n := 400) (Nat.le_of_ble_eq_true rfl) h
set_option maxRecDepth 20000 in
theorem sg_M_layCame_57 {d : Nat} {l1 l2 l3 : Int} {v4 v5 v6 : AV} {μ : Mem} {Q : AV → Mem → Prop} (h : if l3 < iw ((μ 61 2) * (μ 61 2)) then (wb l2 5040 (if μ 73 l2.toNat < 99 then (wz (μ 61 2) (wz (μ 61 2) (if xdiv l3 (μ 61 2) < xrem l3 (μ 61 2) then (GM (d + 3) 157 [xR 61, xI l1, xI (xdiv l3 (μ 61 2)), xI (xrem l3 (μ 61 2))] μ (gI (fun r2 m1 => if r2 = 0 then (DW (d + 4) 191 57 [xR 61, xI l1, xI l2, xI (iw (l3 + 1)), xI (xdiv l3 (μ 61 2)), xI (xrem l3 (μ 61 2)), v6] m1 Q) else (GM (d + 3) 169 [xR 61, xI l2] m1 (gV (fun m3 => wb (xdiv l3 (μ 61 2)) 6 (wb (xrem l3 (μ 61 2)) 6 (wb (xdiv l3 (μ 61 2)) 6 (wb (xrem l3 (μ 61 2)) 6 (GM (d + 3) 173 [xR 61] (xset (xset m3 71 ((xdiv l3 (μ 61 2)).toNat) (m3 71 (xrem l3 (μ 61 2)).toNat)) 71 ((xrem l3 (μ 61 2)).toNat) (m3 71 (xdiv l3 (μ 61 2)).toNat)) (gI (fun r5 m4 => wb l2 5040 (wb (iw (720 + r5)) 5040 (if iw ((m4 73 l2.toNat) + 1) < m4 73 (iw (720 + r5)).toNat then (wb l2 5040 (wb (iw (720 + r5)) 5040 (DW (d + 4) 191 57 [xR 61, xI l1, xI l2, xI (iw (l3 + 1)), xI (xdiv l3 (μ 61 2)), xI (xrem l3 (μ 61 2)), xI (iw (720 + r5))] (xset m4 73 ((iw (720 + r5)).toNat) (iw ((m4 73 l2.toNat) + 1))) Q))) else (wb (iw (720 + r5)) 5040 (wb (iw (720 + r5)) 5040 (DW (d + 4) 191 57 [xR 61, xI l1, xI l2, xI (iw (l3 + 1)), xI (xdiv l3 (μ 61 2)), xI (xrem l3 (μ 61 2)), xI (iw (720 + r5))] (xset m4 73 ((iw (720 + r5)).toNat) (m4 73 (iw (720 + r5)).toNat)) Q))))))))))))))))) else (DW (d + 4) 191 57 [xR 61, xI l1, xI l2, xI (iw (l3 + 1)), xI (xdiv l3 (μ 61 2)), xI (xrem l3 (μ 61 2)), v6] μ Q)))) else (DW (d + 4) 191 130 [xR 61, xI l1, xI l2, xI l3, v4, v5, v6] μ Q))) else (DW (d + 4) 191 130 [xR 61, xI l1, xI l2, xI l3, v4, v5, v6] μ Q)) : DW (d + 4) 191 57 [xR 61, xI l1, xI l2, xI l3, v4, v5, v6] μ Q :=
  DW_wp (n := 400) (Nat.le_of_ble_eq_true rfl) h
set_option maxRecDepth 20000 in
theorem sg_M_layCame_130 {d : Nat} {l1 l2 : Int} {v3 v4 v5 v6 : AV} {μ : Mem} {Q : AV → Mem → Prop} (h : DW (d + 4) 191 50 [xR 61, xI l1, xI (iw (l2 + 1)), v3, v4, v5, v6] μ Q) : DW (d + 4) 191 130 [xR 61, xI l1, xI l2, v3, v4, v5, v6] μ Q :=
  DW_wp (n := 400) (Nat.le_of_ble_eq_true rfl) h
set_option maxRecDepth 20000 in
theorem sg_M_layCame_133 {d : Nat} {l1 : Int} {v2 v3 v4 v5 v6 : AV} {μ : Mem} {Q : AV → Mem → Prop} (h : DW (d + 4) 191 136 [xR 61, xI l1, xI 0, v3, v4, v5, v6] μ Q) : DW (d + 4) 191 133 [xR 61, xI l1, v2, v3, v4, v5, v6] μ Q :=
  DW_wp (n := 400) (Nat.le_of_ble_eq_true rfl) h
set_option maxRecDepth 20000 in
theorem sg_M_layCame_136 {d : Nat} {l1 l2 : Int} {v3 v4 v5 v6 : AV} {μ : Mem} {Q : AV → Mem → Prop} (h : GM (d + 3) 168 [xR 61] μ (gI (fun r2 m1 => if l2 < r2 then (wb (iw (720 + l2)) 5040 (wb l2 5040 (DW (d + 4) 191 136 [xR 61, xI l1, xI (iw (l2 + 1)), v3, v4, v5, v6] (xset m1 73 l2.toNat (m1 73 (iw (720 + l2)).toNat)) Q))) else (DW (d + 4) 191 153 [xR 61, xI l1, xI l2, v3, v4, v5, v6] m1 Q)))) : DW (d + 4) 191 136 [xR 61, xI l1, xI l2, v3, v4, v5, v6] μ Q :=
  DW_wp (n := 400) (Nat.le_of_ble_eq_true rfl) h
set_option maxRecDepth 20000 in
theorem sg_M_layCame_153 {d : Nat} {l1 : Int} {v2 v3 v4 v5 v6 : AV} {μ : Mem} {Q : AV → Mem → Prop} (h : DW (d + 4) 191 21 [xR 61, xI (iw (l1 + 1)), v2, v3, v4, v5, v6] μ Q) : DW (d + 4) 191 153 [xR 61, xI l1, v2, v3, v4, v5, v6] μ Q :=
  DW_wp (n := 400) (Nat.le_of_ble_eq_true rfl) h
set_option maxRecDepth 20000 in
theorem ge_M_count {d : Nat} {p1 : Int} {μ : Mem} {Q : AV → Mem → Prop} (h : DW (d + 2) 192 6 [xR 61, xI p1, xI 0, xI 0, xI 0] μ Q) : GM (d + 2) 192 [xR 61, xI p1] μ Q :=
  GM_wp (n := 400) (Nat.le_of_ble_eq_true rfl) (Nat.le_of_ble_eq_true rfl) rfl h
set_option maxRecDepth 20000 in
theorem sg_M_count_6 {d : Nat} {l1 l2 l3 l4 : Int} {μ : Mem} {Q : AV → Mem → Prop} (h : if l4 < μ 61 2 then (wb l4 27 (if μ 67 l4.toNat = l4 then (DW (d + 2) 192 6 [xR 61, xI l1, xI (xior l2 (xshl 1 l4)), xI l3, xI (iw (l4 + 1))] μ Q) else (DW (d + 2) 192 6 [xR 61, xI l1, xI (xior l2 0), xI l3, xI (iw (l4 + 1))] μ Q))) else (DW (d + 2) 192 27 [xR 61, xI l1, xI l2, xI l3, xI l4] μ Q)) : DW (d + 2) 192 6 [xR 61, xI l1, xI l2, xI l3, xI l4] μ Q :=
  DW_wp (n := 400) (Nat.le_of_ble_eq_true rfl) h
set_option maxRecDepth 20000 in
theorem sg_M_count_27 {d : Nat} {l1 l2 l3 : Int} {v4 : AV} {μ : Mem} {Q : AV → Mem → Prop} (h : if l1 = 0 then (Q (xI (μ 61 0)) μ) else (if l1 = 1 then (Q (xI (μ 61 2)) μ) else (if l1 = 2 then (Q (xI (μ 61 4)) μ) else (if l1 = 3 then (Q (xI (μ 67 24)) μ) else (if l1 = 4 then (Q (xI (μ 67 25)) μ) else (if l1 = 5 then (Q (xI (μ 67 26)) μ) else (if l1 = 6 then (Q (xI l2) μ) else (if l1 = 7 then (DW (d + 2) 192 58 [xR 61, xI l1, xI l2, xI l3, xI 0] μ Q) else (if l1 = 8 then (Q (xI (μ 61 22)) μ) else (if l1 = 9 then (Q (xI (μ 61 6)) μ) else (Q (xI (-3)) μ))))))))))) : DW (d + 2) 192 27 [xR 61, xI l1, xI l2, xI l3, v4] μ Q :=
  DW_wp (n := 400) (Nat.le_of_ble_eq_true rfl) h
set_option maxRecDepth 20000 in
theorem sg_M_count_58 {d : Nat} {l3 l4 : Int} {v1 v2 : AV} {μ : Mem} {Q : AV → Mem → Prop} (h : GM (d + 1) 168 [xR 61] μ (gI (fun r2 m1 => if l4 < r2 then (GM (d + 1) 169 [xR 61, xI l4] m1 (gV (fun m3 => GM (d + 1) 170 [xR 61] m3 (gI (fun r5 m4 => if r5 = 0 then (DW (d + 2) 192 58 [xR 61, v1, v2, xI (iw (l3 + 0)), xI (iw (l4 + 1))] m4 Q) else (DW (d + 2) 192 58 [xR 61, v1, v2, xI (iw (l3 + 1)), xI (iw (l4 + 1))] m4 Q)))))) else (Q (xI l3) m1)))) : DW (d + 2) 192 58 [xR 61, v1, v2, xI l3, xI l4] μ Q :=
  DW_wp (n := 400) (Nat.le_of_ble_eq_true rfl) h
