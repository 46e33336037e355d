set_option maxRecDepth 20000 in
theorem ge_X_as {d : Nat} {p1 p2 : Int} {μ : Mem} {Q : AV → Mem → Prop} (h : if p1 < 0 then (Q (xI (-2)) μ) else (if p1 < μ 2 0 then (if p2 < 0 then (Q (xI (-3)) μ) else (if p2 < 5 then (wb p1 5 (GM d 47 [xR 140, xI (iw ((μ 16 p1.toNat) + 1)), xI p2] μ (gI (fun r2 m1 => if r2 = 0 then (Q (xI (-4)) m1) else (GM d 48 [xR 3, xI p1] m1 (gI (fun r4 m3 => Q (xI r4) m3))))))) else (Q (xI (-3)) μ))) else (Q (xI (-2)) μ))) : GM (d + 1) 46 [xR 0, xI p1, xI p2] μ Q :=
  GM_wp (n := 400) (Nat.le_of_ble_eq_true rfl) (Nat.le_of_ble_eq_true rfl) rfl h
set_option maxRecDepth 20000 in
theorem ge_X_isUnder_140 {d : Nat} {p1 p2 : Int} {μ : Mem} {Q : AV → Mem → Prop} (h : DW d 47 4 [xR 140, xI p1, xI p2, xI p1, xI 0] μ Q) : GM d 47 [xR 140, xI p1, xI p2] μ Q :=
  GM_wp (n := 400) (Nat.le_of_ble_eq_true rfl) (Nat.le_of_ble_eq_true rfl) rfl h
set_option maxRecDepth 20000 in
theorem sg_X_isUnder_140_4 {d : Nat} {l2 l3 l4 : Int} {v1 : AV} {μ : Mem} {Q : AV → Mem → Prop} (h : if l4 < 5 then (if l3 < 0 then (Q (xI 0) μ) else (if l3 < 5 then (if l3 = l2 then (Q (xI 1) μ) else (wb l3 5 (DW d 47 4 [xR 140, v1, xI l2, xI (([-1, 0, 1, 1, 0] : List Int).getD l3.toNat 0), xI (iw (l4 + 1))] μ Q))) else (Q (xI 0) μ))) else (Q (xI 0) μ)) : DW d 47 4 [xR 140, v1, xI l2, xI l3, xI l4] μ Q :=
  DW_wp (n := 400) (Nat.le_of_ble_eq_true rfl) h
set_option maxRecDepth 20000 in
theorem ge_X_isUnder_141 {d : Nat} {p1 p2 : Int} {μ : Mem} {Q : AV → Mem → Prop} (h : DW d 47 4 [xR 141, xI p1, xI p2, xI p1, xI 0] μ Q) : GM d 47 [xR 141, xI p1, xI p2] μ Q :=
  GM_wp (n := 400) (Nat.le_of_ble_eq_true rfl) (Nat.le_of_ble_eq_true rfl) rfl h
set_option maxRecDepth 20000 in
theorem sg_X_isUnder_141_4 {d : Nat} {l2 l3 l4 : Int} {v1 : AV} {μ : Mem} {Q : AV → Mem → Prop} (h : if l4 < 6 then (if l3 < 0 then (Q (xI 0) μ) else (if l3 < 6 then (if l3 = l2 then (Q (xI 1) μ) else (wb l3 6 (DW d 47 4 [xR 141, v1, xI l2, xI (([-1, 0, 0, 2, 2, 3] : List Int).getD l3.toNat 0), xI (iw (l4 + 1))] μ Q))) else (Q (xI 0) μ))) else (Q (xI 0) μ)) : DW d 47 4 [xR 141, v1, xI l2, xI l3, xI l4] μ Q :=
  DW_wp (n := 400) (Nat.le_of_ble_eq_true rfl) h
set_option maxRecDepth 20000 in
theorem ge_Now_ownWith {d : Nat} {p1 : Int} {μ : Mem} {Q : AV → Mem → Prop} (h : DW d 48 4 [xR 3, xI p1, xI 0, xI 0] μ Q) : GM d 48 [xR 3, xI p1] μ Q :=
  GM_wp (n := 400) (Nat.le_of_ble_eq_true rfl) (Nat.le_of_ble_eq_true rfl) rfl h
set_option maxRecDepth 20000 in
theorem sg_Now_ownWith_4 {d : Nat} {l1 l2 l3 : Int} {μ : Mem} {Q : AV → Mem → Prop} (h : if l3 < μ 2 1 then (wb l3 6 (if μ 21 l3.toNat = l1 then (wb l3 6 (wb (μ 23 l3.toNat) 6 (if μ 21 (μ 23 l3.toNat).toNat = l1 then (DW d 48 4 [xR 3, xI l1, xI (iw (l2 + 1)), xI (iw (l3 + 1))] μ Q) else (DW d 48 4 [xR 3, xI l1, xI l2, xI (iw (l3 + 1))] μ Q)))) else (DW d 48 4 [xR 3, xI l1, xI l2, xI (iw (l3 + 1))] μ Q))) else (Q (xI l2) μ)) : DW d 48 4 [xR 3, xI l1, xI l2, xI l3] μ Q :=
  DW_wp (n := 400) (Nat.le_of_ble_eq_true rfl) h
set_option maxRecDepth 20000 in
theorem ge_X_thing {d : Nat} {p1 p2 : Int} {μ : Mem} {Q : AV → Mem → Prop} (h : if p1 < 0 then (Q (xI (-2)) μ) else (if p1 < μ 2 1 then (if p2 = 0 then (wb p1 6 (Q (xI (μ 17 p1.toNat)) μ)) else (if p2 = 1 then (wb p1 6 (Q (xI (μ 18 p1.toNat)) μ)) else (if p2 = 2 then (wb p1 6 (Q (xI (μ 19 p1.toNat)) μ)) else (if p2 = 3 then (wb p1 6 (Q (xI (μ 25 p1.toNat)) μ)) else (if p2 = 4 then (GM d 50 [xR 3, xI p1] μ (gI (fun r2 m1 => Q (xI r2) m1))) else (if p2 = 5 then (wb p1 6 (Q (xI (μ 26 p1.toNat)) μ)) else (Q (xI (-3)) μ))))))) else (Q (xI (-2)) μ))) : GM (d + 1) 49 [xR 0, xI p1, xI p2] μ Q :=
  GM_wp (n := 400) (Nat.le_of_ble_eq_true rfl) (Nat.le_of_ble_eq_true rfl) rfl h
set_option maxRecDepth 20000 in
theorem ge_Now_placeOf {d : Nat} {p1 : Int} {μ : Mem} {Q : AV → Mem → Prop} (h : DW d 50 2 [xR 3, xI p1, xI 0] μ Q) : GM d 50 [xR 3, xI p1] μ Q :=
  GM_wp (n := 400) (Nat.le_of_ble_eq_true rfl) (Nat.le_of_ble_eq_true rfl) rfl h
set_option maxRecDepth 20000 in
theorem sg_Now_placeOf_2 {d : Nat} {l1 l2 : Int} {μ : Mem} {Q : AV → Mem → Prop} (h : if l2 < μ 2 1 then (wb l2 6 (if μ 23 l2.toNat = l1 then (Q (xI l2) μ) else (DW d 50 2 [xR 3, xI l1, xI (iw (l2 + 1))] μ Q))) else (Q (xI l1) μ)) : DW d 50 2 [xR 3, xI l1, xI l2] μ Q :=
  DW_wp (n := 400) (Nat.le_of_ble_eq_true rfl) h
set_option maxRecDepth 20000 in
theorem ge_X_thingAs {d : Nat} {p1 p2 : Int} {μ : Mem} {Q : AV → Mem → Prop} (h : if p1 < 0 then (Q (xI (-2)) μ) else (if p1 < μ 2 1 then (if p2 < 0 then (Q (xI (-3)) μ) else (if p2 < 6 then (wb p1 6 (wb (μ 17 p1.toNat) 4 (GM (d + 1) 47 [xR 141, xI (([1, 3, 4, 5] : List Int).getD (μ 17 p1.toNat).toNat 0), xI p2] μ (gI (fun r2 m1 => if r2 = 0 then (Q (xI (-4)) m1) else (GM (d + 1) 50 [xR 3, xI p1] m1 (gI (fun r4 m3 => wb p1 6 (GM (d + 1) 52 [xR 3, xI p1, xI r4, xI (m3 19 p1.toNat)] m3 (gI (fun r6 m5 => if r6 = 0 then (Q (xI 0) m5) else (Q (xI 1) m5)))))))))))) else (Q (xI (-3)) μ))) else (Q (xI (-2)) μ))) : GM (d + 2) 51 [xR 0, xI p1, xI p2] μ Q :=
  GM_wp (n := 400) (Nat.le_of_ble_eq_true rfl) (Nat.le_of_ble_eq_true rfl) rfl h
set_option maxRecDepth 20000 in
theorem ge_Now_works {d : Nat} {p1 p2 p3 : Int} {μ : Mem} {Q : AV → Mem → Prop} (h : wb p1 6 (if μ 19 p1.toNat = p3 then (wb p1 6 (if μ 17 p1.toNat = 1 then (Q (xI 1) μ) else (if μ 17 p1.toNat = 2 then (wb p1 6 (if 0 < μ 25 p1.toNat then (Q (xI 1) μ) else (Q (xI 0) μ))) else (if μ 17 p1.toNat = 3 then (wb p2 6 (wb p1 6 (if μ 21 p2.toNat = μ 21 p1.toNat then (Q (xI 1) μ) else (wb p2 6 (wb (μ 21 p2.toNat) 5 (if μ 16 (μ 21 p2.toNat).toNat = 2 then (Q (xI 1) μ) else (Q (xI 0) μ))))))) else (Q (xI 0) μ))))) else (Q (xI 0) μ))) : GM (d + 1) 52 [xR 3, xI p1, xI p2, xI p3] μ Q :=
  GM_wp (n := 400) (Nat.le_of_ble_eq_true rfl) (Nat.le_of_ble_eq_true rfl) rfl h
set_option maxRecDepth 20000 in
theorem ge_X_place {d : Nat} {p1 p2 : Int} {μ : Mem} {Q : AV → Mem → Prop} (h : if p1 < 0 then (Q (xI (-2)) μ) else (if p1 < μ 2 1 then (if p2 = 0 then (wb p1 6 (Q (xI (μ 21 p1.toNat)) μ)) else (if p2 = 1 then (wb p1 6 (Q (xI (μ 23 p1.toNat)) μ)) else (if p2 = 2 then (wb p1 6 (Q (xI (μ 24 p1.toNat)) μ)) else (Q (xI (-3)) μ)))) else (Q (xI (-2)) μ))) : GM (d + 1) 54 [xR 0, xI p1, xI p2] μ Q :=
  GM_wp (n := 400) (Nat.le_of_ble_eq_true rfl) (Nat.le_of_ble_eq_true rfl) rfl h
set_option maxRecDepth 20000 in
theorem ge_X_may {d : Nat} {p1 p2 p3 : Int} {μ : Mem} {Q : AV → Mem → Prop} (h : if p1 < 0 then (Q (xI (-2)) μ) else (if p1 < μ 2 2 then (if p2 < 0 then (Q (xI (-2)) μ) else (if p2 < μ 2 1 then (if p3 < 0 then (Q (xI (-2)) μ) else (if p3 < μ 2 1 then (if p2 = p3 then (Q (xI (-3)) μ) else (GM (d + 2) 57 [xR 2, xI p1, xI p2, xI p3] μ (gI (fun r2 m1 => if r2 = 0 then (Q (xI 0) m1) else (Q (xI 1) m1))))) else (Q (xI (-2)) μ))) else (Q (xI (-2)) μ))) else (Q (xI (-2)) μ))) : GM (d + 3) 55 [xR 0, xI p1, xI p2, xI p3] μ Q :=
  GM_wp (n := 400) (Nat.le_of_ble_eq_true rfl) (Nat.le_of_ble_eq_true rfl) rfl h
set_option maxRecDepth 20000 in
theorem ge_Told_allows {d : Nat} {p1 p2 p3 : Int} {μ : Mem} {Q : AV → Mem → Prop} (h : wb p2 6 (wb p3 6 (if μ 18 p2.toNat = μ 18 p3.toNat then (GM (d + 1) 58 [xR 2, xI p1, xI p2] μ (gI (fun r2 m1 => if r2 = 0 then (Q (xI 0) m1) else (GM (d + 1) 58 [xR 2, xI p1, xI p3] m1 (gI (fun r4 m3 => if r4 = 0 then (Q (xI 0) m3) else (Q (xI 1) m3))))))) else (Q (xI 0) μ)))) : GM (d + 2) 57 [xR 2, xI p1, xI p2, xI p3] μ Q :=
  GM_wp (n := 400) (Nat.le_of_ble_eq_true rfl) (Nat.le_of_ble_eq_true rfl) rfl h
set_option maxRecDepth 20000 in
theorem ge_Told_isOpen {d : Nat} {p1 p2 : Int} {μ : Mem} {Q : AV → Mem → Prop} (h : wb p2 6 (wb (μ 21 p2.toNat) 5 (if μ 16 (μ 21 p2.toNat).toNat = 3 then (wb p2 6 (wb (μ 21 p2.toNat) 5 (if μ 16 (μ 21 p2.toNat).toNat = 1 then (Q (xI 0) μ) else (Q (xI 1) μ)))) else (wb p1 6 (if xand (xshr (μ 22 p1.toNat) (μ 21 p2.toNat)) 1 = 1 then (wb p2 6 (wb (μ 21 p2.toNat) 5 (if μ 16 (μ 21 p2.toNat).toNat = 1 then (Q (xI 0) μ) else (Q (xI 1) μ)))) else (Q (xI 0) μ)))))) : GM (d + 1) 58 [xR 2, xI p1, xI p2] μ Q :=
  GM_wp (n := 400) (Nat.le_of_ble_eq_true rfl) (Nat.le_of_ble_eq_true rfl) rfl h
set_option maxRecDepth 20000 in
theorem ge_X_pass {d : Nat} {p1 p2 : Int} {μ : Mem} {Q : AV → Mem → Prop} (h : if p1 = (-1) then (if p2 = (-1) then (if p1 = (-1) then (if p2 = (-1) then (DW (d + 3) 59 28 [xR 0, xI p1, xI p2, xI 1] μ Q) else (DW (d + 3) 59 28 [xR 0, xI p1, xI p2, xI 0] μ Q)) else (DW (d + 3) 59 28 [xR 0, xI p1, xI p2, xI 0] μ Q)) else (if p2 < 0 then (Q (xI (-2)) μ) else (if p2 < μ 2 1 then (if p1 = (-1) then (if p2 = (-1) then (DW (d + 3) 59 28 [xR 0, xI p1, xI p2, xI 1] μ Q) else (DW (d + 3) 59 28 [xR 0, xI p1, xI p2, xI 0] μ Q)) else (DW (d + 3) 59 28 [xR 0, xI p1, xI p2, xI 0] μ Q)) else (Q (xI (-2)) μ)))) else (if p1 < 0 then (Q (xI (-2)) μ) else (if p1 < μ 2 1 then (if p2 = (-1) then (if p1 = (-1) then (if p2 = (-1) then (DW (d + 3) 59 28 [xR 0, xI p1, xI p2, xI 1] μ Q) else (DW (d + 3) 59 28 [xR 0, xI p1, xI p2, xI 0] μ Q)) else (DW (d + 3) 59 28 [xR 0, xI p1, xI p2, xI 0] μ Q)) else (if p2 < 0 then (Q (xI (-2)) μ) else (if p2 < μ 2 1 then (if p1 = (-1) then (if p2 = (-1) then (DW (d + 3) 59 28 [xR 0, xI p1, xI p2, xI 1] μ Q) else (DW (d + 3) 59 28 [xR 0, xI p1, xI p2, xI 0] μ Q)) else (DW (d + 3) 59 28 [xR 0, xI p1, xI p2, xI 0] μ Q)) else (Q (xI (-2)) μ)))) else (Q (xI (-2)) μ)))) : GM (d + 3) 59 [xR 0, xI p1, xI p2] μ Q :=
  GM_wp (n := 400) (Nat.le_of_ble_eq_true rfl) (Nat.le_of_ble_eq_true rfl) rfl h
set_option maxRecDepth 20000 in
theorem sg_X_pass_28 {d : Nat} {l1 l2 l3 : Int} {μ : Mem} {Q : AV → Mem → Prop} (h : if l3 = 0 then (if l1 = l2 then (Q (xI (-3)) μ) else (if l1 = (-1) then (Q (xI (-3)) μ) else (if l2 = (-1) then (Q (xI (-3)) μ) else (DW (d + 3) 59 42 [xR 0, xI l1, xI l2, xI l3] μ Q)))) else (DW (d + 3) 59 42 [xR 0, xI l1, xI l2, xI l3] μ Q)) : DW (d + 3) 59 28 [xR 0, xI l1, xI l2, xI l3] μ Q :=
  DW_wp (n := 400) (Nat.le_of_ble_eq_true rfl) h
set_option maxRecDepth 20000 in
theorem sg_X_pass_42 {d : Nat} {l1 l2 l3 : Int} {μ : Mem} {Q : AV → Mem → Prop} (h : if μ 3 1 < μ 2 2 then (DW (d + 3) 59 52 [xR 0, xI l1, xI l2, xI l3] μ Q) else (Q (xI (-4)) μ)) : DW (d + 3) 59 42 [xR 0, xI l1, xI l2, xI l3] μ Q :=
  DW_wp (n := 400) (Nat.le_of_ble_eq_true rfl) h
set_option maxRecDepth 20000 in
theorem sg_X_pass_52 {d : Nat} {l1 l2 l3 : Int} {μ : Mem} {Q : AV → Mem → Prop} (h : if l3 = 0 then (GM (d + 2) 57 [xR 2, xI (μ 3 1), xI l1, xI l2] μ (gI (fun r2 m1 => if r2 = 0 then (Q (xI (-4)) m1) else (GM (d + 2) 60 [xR 3, xI l1, xI l2] m1 (gV (fun m3 => DW (d + 3) 59 71 [xR 0, xI l1, xI l2, xI l3] m3 Q)))))) else (DW (d + 3) 59 71 [xR 0, xI l1, xI l2, xI l3] μ Q)) : DW (d + 3) 59 52 [xR 0, xI l1, xI l2, xI l3] μ Q :=
  DW_wp (n := 400) (Nat.le_of_ble_eq_true rfl) h
set_option maxRecDepth 20000 in
theorem sg_X_pass_71 {d : Nat} {v1 v2 v3 : AV} {μ : Mem} {Q : AV → Mem → Prop} (h : Q (xI (iw ((μ 3 1) + 1))) (xset μ 3 1 (iw ((μ 3 1) + 1)))) : DW (d + 3) 59 71 [xR 0, v1, v2, v3] μ Q :=
  DW_wp (n := 400) (Nat.le_of_ble_eq_true rfl) h
set_option maxRecDepth 20000 in
theorem ge_Now_change {d : Nat} {p1 p2 : Int} {μ : Mem} {Q : AV → Mem → Prop} (h : wb p1 6 (wb p2 6 (wb p1 6 (wb p2 6 (wb p1 6 (wb p1 6 (wb p2 6 (wb p2 6 (Q (xI 0) (xset (xset (xset (xset (xset μ 23 p1.toNat (μ 23 p2.toNat)) 23 p2.toNat (μ 23 p1.toNat)) 24 p1.toNat (iw ((μ 24 p1.toNat) + 1))) 24 p2.toNat (iw (((xset (xset (xset μ 23 p1.toNat (μ 23 p2.toNat)) 23 p2.toNat (μ 23 p1.toNat)) 24 p1.toNat (iw ((μ 24 p1.toNat) + 1))) 24 p2.toNat) + 1))) 3 2 (iw ((μ 3 2) + 1)))))))))))) : GM d 60 [xR 3, xI p1, xI p2] μ Q :=
  GM_wp (n := 400) (Nat.le_of_ble_eq_true rfl) (Nat.le_of_ble_eq_true rfl) rfl h
set_option maxRecDepth 20000 in
theorem ge_X_say {d : Nat} {p1 p2 : Int} {μ : Mem} {Q : AV → Mem → Prop} (h : if p1 < 0 then (Q (xI (-2)) μ) else (if p1 < μ 2 1 then (if p2 < 0 then (Q (xI (-3)) μ) else (if p2 < 4 then (GM (d + 2) 62 [xR 3, xI p1, xI p2] μ (gI (fun r2 m1 => if r2 = 0 then (Q (xI 0) m1) else (Q (xI 1) m1)))) else (Q (xI (-3)) μ))) else (Q (xI (-2)) μ))) : GM (d + 3) 61 [xR 0, xI p1, xI p2] μ Q :=
  GM_wp (n := 400) (Nat.le_of_ble_eq_true rfl) (Nat.le_of_ble_eq_true rfl) rfl h
set_option maxRecDepth 20000 in
theorem ge_Now_hear {d : Nat} {p1 p2 : Int} {μ : Mem} {Q : AV → Mem → Prop} (h : wb p1 6 (GM (d + 1) 52 [xR 3, xI (μ 23 p1.toNat), xI p1, xI p2] μ (gI (fun r2 m1 => if r2 = 0 then (wb p1 6 (wb (m1 21 p1.toNat) 5 (if m1 16 (m1 21 p1.toNat).toNat = 3 then (Q (xI 0) m1) else (wb p1 6 (if m1 17 p1.toNat = 0 then (Q (xI 0) m1) else (wb p1 6 (if m1 19 p1.toNat = p2 then (wb p1 6 (Q (xI 0) (xset m1 3 3 (xior (m1 3 3) (xshl 1 (m1 21 p1.toNat)))))) else (Q (xI 0) m1)))))))) else (wb (μ 23 p1.toNat) 6 (wb (μ 23 p1.toNat) 6 (wb (μ 23 p1.toNat) 6 (if m1 17 (μ 23 p1.toNat).toNat = 2 then (wb (μ 23 p1.toNat) 6 (wb (μ 23 p1.toNat) 6 (Q (xI 1) (xset (xset m1 26 ((μ 23 p1.toNat).toNat) (iw ((m1 26 (μ 23 p1.toNat).toNat) + 1))) 25 ((μ 23 p1.toNat).toNat) (iw ((m1 25 (μ 23 p1.toNat).toNat) - 1)))))) else (Q (xI 1) (xset m1 26 ((μ 23 p1.toNat).toNat) (iw ((m1 26 (μ 23 p1.toNat).toNat) + 1)))))))))))) : GM (d + 2) 62 [xR 3, xI p1, xI p2] μ Q :=
  GM_wp (n := 400) (Nat.le_of_ble_eq_true rfl) (Nat.le_of_ble_eq_true rfl) rfl h
set_option maxRecDepth 20000 in
theorem ge_X_keep {d : Nat} {p1 : Int} {μ : Mem} {Q : AV → Mem → Prop} (h : if p1 < 0 then (Q (xI (-2)) μ) else (if p1 < 2 then (if p1 = 0 then (GM (d + 1) 65 [xR 5, xR 3] μ (gV (fun m2 => Q (xI (m2 3 1)) (xset m2 0 4 (xior (m2 0 4) (xshl 1 p1)))))) else (if p1 = 1 then (GM (d + 1) 65 [xR 6, xR 3] μ (gV (fun m1 => Q (xI (m1 3 1)) (xset m1 0 4 (xior (m1 0 4) (xshl 1 p1)))))) else False)) else (Q (xI (-2)) μ))) : GM (d + 2) 64 [xR 0, xI p1] μ Q :=
  GM_wp (n := 400) (Nat.le_of_ble_eq_true rfl) (Nat.le_of_ble_eq_true rfl) rfl h
set_option maxRecDepth 20000 in
theorem ge_Now_copy_5_3 {d : Nat} {μ : Mem} {Q : AV → Mem → Prop} (h : Q (xI 0) (xcpy (xcpy (xcpy (xcpy (xset (xset (xset μ 5 1 (μ 3 1)) 5 2 (μ 3 2)) 5 3 (μ 3 3)) 23 27 0 0 6) 24 28 0 0 6) 25 29 0 0 6) 26 30 0 0 6)) : GM (d + 1) 65 [xR 5, xR 3] μ Q :=
  GM_wp (n := 400) (Nat.le_of_ble_eq_true rfl) (Nat.le_of_ble_eq_true rfl) rfl h
set_option maxRecDepth 20000 in
theorem ge_Now_copy_6_3 {d : Nat} {μ : Mem} {Q : AV → Mem → Prop} (h : Q (xI 0) (xcpy (xcpy (xcpy (xcpy (xset (xset (xset μ 6 1 (μ 3 1)) 6 2 (μ 3 2)) 6 3 (μ 3 3)) 23 31 0 0 6) 24 32 0 0 6) 25 33 0 0 6) 26 34 0 0 6)) : GM (d + 1) 65 [xR 6, xR 3] μ Q :=
  GM_wp (n := 400) (Nat.le_of_ble_eq_true rfl) (Nat.le_of_ble_eq_true rfl) rfl h
set_option maxRecDepth 20000 in
theorem ge_Now_copy_3_5 {d : Nat} {μ : Mem} {Q : AV → Mem → Prop} (h : Q (xI 0) (xcpy (xcpy (xcpy (xcpy (xset (xset (xset μ 3 1 (μ 5 1)) 3 2 (μ 5 2)) 3 3 (μ 5 3)) 27 23 0 0 6) 28 24 0 0 6) 29 25 0 0 6) 30 26 0 0 6)) : GM (d + 1) 65 [xR 3, xR 5] μ Q :=
  GM_wp (n := 400) (Nat.le_of_ble_eq_true rfl) (Nat.le_of_ble_eq_true rfl) rfl h
set_option maxRecDepth 20000 in
theorem ge_Now_copy_3_6 {d : Nat} {μ : Mem} {Q : AV → Mem → Prop} (h : Q (xI 0) (xcpy (xcpy (xcpy (xcpy (xset (xset (xset μ 3 1 (μ 6 1)) 3 2 (μ 6 2)) 3 3 (μ 6 3)) 31 23 0 0 6) 32 24 0 0 6) 33 25 0 0 6) 34 26 0 0 6)) : GM (d + 1) 65 [xR 3, xR 6] μ Q :=
  GM_wp (n := 400) (Nat.le_of_ble_eq_true rfl) (Nat.le_of_ble_eq_true rfl) rfl h
set_option maxRecDepth 20000 in
theorem ge_X_back {d : Nat} {p1 : Int} {μ : Mem} {Q : AV → Mem → Prop} (h : if p1 < 0 then (Q (xI (-2)) μ) else (if p1 < 2 then (if xand (xshr (μ 0 4) p1) 1 = 0 then (Q (xI (-4)) μ) else (if p1 = 0 then (GM (d + 1) 65 [xR 3, xR 5] μ (gV (fun m2 => Q (xI (m2 3 1)) m2))) else (if p1 = 1 then (GM (d + 1) 65 [xR 3, xR 6] μ (gV (fun m1 => Q (xI (m1 3 1)) m1))) else False))) else (Q (xI (-2)) μ))) : GM (d + 2) 66 [xR 0, xI p1] μ Q :=
  GM_wp (n := 400) (Nat.le_of_ble_eq_true rfl) (Nat.le_of_ble_eq_true rfl) rfl h
set_option maxRecDepth 20000 in
theorem ge_X_rings {d : Nat} {μ : Mem} {Q : AV → Mem → Prop} (h : GM d 68 [xR 3] μ (gI (fun r2 m1 => Q (xI r2) m1))) : GM (d + 1) 67 [xR 0] μ Q :=
  GM_wp (n := 400) (Nat.le_of_ble_eq_true rfl) (Nat.le_of_ble_eq_true rfl) rfl h
set_option maxRecDepth 20000 in
theorem ge_Now_ringCount {d : Nat} {μ : Mem} {Q : AV → Mem → Prop} (h : DW d 68 6 [xR 3, xI 0, xI 0, xI 0, xL 0, xL 0] μ Q) : GM d 68 [xR 3] μ Q :=
  GM_wp (n := 400) (Nat.le_of_ble_eq_true rfl) (Nat.le_of_ble_eq_true rfl) rfl h
set_option maxRecDepth 20000 in
theorem sg_Now_ringCount_6 {d : Nat} {l1 l2 l3 : Int} {v4 v5 : AV} {μ : Mem} {Q : AV → Mem → Prop} (h : if l3 < μ 2 1 then (if xand (xshr l2 l3) 1 = 0 then (DW d 68 23 [xR 3, xI (iw (l1 + 1)), xI l2, xI l3, xI l3, xI 0] μ Q) else (DW d 68 23 [xR 3, xI l1, xI l2, xI l3, xI l3, xI 0] μ Q)) else (Q (xI l1) μ)) : DW d 68 6 [xR 3, xI l1, xI l2, xI l3, v4, v5] μ Q :=
  DW_wp (n := 400) (Nat.le_of_ble_eq_true rfl) h
set_option maxRecDepth 20000 in
theorem sg_Now_ringCount_23 {d : Nat} {l1 l2 l3 l4 l5 : Int} {μ : Mem} {Q : AV → Mem → Prop} (h : if l5 < μ 2 1 then (if xand (xshr l2 l4) 1 = 0 then (wb l4 6 (DW d 68 23 [xR 3, xI l1, xI (xior l2 (xshl 1 l4)), xI l3, xI (μ 23 l4.toNat), xI (iw (l5 + 1))] μ Q)) else (DW d 68 48 [xR 3, xI l1, xI l2, xI l3, xI l4, xI l5] μ Q)) else (DW d 68 48 [xR 3, xI l1, xI l2, xI l3, xI l4, xI l5] μ Q)) : DW d 68 23 [xR 3, xI l1, xI l2, xI l3, xI l4, xI l5] μ Q :=
  DW_wp (n := 400) (Nat.le_of_ble_eq_true rfl) h
set_option maxRecDepth 20000 in
theorem sg_Now_ringCount_48 {d : Nat} {l1 l2 l3 : Int} {v4 v5 : AV} {μ : Mem} {Q : AV → Mem → Prop} (h : DW d 68 6 [xR 3, xI l1, xI l2, xI (iw (l3 + 1)), v4, v5] μ Q) : DW d 68 48 [xR 3, xI l1, xI l2, xI l3, v4, v5] μ Q :=
  DW_wp (n := 400) (Nat.le_of_ble_eq_true rfl) h
set_option maxRecDepth 20000 in
theorem ge_X_mend {d : Nat} {p1 p2 : Int} {μ : Mem} {Q : AV → Mem → Prop} (h : if p1 < (-1) then (Q (xI (-3)) μ) else (if p2 < 0 then (Q (xI (-3)) μ) else (if 1 < p2 then (Q (xI (-3)) μ) else (GM (d + 1) 70 [xR 8] μ (gI (fun r2 m1 => if p1 = (-1) then (Q (xI r2) m1) else (if p1 < r2 then (if p2 = 0 then (wb p1 6 (Q (xI (m1 38 p1.toNat)) m1)) else (wb p1 6 (Q (xI (m1 39 p1.toNat)) m1))) else (Q (xI (-1)) m1)))))))) : GM (d + 2) 69 [xR 0, xI p1, xI p2] μ Q :=
  GM_wp (n := 400) (Nat.le_of_ble_eq_true rfl) (Nat.le_of_ble_eq_true rfl) rfl h
set_option maxRecDepth 20000 in
theorem ge_Mend_find {d : Nat} {μ : Mem} {Q : AV → Mem → Prop} (h : DW (d + 1) 70 11 [xR 8, xI 0, xL 0, xL 0] (xcpy μ 23 40 0 0 6) Q) : GM (d + 1) 70 [xR 8] μ Q :=
  GM_wp (n := 400) (Nat.le_of_ble_eq_true rfl) (Nat.le_of_ble_eq_true rfl) rfl h
set_option maxRecDepth 20000 in
theorem sg_Mend_find_11 {d : Nat} {l1 : Int} {v2 v3 : AV} {μ : Mem} {Q : AV → Mem → Prop} (h : if l1 < μ 2 1 then (wb l1 6 (if μ 40 l1.toNat = l1 then (DW (d + 1) 70 11 [xR 8, xI (iw (l1 + 1)), v2, v3] μ Q) else (wb l1 6 (wb (μ 21 l1.toNat) 5 (if μ 16 (μ 21 l1.toNat).toNat = 1 then (Q (xI (-1)) μ) else (DW (d + 1) 70 11 [xR 8, xI (iw (l1 + 1)), v2, v3] μ Q)))))) else (DW (d + 1) 70 33 [xR 8, xI l1, v2, v3] μ Q)) : DW (d + 1) 70 11 [xR 8, xI l1, v2, v3] μ Q :=
  DW_wp (n := 400) (Nat.le_of_ble_eq_true rfl) h
set_option maxRecDepth 20000 in
theorem sg_Mend_find_33 {d : Nat} {v1 v2 v3 : AV} {μ : Mem} {Q : AV → Mem → Prop} (h : DW (d + 1) 70 38 [xR 8, xI 0, xI 0, v3] μ Q) : DW (d + 1) 70 33 [xR 8, v1, v2, v3] μ Q :=
  DW_wp (n := 400) (Nat.le_of_ble_eq_true rfl) h
set_option maxRecDepth 20000 in
theorem sg_Mend_find_38 {d : Nat} {l1 l2 : Int} {v3 : AV} {μ : Mem} {Q : AV → Mem → Prop} (h : if l2 < μ 2 1 then (wb l2 6 (if μ 40 l2.toNat = l2 then (DW (d + 1) 70 38 [xR 8, xI l1, xI (iw (l2 + 1)), v3] μ Q) else (GM d 71 [xR 8, xI l2] μ (gI (fun r2 m1 => wb l1 6 (wb l1 6 (wb l2 6 (wb r2 6 (wb l2 6 (DW (d + 1) 70 38 [xR 8, xI (iw (l1 + 1)), xI (iw (l2 + 1)), xI r2] (xset (xset (xset (xset m1 38 l1.toNat l2) 39 l1.toNat r2) 40 r2.toNat (m1 40 l2.toNat)) 40 l2.toNat l2) Q)))))))))) else (Q (xI l1) μ)) : DW (d + 1) 70 38 [xR 8, xI l1, xI l2, v3] μ Q :=
  DW_wp (n := 400) (Nat.le_of_ble_eq_true rfl) h
set_option maxRecDepth 20000 in
theorem ge_Mend_placeOfOwn {d : Nat} {p1 : Int} {μ : Mem} {Q : AV → Mem → Prop} (h : DW d 71 2 [xR 8, xI p1, xI p1] μ Q) : GM d 71 [xR 8, xI p1] μ Q :=
  GM_wp (n := 400) (Nat.le_of_ble_eq_true rfl) (Nat.le_of_ble_eq_true rfl) rfl h
set_option maxRecDepth 20000 in
theorem sg_Mend_placeOfOwn_2 {d : Nat} {l1 l2 : Int} {μ : Mem} {Q : AV → Mem → Prop} (h : if l2 < μ 2 1 then (wb l2 6 (if μ 40 l2.toNat = l1 then (Q (xI l2) μ) else (DW d 71 2 [xR 8, xI l1, xI (iw (l2 + 1))] μ Q))) else (Q (xI l1) μ)) : DW d 71 2 [xR 8, xI l1, xI l2] μ Q :=
  DW_wp (n := 400) (Nat.le_of_ble_eq_true rfl) h
set_option maxRecDepth 20000 in
theorem ge_X_show {d : Nat} {p1 : Int} {μ : Mem} {Q : AV → Mem → Prop} (h : if p1 < 0 then (Q (xI (-2)) μ) else (if p1 < μ 2 0 then (GM (d + 2) 73 [xR 3, xI p1] μ (gI (fun r2 m1 => Q (xI r2) m1))) else (Q (xI (-2)) μ))) : GM (d + 3) 72 [xR 0, xI p1] μ Q :=
  GM_wp (n := 400) (Nat.le_of_ble_eq_true rfl) (Nat.le_of_ble_eq_true rfl) rfl h
set_option maxRecDepth 20000 in
theorem ge_Now_showable {d : Nat} {p1 : Int} {μ : Mem} {Q : AV → Mem → Prop} (h : DW (d + 2) 73 4 [xR 3, xI p1, xI 0, xI 0] μ Q) : GM (d + 2) 73 [xR 3, xI p1] μ Q :=
  GM_wp (n := 400) (Nat.le_of_ble_eq_true rfl) (Nat.le_of_ble_eq_true rfl) rfl h
set_option maxRecDepth 20000 in
theorem sg_Now_showable_4 {d : Nat} {l1 l2 l3 : Int} {μ : Mem} {Q : AV → Mem → Prop} (h : if l3 < μ 2 1 then (wb l3 6 (if μ 21 l3.toNat = l1 then (wb l3 6 (wb l3 6 (GM (d + 1) 52 [xR 3, xI (μ 23 l3.toNat), xI l3, xI (μ 19 l3.toNat)] μ (gI (fun r2 m1 => if r2 = 0 then (DW (d + 2) 73 4 [xR 3, xI l1, xI l2, xI (iw (l3 + 1))] m1 Q) else (DW (d + 2) 73 4 [xR 3, xI l1, xI (iw (l2 + 1)), xI (iw (l3 + 1))] m1 Q)))))) else (DW (d + 2) 73 4 [xR 3, xI l1, xI l2, xI (iw (l3 + 1))] μ Q))) else (Q (xI l2) μ)) : DW (d + 2) 73 4 [xR 3, xI l1, xI l2, xI l3] μ Q :=
  DW_wp (n := 400) (Nat.le_of_ble_eq_true rfl) h
set_option maxRecDepth 20000 in
theorem ge_X_plan {d : Nat} {p1 : Int} {μ : Mem} {Q : AV → Mem → Prop} (h : if p1 < 0 then (Q (xI (-3)) μ) else (if 1 < p1 then (Q (xI (-3)) μ) else (GM (d + 4) 75 [xR 9] μ (gV (fun m1 => if p1 = 0 then (Q (xI (m1 9 5)) m1) else (Q (xI (m1 9 6)) m1)))))) : GM (d + 5) 74 [xR 0, xI p1] μ Q :=
  GM_wp (n := 400) (Nat.le_of_ble_eq_true rfl) (Nat.le_of_ble_eq_true rfl) rfl h
set_option maxRecDepth 20000 in
theorem ge_Plan_find {d : Nat} {μ : Mem} {Q : AV → Mem → Prop} (h : GM (d + 3) 76 [xR 9] μ (gI (fun r2 m1 => GM (d + 3) 77 [xI r2] m1 (gI (fun r4 m3 => GM (d + 3) 78 [xR 9, xI r4] m3 (gV (fun m5 => DW (d + 4) 75 13 [xR 9, xI r2, xI (iw ((m5 2 2) - 1))] m5 Q))))))) : GM (d + 4) 75 [xR 9] μ Q :=
  GM_wp (n := 400) (Nat.le_of_ble_eq_true rfl) (Nat.le_of_ble_eq_true rfl) rfl h
set_option maxRecDepth 20000 in
theorem sg_Plan_find_13 {d : Nat} {l1 l2 : Int} {μ : Mem} {Q : AV → Mem → Prop} (h : if l2 < μ 3 1 then (DW (d + 4) 75 26 [xR 9, xI l1, xI l2] μ Q) else (GM (d + 3) 77 [xI l1] μ (gI (fun r2 m1 => GM (d + 3) 80 [xR 9, xI l2, xI r2] m1 (gV (fun m3 => DW (d + 4) 75 13 [xR 9, xI l1, xI (iw (l2 + (-1)))] m3 Q)))))) : DW (d + 4) 75 13 [xR 9, xI l1, xI l2] μ Q :=
  DW_wp (n := 400) (Nat.le_of_ble_eq_true rfl) h
set_option maxRecDepth 20000 in
theorem sg_Plan_find_26 {d : Nat} {l1 : Int} {v2 : AV} {μ : Mem} {Q : AV → Mem → Prop} (h : DW (d + 4) 75 34 [xR 9, xI l1, xI (μ 3 1)] (xset μ 9 6 0) Q) : DW (d + 4) 75 26 [xR 9, xI l1, v2] μ Q :=
  DW_wp (n := 400) (Nat.le_of_ble_eq_true rfl) h
set_option maxRecDepth 20000 in
theorem sg_Plan_find_34 {d : Nat} {l1 l2 : Int} {μ : Mem} {Q : AV → Mem → Prop} (h : if l2 < μ 2 2 then (GM (d + 3) 83 [xR 9, xI l2, xI l1] μ (gI (fun r2 m1 => DW (d + 4) 75 34 [xR 9, xI r2, xI (iw (l2 + 1))] m1 Q))) else (DW (d + 4) 75 47 [xR 9, xI l1, xI l2] μ Q)) : DW (d + 4) 75 34 [xR 9, xI l1, xI l2] μ Q :=
  DW_wp (n := 400) (Nat.le_of_ble_eq_true rfl) h
set_option maxRecDepth 20000 in
theorem sg_Plan_find_47 {d : Nat} {l1 : Int} {v2 : AV} {μ : Mem} {Q : AV → Mem → Prop} (h : GM (d + 3) 79 [xR 9] μ (gI (fun r2 m1 => GM (d + 3) 77 [xI (xand l1 r2)] m1 (gI (fun r4 m3 => Q (xI 0) (xset m3 9 5 r4)))))) : DW (d + 4) 75 47 [xR 9, xI l1, v2] μ Q :=
  DW_wp (n := 400) (Nat.le_of_ble_eq_true rfl) h
set_option maxRecDepth 20000 in
theorem ge_Plan_charmSet {d : Nat} {μ : Mem} {Q : AV → Mem → Prop} (h : DW (d + 1) 76 4 [xR 9, xI 0, xI 0] μ Q) : GM (d + 1) 76 [xR 9] μ Q :=
  GM_wp (n := 400) (Nat.le_of_ble_eq_true rfl) (Nat.le_of_ble_eq_true rfl) rfl h
set_option maxRecDepth 20000 in
theorem sg_Plan_charmSet_4 {d : Nat} {l1 l2 : Int} {μ : Mem} {Q : AV → Mem → Prop} (h : if l2 < μ 2 1 then (wb l2 6 (wb (μ 23 l2.toNat) 6 (if μ 17 (μ 23 l2.toNat).toNat = 0 then (DW (d + 1) 76 4 [xR 9, xI l1, xI (iw (l2 + 1))] μ Q) else (DW (d + 1) 76 4 [xR 9, xI (xior l1 (xshl 1 l2)), xI (iw (l2 + 1))] μ Q)))) else (Q (xI l1) μ)) : DW (d + 1) 76 4 [xR 9, xI l1, xI l2] μ Q :=
  DW_wp (n := 400) (Nat.le_of_ble_eq_true rfl) h
set_option maxRecDepth 20000 in
theorem ge_JInteger_bitCount {d : Nat} {p0 : Int} {μ : Mem} {Q : AV → Mem → Prop} (h : Q (xI (xand (iw ((iw ((xand (iw ((iw ((xand (iw (p0 - (xand (xushr p0 1) 1431655765))) 858993459) + (xand (xushr (iw (p0 - (xand (xushr p0 1) 1431655765))) 2) 858993459))) + (xushr (iw ((xand (iw (p0 - (xand (xushr p0 1) 1431655765))) 858993459) + (xand (xushr (iw (p0 - (xand (xushr p0 1) 1431655765))) 2) 858993459))) 4))) 252645135) + (xushr (xand (iw ((iw ((xand (iw (p0 - (xand (xushr p0 1) 1431655765))) 858993459) + (xand (xushr (iw (p0 - (xand (xushr p0 1) 1431655765))) 2) 858993459))) + (xushr (iw ((xand (iw (p0 - (xand (xushr p0 1) 1431655765))) 858993459) + (xand (xushr (iw (p0 - (xand (xushr p0 1) 1431655765))) 2) 858993459))) 4))) 252645135) 8))) + (xushr (iw ((xand (iw ((iw ((xand (iw (p0 - (xand (xushr p0 1) 1431655765))) 858993459) + (xand (xushr (iw (p0 - (xand (xushr p0 1) 1431655765))) 2) 858993459))) + (xushr (iw ((xand (iw (p0 - (xand (xushr p0 1) 1431655765))) 858993459) + (xand (xushr (iw (p0 - (xand (xushr p0 1) 1431655765))) 2) 858993459))) 4))) 252645135) + (xushr (xand (iw ((iw ((xand (iw (p0 - (xand (xushr p0 1) 1431655765))) 858993459) + (xand (xushr (iw (p0 - (xand (xushr p0 1) 1431655765))) 2) 858993459))) + (xushr (iw ((xand (iw (p0 - (xand (xushr p0 1) 1431655765))) 858993459) + (xand (xushr (iw (p0 - (xand (xushr p0 1) 1431655765))) 2) 858993459))) 4))) 252645135) 8))) 16))) 63)) μ) : GM d 77 [xI p0] μ Q :=
  GM_wp (n := 400) (Nat.le_of_ble_eq_true rfl) (Nat.le_of_ble_eq_true rfl) rfl h
set_option maxRecDepth 20000 in
theorem ge_Plan_weighEnds {d : Nat} {p1 : Int} {μ : Mem} {Q : AV → Mem → Prop} (h : GM (d + 1) 79 [xR 9] μ (gI (fun r2 m1 => DW (d + 2) 78 5 [xR 9, xI p1, xI r2, xI 0] m1 Q))) : GM (d + 2) 78 [xR 9, xI p1] μ Q :=
  GM_wp (n := 400) (Nat.le_of_ble_eq_true rfl) (Nat.le_of_ble_eq_true rfl) rfl h
set_option maxRecDepth 20000 in
theorem sg_Plan_weighEnds_5 {d : Nat} {l1 l2 l3 : Int} {μ : Mem} {Q : AV → Mem → Prop} (h : if l3 < 64 then (GM (d + 1) 77 [xI l3] μ (gI (fun r2 m1 => if r2 = l1 then (wb (m1 2 2) 7 (GM (d + 1) 77 [xI (xand l3 l2)] m1 (gI (fun r4 m3 => wb l3 64 (DW (d + 2) 78 5 [xR 9, xI l1, xI l2, xI (iw (l3 + 1))] (xset m3 (41 + 1 + (m1 2 2).toNat) l3.toNat (iw (16 * r4))) Q))))) else (DW (d + 2) 78 5 [xR 9, xI l1, xI l2, xI (iw (l3 + 1))] m1 Q)))) else (Q (xI 0) μ)) : DW (d + 2) 78 5 [xR 9, xI l1, xI l2, xI l3] μ Q :=
  DW_wp (n := 400) (Nat.le_of_ble_eq_true rfl) h
set_option maxRecDepth 20000 in
theorem ge_Plan_hostPlaces {d : Nat} {μ : Mem} {Q : AV → Mem → Prop} (h : DW (d + 1) 79 4 [xR 9, xI 0, xI 0] μ Q) : GM (d + 1) 79 [xR 9] μ Q :=
  GM_wp (n := 400) (Nat.le_of_ble_eq_true rfl) (Nat.le_of_ble_eq_true rfl) rfl h
set_option maxRecDepth 20000 in
theorem sg_Plan_hostPlaces_4 {d : Nat} {l1 l2 : Int} {μ : Mem} {Q : AV → Mem → Prop} (h : if l2 < μ 2 1 then (wb l2 6 (wb (μ 21 l2.toNat) 5 (if μ 16 (μ 21 l2.toNat).toNat = 3 then (DW (d + 1) 79 4 [xR 9, xI (xior l1 (xshl 1 l2)), xI (iw (l2 + 1))] μ Q) else (DW (d + 1) 79 4 [xR 9, xI l1, xI (iw (l2 + 1))] μ Q)))) else (Q (xI l1) μ)) : DW (d + 1) 79 4 [xR 9, xI l1, xI l2] μ Q :=
  DW_wp (n := 400) (Nat.le_of_ble_eq_true rfl) h
set_option maxRecDepth 20000 in
theorem ge_Plan_weighNight {d : Nat} {p1 p2 : Int} {μ : Mem} {Q : AV → Mem → Prop} (h : DW (d + 3) 80 2 [xR 9, xI p1, xI p2, xI 0, xL 0] μ Q) : GM (d + 3) 80 [xR 9, xI p1, xI p2] μ Q :=
  GM_wp (n := 400) (Nat.le_of_ble_eq_true rfl) (Nat.le_of_ble_eq_true rfl) rfl h
set_option maxRecDepth 20000 in
theorem sg_Plan_weighNight_2 {d : Nat} {l1 l2 l3 : Int} {v4 : AV} {μ : Mem} {Q : AV → Mem → Prop} (h : if l3 < 64 then (GM (d + 2) 77 [xI l3] μ (gI (fun r2 m1 => if r2 = l2 then (wb l1 7 (wb (iw (l1 + 1)) 7 (wb l3 64 (wb l3 64 (DW (d + 3) 80 2 [xR 9, xI l1, xI l2, xI (iw (l3 + 1)), v4] (xset m1 (41 + 1 + l1.toNat) l3.toNat (m1 (41 + 1 + (iw (l1 + 1)).toNat) l3.toNat)) Q))))) else (DW (d + 3) 80 2 [xR 9, xI l1, xI l2, xI (iw (l3 + 1)), v4] m1 Q)))) else (DW (d + 3) 80 26 [xR 9, xI l1, xI l2, xI l3, v4] μ Q)) : DW (d + 3) 80 2 [xR 9, xI l1, xI l2, xI l3, v4] μ Q :=
  DW_wp (n := 400) (Nat.le_of_ble_eq_true rfl) h
set_option maxRecDepth 20000 in
theorem sg_Plan_weighNight_26 {d : Nat} {l1 l2 : Int} {v3 v4 : AV} {μ : Mem} {Q : AV → Mem → Prop} (h : DW (d + 3) 80 29 [xR 9, xI l1, xI l2, xI 0, v4] μ Q) : DW (d + 3) 80 26 [xR 9, xI l1, xI l2, v3, v4] μ Q :=
  DW_wp (n := 400) (Nat.le_of_ble_eq_true rfl) h
set_option maxRecDepth 20000 in
theorem sg_Plan_weighNight_29 {d : Nat} {l1 l2 l3 : Int} {v4 : AV} {μ : Mem} {Q : AV → Mem → Prop} (h : if l3 < μ 2 1 then (DW (d + 3) 80 39 [xR 9, xI l1, xI l2, xI l3, xI (iw (l3 + 1))] μ Q) else (Q (xI 0) μ)) : DW (d + 3) 80 29 [xR 9, xI l1, xI l2, xI l3, v4] μ Q :=
  DW_wp (n := 400) (Nat.le_of_ble_eq_true rfl) h
set_option maxRecDepth 20000 in
theorem sg_Plan_weighNight_39 {d : Nat} {l1 l2 l3 l4 : Int} {μ : Mem} {Q : AV → Mem → Prop} (h : if l4 < μ 2 1 then (GM (d + 2) 57 [xR 2, xI l1, xI l3, xI l4] μ (gI (fun r2 m1 => if r2 = 0 then (DW (d + 3) 80 39 [xR 9, xI l1, xI l2, xI l3, xI (iw (l4 + 1))] m1 Q) else (GM (d + 2) 81 [xR 9, xI l1, xI l3, xI l4, xI l2] m1 (gV (fun m3 => DW (d + 3) 80 39 [xR 9, xI l1, xI l2, xI l3, xI (iw (l4 + 1))] m3 Q)))))) else (DW (d + 3) 80 60 [xR 9, xI l1, xI l2, xI l3, xI l4] μ Q)) : DW (d + 3) 80 39 [xR 9, xI l1, xI l2, xI l3, xI l4] μ Q :=
  DW_wp (n := 400) (Nat.le_of_ble_eq_true rfl) h
set_option maxRecDepth 20000 in
theorem sg_Plan_weighNight_60 {d : Nat} {l1 l2 l3 : Int} {v4 : AV} {μ : Mem} {Q : AV → Mem → Prop} (h : DW (d + 3) 80 29 [xR 9, xI l1, xI l2, xI (iw (l3 + 1)), v4] μ Q) : DW (d + 3) 80 60 [xR 9, xI l1, xI l2, xI l3, v4] μ Q :=
  DW_wp (n := 400) (Nat.le_of_ble_eq_true rfl) h
set_option maxRecDepth 20000 in
theorem ge_Plan_weighChange {d : Nat} {p1 p2 p3 p4 : Int} {μ : Mem} {Q : AV → Mem → Prop} (h : DW (d + 1) 81 2 [xR 9, xI p1, xI p2, xI p3, xI p4, xI 0, xL 0] μ Q) : GM (d + 1) 81 [xR 9, xI p1, xI p2, xI p3, xI p4] μ Q :=
  GM_wp (n := 400) (Nat.le_of_ble_eq_true rfl) (Nat.le_of_ble_eq_true rfl) rfl h
set_option maxRecDepth 20000 in
theorem sg_Plan_weighChange_2 {d : Nat} {l1 l2 l3 l4 l5 : Int} {v6 : AV} {μ : Mem} {Q : AV → Mem → Prop} (h : if l5 < 64 then (GM d 77 [xI l5] μ (gI (fun r2 m1 => if r2 = l4 then (wb (iw (l1 + 1)) 7 (wb (xxor l5 (xior (xshl (xand (xxor (xshr l5 l2) (xshr l5 l3)) 1) l2) (xshl (xand (xxor (xshr l5 l2) (xshr l5 l3)) 1) l3))) 64 (wb l1 7 (wb l1 7 (wb l5 64 (wb l5 64 (DW (d + 1) 81 2 [xR 9, xI l1, xI l2, xI l3, xI l4, xI (iw (l5 + 1)), xI (iw ((m1 (41 + 1 + (iw (l1 + 1)).toNat) (xxor l5 (xior (xshl (xand (xxor (xshr l5 l2) (xshr l5 l3)) 1) l2) (xshl (xand (xxor (xshr l5 l2) (xshr l5 l3)) 1) l3))).toNat) - 1))] (xset m1 (41 + 1 + l1.toNat) l5.toNat (max (m1 (41 + 1 + l1.toNat) l5.toNat) (iw ((m1 (41 + 1 + (iw (l1 + 1)).toNat) (xxor l5 (xior (xshl (xand (xxor (xshr l5 l2) (xshr l5 l3)) 1) l2) (xshl (xand (xxor (xshr l5 l2) (xshr l5 l3)) 1) l3))).toNat) - 1)))) Q))))))) else (DW (d + 1) 81 2 [xR 9, xI l1, xI l2, xI l3, xI l4, xI (iw (l5 + 1)), v6] m1 Q)))) else (Q (xI 0) μ)) : DW (d + 1) 81 2 [xR 9, xI l1, xI l2, xI l3, xI l4, xI l5, v6] μ Q :=
  DW_wp (n := 400) (Nat.le_of_ble_eq_true rfl) h
set_option maxRecDepth 20000 in
theorem ge_Plan_chooseChange {d : Nat} {p1 p2 : Int} {μ : Mem} {Q : AV → Mem → Prop} (h : wb p1 6 (wb p1 6 (wb (iw (p1 + 1)) 7 (wb p2 64 (wb p1 7 (wb p2 64 (if (xset (xset μ 49 p1.toNat (-1)) 50 p1.toNat (-1)) (41 + 1 + (iw (p1 + 1)).toNat) p2.toNat = (xset (xset μ 49 p1.toNat (-1)) 50 p1.toNat (-1)) (41 + 1 + p1.toNat) p2.toNat then (Q (xI p2) (xset (xset μ 49 p1.toNat (-1)) 50 p1.toNat (-1))) else (DW (d + 3) 83 29 [xR 9, xI p1, xI p2, xI 0, xL 0, xL 0] (xset (xset μ 49 p1.toNat (-1)) 50 p1.toNat (-1)) Q)))))))) : GM (d + 3) 83 [xR 9, xI p1, xI p2] μ Q :=
  GM_wp (n := 400) (Nat.le_of_ble_eq_true rfl) (Nat.le_of_ble_eq_true rfl) rfl h
set_option maxRecDepth 20000 in
theorem sg_Plan_chooseChange_29 {d : Nat} {l1 l2 l3 : Int} {v4 v5 : AV} {μ : Mem} {Q : AV → Mem → Prop} (h : if l3 < μ 2 1 then (DW (d + 3) 83 39 [xR 9, xI l1, xI l2, xI l3, xI (iw (l3 + 1)), v5] μ Q) else (Q (xI l2) μ)) : DW (d + 3) 83 29 [xR 9, xI l1, xI l2, xI l3, v4, v5] μ Q :=
  DW_wp (n := 400) (Nat.le_of_ble_eq_true rfl) h
set_option maxRecDepth 20000 in
theorem sg_Plan_chooseChange_39 {d : Nat} {l1 l2 l3 l4 : Int} {v5 : AV} {μ : Mem} {Q : AV → Mem → Prop} (h : if l4 < μ 2 1 then (GM (d + 2) 57 [xR 2, xI l1, xI l3, xI l4] μ (gI (fun r2 m1 => if r2 = 0 then (DW (d + 3) 83 39 [xR 9, xI l1, xI l2, xI l3, xI (iw (l4 + 1)), xI (xxor l2 (xior (xshl (xand (xxor (xshr l2 l3) (xshr l2 l4)) 1) l3) (xshl (xand (xxor (xshr l2 l3) (xshr l2 l4)) 1) l4)))] m1 Q) else (wb (iw (l1 + 1)) 7 (wb (xxor l2 (xior (xshl (xand (xxor (xshr l2 l3) (xshr l2 l4)) 1) l3) (xshl (xand (xxor (xshr l2 l3) (xshr l2 l4)) 1) l4))) 64 (wb l1 7 (wb l2 64 (if iw ((m1 (41 + 1 + (iw (l1 + 1)).toNat) (xxor l2 (xior (xshl (xand (xxor (xshr l2 l3) (xshr l2 l4)) 1) l3) (xshl (xand (xxor (xshr l2 l3) (xshr l2 l4)) 1) l4))).toNat) - 1) = m1 (41 + 1 + l1.toNat) l2.toNat then (wb l1 6 (wb l1 6 (Q (xI (xxor l2 (xior (xshl (xand (xxor (xshr l2 l3) (xshr l2 l4)) 1) l3) (xshl (xand (xxor (xshr l2 l3) (xshr l2 l4)) 1) l4)))) (xset (xset (xset m1 49 l1.toNat l3) 50 l1.toNat l4) 9 6 (iw ((m1 9 6) + 1)))))) else (DW (d + 3) 83 39 [xR 9, xI l1, xI l2, xI l3, xI (iw (l4 + 1)), xI (xxor l2 (xior (xshl (xand (xxor (xshr l2 l3) (xshr l2 l4)) 1) l3) (xshl (xand (xxor (xshr l2 l3) (xshr l2 l4)) 1) l4)))] m1 Q))))))))) else (DW (d + 3) 83 94 [xR 9, xI l1, xI l2, xI l3, xI l4, v5] μ Q)) : DW (d + 3) 83 39 [xR 9, xI l1, xI l2, xI l3, xI l4, v5] μ Q :=
  DW_wp (n := 400) (Nat.le_of_ble_eq_true rfl) h
set_option maxRecDepth 20000 in
theorem sg_Plan_chooseChange_94 {d : Nat} {l1 l2 l3 : Int} {v4 v5 : AV} {μ : Mem} {Q : AV → Mem → Prop} (h : DW (d + 3) 83 29 [xR 9, xI l1, xI l2, xI (iw (l3 + 1)), v4, v5] μ Q) : DW (d + 3) 83 94 [xR 9, xI l1, xI l2, xI l3, v4, v5] μ Q :=
  DW_wp (n := 400) (Nat.le_of_ble_eq_true rfl) h
set_option maxRecDepth 20000 in
theorem ge_X_planned {d : Nat} {p1 p2 : Int} {μ : Mem} {Q : AV → Mem → Prop} (h : if p1 < 0 then (Q (xI (-2)) μ) else (if p1 < μ 2 2 then (if p1 < μ 3 1 then (Q (xI (-2)) μ) else (if p2 < 0 then (Q (xI (-3)) μ) else (if 1 < p2 then (Q (xI (-3)) μ) else (GM (d + 4) 75 [xR 9] μ (gV (fun m1 => if p2 = 0 then (wb p1 6 (Q (xI (m1 49 p1.toNat)) m1)) else (wb p1 6 (Q (xI (m1 50 p1.toNat)) m1)))))))) else (Q (xI (-2)) μ))) : GM (d + 5) 84 [xR 0, xI p1, xI p2] μ Q :=
  GM_wp (n := 400) (Nat.le_of_ble_eq_true rfl) (Nat.le_of_ble_eq_true rfl) rfl h
set_option maxRecDepth 20000 in
theorem ge_X_seen {d : Nat} {p1 p2 p3 : Int} {μ : Mem} {Q : AV → Mem → Prop} (h : if p1 < 0 then (Q (xI (-2)) μ) else (if p1 < μ 2 1 then (if p2 < 0 then (Q (xI (-3)) μ) else (if p2 < 4 then (if p3 < 0 then (Q (xI (-3)) μ) else (if 1 < p3 then (Q (xI (-3)) μ) else (if p3 = 1 then (GM d 86 [xR 7, xI p1, xI p2, xI 1] μ (gI (fun r2 m1 => if r2 = 0 then (Q (xI (-5)) m1) else (Q (xI (m1 7 0)) m1)))) else (GM d 86 [xR 7, xI p1, xI p2, xI 0] μ (gI (fun r4 m3 => if r4 = 0 then (Q (xI (-5)) m3) else (Q (xI (m3 7 0)) m3))))))) else (Q (xI (-3)) μ))) else (Q (xI (-2)) μ))) : GM (d + 1) 85 [xR 0, xI p1, xI p2, xI p3] μ Q :=
  GM_wp (n := 400) (Nat.le_of_ble_eq_true rfl) (Nat.le_of_ble_eq_true rfl) rfl h
set_option maxRecDepth 20000 in
theorem ge_Seen_append {d : Nat} {p1 p2 p3 : Int} {μ : Mem} {Q : AV → Mem → Prop} (h : if μ 7 0 < 10 then (wb (μ 7 0) 10 (wb (μ 7 0) 10 (wb (μ 7 0) 10 (wb p3 2 (Q (xI 1) (xset (xset (xset (xset μ 35 ((μ 7 0).toNat) p1) 36 ((μ 7 0).toNat) p2) 37 ((μ 7 0).toNat) p3) 7 0 (iw ((μ 7 0) + 1)))))))) else (Q (xI 0) μ)) : GM d 86 [xR 7, xI p1, xI p2, xI p3] μ Q :=
  GM_wp (n := 400) (Nat.le_of_ble_eq_true rfl) (Nat.le_of_ble_eq_true rfl) rfl h
set_option maxRecDepth 20000 in
theorem ge_X_forget {d : Nat} {μ : Mem} {Q : AV → Mem → Prop} (h : Q (xI (μ 7 0)) (xset μ 7 0 0)) : GM d 87 [xR 0] μ Q :=
  GM_wp (n := 400) (Nat.le_of_ble_eq_true rfl) (Nat.le_of_ble_eq_true rfl) rfl h
set_option maxRecDepth 20000 in
theorem ge_X_fit {d : Nat} {μ : Mem} {Q : AV → Mem → Prop} (h : GM (d + 4) 89 [xR 10] μ (gV (fun m1 => Q (xI (m1 10 7)) m1))) : GM (d + 5) 88 [xR 0] μ Q :=
  GM_wp (n := 400) (Nat.le_of_ble_eq_true rfl) (Nat.le_of_ble_eq_true rfl) rfl h
set_option maxRecDepth 20000 in
theorem ge_Fits_weigh {d : Nat} {μ : Mem} {Q : AV → Mem → Prop} (h : DW (d + 4) 89 2 [xR 10, xI 0] μ Q) : GM (d + 4) 89 [xR 10] μ Q :=
  GM_wp (n := 400) (Nat.le_of_ble_eq_true rfl) (Nat.le_of_ble_eq_true rfl) rfl h
set_option maxRecDepth 20000 in
theorem sg_Fits_weigh_2 {d : Nat} {l1 : Int} {μ : Mem} {Q : AV → Mem → Prop} (h : if l1 < μ 2 1 then (GM (d + 3) 90 [xR 10, xI l1] μ (gI (fun r2 m1 => wb l1 6 (DW (d + 4) 89 2 [xR 10, xI (iw (l1 + 1))] (xset m1 51 l1.toNat r2) Q)))) else (DW (d + 4) 89 17 [xR 10, xI l1] μ Q)) : DW (d + 4) 89 2 [xR 10, xI l1] μ Q :=
  DW_wp (n := 400) (Nat.le_of_ble_eq_true rfl) h
set_option maxRecDepth 20000 in
theorem sg_Fits_weigh_17 {d : Nat} {v1 : AV} {μ : Mem} {Q : AV → Mem → Prop} (h : GM (d + 3) 92 [xR 10, xI (iw ((xshl 1 (μ 2 1)) - 1))] μ (gV (fun m1 => GM (d + 3) 93 [xR 10, xI (iw ((xshl 1 (μ 2 1)) - 1))] m1 (gV (fun m2 => GM (d + 3) 94 [xR 10, xI (iw ((xshl 1 (μ 2 1)) - 1))] (xset m2 10 7 (m2 53 0)) (gV (fun m3 => Q (xI 0) m3))))))) : DW (d + 4) 89 17 [xR 10, v1] μ Q :=
  DW_wp (n := 400) (Nat.le_of_ble_eq_true rfl) h
