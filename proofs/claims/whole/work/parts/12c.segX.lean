set_option maxRecDepth 20000 in
theorem ge_X_write {d : Nat} {p1 : Int} {μ : Mem} {Q : AV → Mem → Prop} (h : if p1 < 0 then (Q (xI (-3)) μ) else (if 255 < p1 then (Q (xI (-3)) μ) else (GM d 1 [xR 1, xI p1] μ (gI (fun r2 m1 => if r2 = 0 then (Q (xI (-5)) m1) else (Q (xI (m1 1 1)) m1)))))) : GM (d + 1) 0 [xR 0, xI p1] μ Q :=
  GM_wp (n := 400) (Nat.le_of_ble_eq_true rfl) (Nat.le_of_ble_eq_true rfl) rfl h
set_option maxRecDepth 20000 in
theorem ge_Text_append {d : Nat} {p1 : Int} {μ : Mem} {Q : AV → Mem → Prop} (h : if μ 1 1 < 160 then (wb (μ 1 1) 160 (Q (xI 1) (xset (xset μ 13 ((μ 1 1).toNat) p1) 1 1 (iw ((μ 1 1) + 1))))) else (Q (xI 0) μ)) : GM d 1 [xR 1, xI p1] μ Q :=
  GM_wp (n := 400) (Nat.le_of_ble_eq_true rfl) (Nat.le_of_ble_eq_true rfl) rfl h
set_option maxRecDepth 20000 in
theorem ge_X_erase {d : Nat} {μ : Mem} {Q : AV → Mem → Prop} (h : Q (xI (μ 1 1)) (xset μ 1 1 0)) : GM d 2 [xR 0] μ Q :=
  GM_wp (n := 400) (Nat.le_of_ble_eq_true rfl) (Nat.le_of_ble_eq_true rfl) rfl h
set_option maxRecDepth 20000 in
theorem ge_X_fault {d : Nat} {μ : Mem} {Q : AV → Mem → Prop} (h : GM (d + 6) 4 [xR 1, xI (μ 2 0), xI (μ 2 1), xI (μ 2 2)] μ (gI (fun r2 m1 => Q (xI r2) m1))) : GM (d + 7) 3 [xR 0] μ Q :=
  GM_wp (n := 400) (Nat.le_of_ble_eq_true rfl) (Nat.le_of_ble_eq_true rfl) rfl h
set_option maxRecDepth 20000 in
theorem ge_Text_read {d : Nat} {p1 p2 p3 : Int} {μ : Mem} {Q : AV → Mem → Prop} (h : DW (d + 6) 4 17 [xR 1, xI p1, xI p2, xI p3, xI 0, xL 0] (xset (xset (xset (xset (xset μ 1 7 p1) 1 8 p2) 1 9 p3) 1 4 0) 1 6 0) Q) : GM (d + 6) 4 [xR 1, xI p1, xI p2, xI p3] μ Q :=
  GM_wp (n := 400) (Nat.le_of_ble_eq_true rfl) (Nat.le_of_ble_eq_true rfl) rfl h
set_option maxRecDepth 20000 in
theorem sg_Text_read_17 {d : Nat} {l4 : Int} {v1 v2 v3 v5 : AV} {μ : Mem} {Q : AV → Mem → Prop} (h : if l4 < 14 then (GM (d + 5) 5 [xR 1] μ (gV (fun m1 => GM (d + 5) 8 [xR 1] m1 (gI (fun r3 m2 => if r3 = (-1) then (Q (xI (m2 1 5)) m2) else (GM (d + 5) 18 [xR 1, xI r3] m2 (gI (fun r5 m4 => if r5 = 0 then (Q (xI (m4 1 5)) m4) else (wb l4 14 (if r3 = 5 then (GM (d + 5) 22 [xR 1, xI l4, xR 111] (xset m4 14 l4.toNat r3) (gI (fun r31 m30 => if r31 = 0 then (Q (xI (m30 1 5)) m30) else (GM (d + 5) 25 [xR 1, xI r3] m30 (gV (fun m32 => GM (d + 5) 5 [xR 1] (xset m32 1 4 (iw (l4 + 1))) (gV (fun m33 => if m33 1 5 < m33 1 1 then (wb (m33 1 5) 160 (if m33 13 (m33 1 5).toNat = 59 then (DW (d + 6) 4 17 [xR 1, v1, v2, v3, xI (iw (l4 + 1)), xI r3] m33 Q) else (Q (xI (m33 1 5)) m33))) else (Q (xI (-1)) m33))))))))) else (if r3 = 6 then (GM (d + 5) 22 [xR 1, xI l4, xR 112] (xset m4 14 l4.toNat r3) (gI (fun r27 m26 => if r27 = 0 then (Q (xI (m26 1 5)) m26) else (GM (d + 5) 25 [xR 1, xI r3] m26 (gV (fun m28 => GM (d + 5) 5 [xR 1] (xset m28 1 4 (iw (l4 + 1))) (gV (fun m29 => if m29 1 5 < m29 1 1 then (wb (m29 1 5) 160 (if m29 13 (m29 1 5).toNat = 59 then (DW (d + 6) 4 17 [xR 1, v1, v2, v3, xI (iw (l4 + 1)), xI r3] m29 Q) else (Q (xI (m29 1 5)) m29))) else (Q (xI (-1)) m29))))))))) else (if r3 = 7 then (GM (d + 5) 22 [xR 1, xI l4, xR 113] (xset m4 14 l4.toNat r3) (gI (fun r23 m22 => if r23 = 0 then (Q (xI (m22 1 5)) m22) else (GM (d + 5) 25 [xR 1, xI r3] m22 (gV (fun m24 => GM (d + 5) 5 [xR 1] (xset m24 1 4 (iw (l4 + 1))) (gV (fun m25 => if m25 1 5 < m25 1 1 then (wb (m25 1 5) 160 (if m25 13 (m25 1 5).toNat = 59 then (DW (d + 6) 4 17 [xR 1, v1, v2, v3, xI (iw (l4 + 1)), xI r3] m25 Q) else (Q (xI (m25 1 5)) m25))) else (Q (xI (-1)) m25))))))))) else (if r3 = 8 then (GM (d + 5) 22 [xR 1, xI l4, xR 112] (xset m4 14 l4.toNat r3) (gI (fun r19 m18 => if r19 = 0 then (Q (xI (m18 1 5)) m18) else (GM (d + 5) 25 [xR 1, xI r3] m18 (gV (fun m20 => GM (d + 5) 5 [xR 1] (xset m20 1 4 (iw (l4 + 1))) (gV (fun m21 => if m21 1 5 < m21 1 1 then (wb (m21 1 5) 160 (if m21 13 (m21 1 5).toNat = 59 then (DW (d + 6) 4 17 [xR 1, v1, v2, v3, xI (iw (l4 + 1)), xI r3] m21 Q) else (Q (xI (m21 1 5)) m21))) else (Q (xI (-1)) m21))))))))) else (if r3 = 9 then (GM (d + 5) 22 [xR 1, xI l4, xR 114] (xset m4 14 l4.toNat r3) (gI (fun r15 m14 => if r15 = 0 then (Q (xI (m14 1 5)) m14) else (GM (d + 5) 25 [xR 1, xI r3] m14 (gV (fun m16 => GM (d + 5) 5 [xR 1] (xset m16 1 4 (iw (l4 + 1))) (gV (fun m17 => if m17 1 5 < m17 1 1 then (wb (m17 1 5) 160 (if m17 13 (m17 1 5).toNat = 59 then (DW (d + 6) 4 17 [xR 1, v1, v2, v3, xI (iw (l4 + 1)), xI r3] m17 Q) else (Q (xI (m17 1 5)) m17))) else (Q (xI (-1)) m17))))))))) else (if r3 = 10 then (GM (d + 5) 22 [xR 1, xI l4, xR 115] (xset m4 14 l4.toNat r3) (gI (fun r11 m10 => if r11 = 0 then (Q (xI (m10 1 5)) m10) else (GM (d + 5) 25 [xR 1, xI r3] m10 (gV (fun m12 => GM (d + 5) 5 [xR 1] (xset m12 1 4 (iw (l4 + 1))) (gV (fun m13 => if m13 1 5 < m13 1 1 then (wb (m13 1 5) 160 (if m13 13 (m13 1 5).toNat = 59 then (DW (d + 6) 4 17 [xR 1, v1, v2, v3, xI (iw (l4 + 1)), xI r3] m13 Q) else (Q (xI (m13 1 5)) m13))) else (Q (xI (-1)) m13))))))))) else (GM (d + 5) 22 [xR 1, xI l4, xR 116] (xset m4 14 l4.toNat r3) (gI (fun r7 m6 => if r7 = 0 then (Q (xI (m6 1 5)) m6) else (GM (d + 5) 25 [xR 1, xI r3] m6 (gV (fun m8 => GM (d + 5) 5 [xR 1] (xset m8 1 4 (iw (l4 + 1))) (gV (fun m9 => if m9 1 5 < m9 1 1 then (wb (m9 1 5) 160 (if m9 13 (m9 1 5).toNat = 59 then (DW (d + 6) 4 17 [xR 1, v1, v2, v3, xI (iw (l4 + 1)), xI r3] m9 Q) else (Q (xI (m9 1 5)) m9))) else (Q (xI (-1)) m9)))))))))))))))))))))))) else (Q (xI (μ 1 5)) μ)) : DW (d + 6) 4 17 [xR 1, v1, v2, v3, xI l4, v5] μ Q :=
  DW_wp (n := 400) (Nat.le_of_ble_eq_true rfl) h
set_option maxRecDepth 20000 in
theorem ge_Text_step {d : Nat} {μ : Mem} {Q : AV → Mem → Prop} (h : DW (d + 1) 5 4 [xR 1] (xset μ 1 5 (μ 1 6)) Q) : GM (d + 1) 5 [xR 1] μ Q :=
  GM_wp (n := 400) (Nat.le_of_ble_eq_true rfl) (Nat.le_of_ble_eq_true rfl) rfl h
set_option maxRecDepth 20000 in
theorem sg_Text_step_4 {d : Nat} {μ : Mem} {Q : AV → Mem → Prop} (h : if μ 1 5 < μ 1 1 then (wb (μ 1 5) 160 (if μ 13 (μ 1 5).toNat = 32 then (DW (d + 1) 5 4 [xR 1] (xset μ 1 5 (iw ((μ 1 5) + 1))) Q) else (DW (d + 1) 5 24 [xR 1] μ Q))) else (DW (d + 1) 5 24 [xR 1] μ Q)) : DW (d + 1) 5 4 [xR 1] μ Q :=
  DW_wp (n := 400) (Nat.le_of_ble_eq_true rfl) h
set_option maxRecDepth 20000 in
theorem sg_Text_step_24 {d : Nat} {μ : Mem} {Q : AV → Mem → Prop} (h : if μ 1 5 < μ 1 1 then (wb (μ 1 5) 160 (if μ 13 (μ 1 5).toNat < 97 then (wb (μ 1 5) 160 (if μ 13 (μ 1 5).toNat < 48 then (Q (xI 0) (xset (xset μ 1 6 (μ 1 5)) 1 6 (iw ((μ 1 5) + 1)))) else (if 57 < μ 13 (μ 1 5).toNat then (Q (xI 0) (xset (xset μ 1 6 (μ 1 5)) 1 6 (iw ((μ 1 5) + 1)))) else (DW (d + 1) 5 69 [xR 1] (xset μ 1 6 (μ 1 5)) Q)))) else (if 122 < μ 13 (μ 1 5).toNat then (wb (μ 1 5) 160 (if μ 13 (μ 1 5).toNat < 48 then (Q (xI 0) (xset (xset μ 1 6 (μ 1 5)) 1 6 (iw ((μ 1 5) + 1)))) else (if 57 < μ 13 (μ 1 5).toNat then (Q (xI 0) (xset (xset μ 1 6 (μ 1 5)) 1 6 (iw ((μ 1 5) + 1)))) else (DW (d + 1) 5 69 [xR 1] (xset μ 1 6 (μ 1 5)) Q)))) else (DW (d + 1) 5 42 [xR 1] (xset μ 1 6 (μ 1 5)) Q)))) else (Q (xI 0) (xset μ 1 6 (μ 1 5)))) : DW (d + 1) 5 24 [xR 1] μ Q :=
  DW_wp (n := 400) (Nat.le_of_ble_eq_true rfl) h
set_option maxRecDepth 20000 in
theorem sg_Text_step_42 {d : Nat} {μ : Mem} {Q : AV → Mem → Prop} (h : if μ 1 6 < μ 1 1 then (wb (μ 1 6) 160 (if μ 13 (μ 1 6).toNat < 97 then (Q (xI 0) μ) else (if 122 < μ 13 (μ 1 6).toNat then (Q (xI 0) μ) else (DW (d + 1) 5 42 [xR 1] (xset μ 1 6 (iw ((μ 1 6) + 1))) Q)))) else (Q (xI 0) μ)) : DW (d + 1) 5 42 [xR 1] μ Q :=
  DW_wp (n := 400) (Nat.le_of_ble_eq_true rfl) h
set_option maxRecDepth 20000 in
theorem sg_Text_step_69 {d : Nat} {μ : Mem} {Q : AV → Mem → Prop} (h : if μ 1 6 < μ 1 1 then (wb (μ 1 6) 160 (if μ 13 (μ 1 6).toNat < 48 then (Q (xI 0) μ) else (if 57 < μ 13 (μ 1 6).toNat then (Q (xI 0) μ) else (DW (d + 1) 5 69 [xR 1] (xset μ 1 6 (iw ((μ 1 6) + 1))) Q)))) else (Q (xI 0) μ)) : DW (d + 1) 5 69 [xR 1] μ Q :=
  DW_wp (n := 400) (Nat.le_of_ble_eq_true rfl) h
set_option maxRecDepth 20000 in
theorem ge_Text_wordHere {d : Nat} {μ : Mem} {Q : AV → Mem → Prop} (h : DW (d + 5) 8 2 [xR 1, xI 0] μ Q) : GM (d + 5) 8 [xR 1] μ Q :=
  GM_wp (n := 400) (Nat.le_of_ble_eq_true rfl) (Nat.le_of_ble_eq_true rfl) rfl h
set_option maxRecDepth 20000 in
theorem sg_Text_wordHere_2 {d : Nat} {l1 : Int} {μ : Mem} {Q : AV → Mem → Prop} (h : if l1 < 11 then (if l1 = 0 then (GM (d + 4) 10 [xR 1, xR 100] μ (gI (fun r22 m21 => if r22 = 0 then (DW (d + 5) 8 2 [xR 1, xI (iw (l1 + 1))] m21 Q) else (Q (xI l1) m21)))) else (if l1 = 1 then (GM (d + 4) 10 [xR 1, xR 101] μ (gI (fun r20 m19 => if r20 = 0 then (DW (d + 5) 8 2 [xR 1, xI (iw (l1 + 1))] m19 Q) else (Q (xI l1) m19)))) else (if l1 = 2 then (GM (d + 4) 10 [xR 1, xR 102] μ (gI (fun r18 m17 => if r18 = 0 then (DW (d + 5) 8 2 [xR 1, xI (iw (l1 + 1))] m17 Q) else (Q (xI l1) m17)))) else (if l1 = 3 then (GM (d + 4) 10 [xR 1, xR 103] μ (gI (fun r16 m15 => if r16 = 0 then (DW (d + 5) 8 2 [xR 1, xI (iw (l1 + 1))] m15 Q) else (Q (xI l1) m15)))) else (if l1 = 4 then (GM (d + 4) 10 [xR 1, xR 104] μ (gI (fun r14 m13 => if r14 = 0 then (DW (d + 5) 8 2 [xR 1, xI (iw (l1 + 1))] m13 Q) else (Q (xI l1) m13)))) else (if l1 = 5 then (GM (d + 4) 10 [xR 1, xR 105] μ (gI (fun r12 m11 => if r12 = 0 then (DW (d + 5) 8 2 [xR 1, xI (iw (l1 + 1))] m11 Q) else (Q (xI l1) m11)))) else (if l1 = 6 then (GM (d + 4) 10 [xR 1, xR 106] μ (gI (fun r10 m9 => if r10 = 0 then (DW (d + 5) 8 2 [xR 1, xI (iw (l1 + 1))] m9 Q) else (Q (xI l1) m9)))) else (if l1 = 7 then (GM (d + 4) 10 [xR 1, xR 107] μ (gI (fun r8 m7 => if r8 = 0 then (DW (d + 5) 8 2 [xR 1, xI (iw (l1 + 1))] m7 Q) else (Q (xI l1) m7)))) else (if l1 = 8 then (GM (d + 4) 10 [xR 1, xR 108] μ (gI (fun r6 m5 => if r6 = 0 then (DW (d + 5) 8 2 [xR 1, xI (iw (l1 + 1))] m5 Q) else (Q (xI l1) m5)))) else (if l1 = 9 then (GM (d + 4) 10 [xR 1, xR 109] μ (gI (fun r4 m3 => if r4 = 0 then (DW (d + 5) 8 2 [xR 1, xI (iw (l1 + 1))] m3 Q) else (Q (xI l1) m3)))) else (GM (d + 4) 10 [xR 1, xR 110] μ (gI (fun r2 m1 => if r2 = 0 then (DW (d + 5) 8 2 [xR 1, xI (iw (l1 + 1))] m1 Q) else (Q (xI l1) m1)))))))))))))) else (Q (xI (-1)) μ)) : DW (d + 5) 8 2 [xR 1, xI l1] μ Q :=
  DW_wp (n := 400) (Nat.le_of_ble_eq_true rfl) h
set_option maxRecDepth 20000 in
theorem ge_Text_standsHere_1_100 {d : Nat} {μ : Mem} {Q : AV → Mem → Prop} (h : if iw ((μ 1 6) - (μ 1 5)) = 3 then (DW (d + 4) 10 12 [xR 1, xR 100, xI 0] μ Q) else (Q (xI 0) μ)) : GM (d + 4) 10 [xR 1, xR 100] μ Q :=
  GM_wp (n := 400) (Nat.le_of_ble_eq_true rfl) (Nat.le_of_ble_eq_true rfl) rfl h
set_option maxRecDepth 20000 in
theorem sg_Text_standsHere_1_100_12 {d : Nat} {l2 : Int} {μ : Mem} {Q : AV → Mem → Prop} (h : if l2 < 3 then (if iw ((μ 1 5) + l2) < μ 1 1 then (wb (iw ((μ 1 5) + l2)) 160 (if l2 < 0 then False else (if l2 < 3 then (wb l2 3 (wb (xi2c (xand (([105, 110, 110] : List Int).getD l2.toNat 0) 255)) 65536 (wb (xi2c (xand (([105, 110, 110] : List Int).getD l2.toNat 0) 255)) 65536 (if μ 13 (iw ((μ 1 5) + l2)).toNat = xi2c (xand (([105, 110, 110] : List Int).getD l2.toNat 0) 255) then (DW (d + 4) 10 12 [xR 1, xR 100, xI (iw (l2 + 1))] μ Q) else (Q (xI 0) μ))))) else False))) else (Q (xI 1) μ)) else (Q (xI 1) μ)) : DW (d + 4) 10 12 [xR 1, xR 100, xI l2] μ Q :=
  DW_wp (n := 400) (Nat.le_of_ble_eq_true rfl) h
set_option maxRecDepth 20000 in
theorem ge_Text_standsHere_1_101 {d : Nat} {μ : Mem} {Q : AV → Mem → Prop} (h : if iw ((μ 1 6) - (μ 1 5)) = 5 then (DW (d + 4) 10 12 [xR 1, xR 101, xI 0] μ Q) else (Q (xI 0) μ)) : GM (d + 4) 10 [xR 1, xR 101] μ Q :=
  GM_wp (n := 400) (Nat.le_of_ble_eq_true rfl) (Nat.le_of_ble_eq_true rfl) rfl h
set_option maxRecDepth 20000 in
theorem sg_Text_standsHere_1_101_12 {d : Nat} {l2 : Int} {μ : Mem} {Q : AV → Mem → Prop} (h : if l2 < 5 then (if iw ((μ 1 5) + l2) < μ 1 1 then (wb (iw ((μ 1 5) + l2)) 160 (if l2 < 0 then False else (if l2 < 5 then (wb l2 5 (wb (xi2c (xand (([103, 117, 101, 115, 116] : List Int).getD l2.toNat 0) 255)) 65536 (wb (xi2c (xand (([103, 117, 101, 115, 116] : List Int).getD l2.toNat 0) 255)) 65536 (if μ 13 (iw ((μ 1 5) + l2)).toNat = xi2c (xand (([103, 117, 101, 115, 116] : List Int).getD l2.toNat 0) 255) then (DW (d + 4) 10 12 [xR 1, xR 101, xI (iw (l2 + 1))] μ Q) else (Q (xI 0) μ))))) else False))) else (Q (xI 1) μ)) else (Q (xI 1) μ)) : DW (d + 4) 10 12 [xR 1, xR 101, xI l2] μ Q :=
  DW_wp (n := 400) (Nat.le_of_ble_eq_true rfl) h
set_option maxRecDepth 20000 in
theorem ge_Text_standsHere_1_102 {d : Nat} {μ : Mem} {Q : AV → Mem → Prop} (h : if iw ((μ 1 6) - (μ 1 5)) = 7 then (DW (d + 4) 10 12 [xR 1, xR 102, xI 0] μ Q) else (Q (xI 0) μ)) : GM (d + 4) 10 [xR 1, xR 102] μ Q :=
  GM_wp (n := 400) (Nat.le_of_ble_eq_true rfl) (Nat.le_of_ble_eq_true rfl) rfl h
set_option maxRecDepth 20000 in
theorem sg_Text_standsHere_1_102_12 {d : Nat} {l2 : Int} {μ : Mem} {Q : AV → Mem → Prop} (h : if l2 < 7 then (if iw ((μ 1 5) + l2) < μ 1 1 then (wb (iw ((μ 1 5) + l2)) 160 (if l2 < 0 then False else (if l2 < 7 then (wb l2 7 (wb (xi2c (xand (([119, 97, 116, 99, 104, 101, 114] : List Int).getD l2.toNat 0) 255)) 65536 (wb (xi2c (xand (([119, 97, 116, 99, 104, 101, 114] : List Int).getD l2.toNat 0) 255)) 65536 (if μ 13 (iw ((μ 1 5) + l2)).toNat = xi2c (xand (([119, 97, 116, 99, 104, 101, 114] : List Int).getD l2.toNat 0) 255) then (DW (d + 4) 10 12 [xR 1, xR 102, xI (iw (l2 + 1))] μ Q) else (Q (xI 0) μ))))) else False))) else (Q (xI 1) μ)) else (Q (xI 1) μ)) : DW (d + 4) 10 12 [xR 1, xR 102, xI l2] μ Q :=
  DW_wp (n := 400) (Nat.le_of_ble_eq_true rfl) h
set_option maxRecDepth 20000 in
theorem ge_Text_standsHere_1_103 {d : Nat} {μ : Mem} {Q : AV → Mem → Prop} (h : if iw ((μ 1 6) - (μ 1 5)) = 6 then (DW (d + 4) 10 12 [xR 1, xR 103, xI 0] μ Q) else (Q (xI 0) μ)) : GM (d + 4) 10 [xR 1, xR 103] μ Q :=
  GM_wp (n := 400) (Nat.le_of_ble_eq_true rfl) (Nat.le_of_ble_eq_true rfl) rfl h
set_option maxRecDepth 20000 in
theorem sg_Text_standsHere_1_103_12 {d : Nat} {l2 : Int} {μ : Mem} {Q : AV → Mem → Prop} (h : if l2 < 6 then (if iw ((μ 1 5) + l2) < μ 1 1 then (wb (iw ((μ 1 5) + l2)) 160 (if l2 < 0 then False else (if l2 < 6 then (wb l2 6 (wb (xi2c (xand (([108, 101, 110, 100, 101, 114] : List Int).getD l2.toNat 0) 255)) 65536 (wb (xi2c (xand (([108, 101, 110, 100, 101, 114] : List Int).getD l2.toNat 0) 255)) 65536 (if μ 13 (iw ((μ 1 5) + l2)).toNat = xi2c (xand (([108, 101, 110, 100, 101, 114] : List Int).getD l2.toNat 0) 255) then (DW (d + 4) 10 12 [xR 1, xR 103, xI (iw (l2 + 1))] μ Q) else (Q (xI 0) μ))))) else False))) else (Q (xI 1) μ)) else (Q (xI 1) μ)) : DW (d + 4) 10 12 [xR 1, xR 103, xI l2] μ Q :=
  DW_wp (n := 400) (Nat.le_of_ble_eq_true rfl) h
set_option maxRecDepth 20000 in
theorem ge_Text_standsHere_1_104 {d : Nat} {μ : Mem} {Q : AV → Mem → Prop} (h : if iw ((μ 1 6) - (μ 1 5)) = 4 then (DW (d + 4) 10 12 [xR 1, xR 104, xI 0] μ Q) else (Q (xI 0) μ)) : GM (d + 4) 10 [xR 1, xR 104] μ Q :=
  GM_wp (n := 400) (Nat.le_of_ble_eq_true rfl) (Nat.le_of_ble_eq_true rfl) rfl h
set_option maxRecDepth 20000 in
theorem sg_Text_standsHere_1_104_12 {d : Nat} {l2 : Int} {μ : Mem} {Q : AV → Mem → Prop} (h : if l2 < 4 then (if iw ((μ 1 5) + l2) < μ 1 1 then (wb (iw ((μ 1 5) + l2)) 160 (if l2 < 0 then False else (if l2 < 4 then (wb l2 4 (wb (xi2c (xand (([104, 111, 115, 116] : List Int).getD l2.toNat 0) 255)) 65536 (wb (xi2c (xand (([104, 111, 115, 116] : List Int).getD l2.toNat 0) 255)) 65536 (if μ 13 (iw ((μ 1 5) + l2)).toNat = xi2c (xand (([104, 111, 115, 116] : List Int).getD l2.toNat 0) 255) then (DW (d + 4) 10 12 [xR 1, xR 104, xI (iw (l2 + 1))] μ Q) else (Q (xI 0) μ))))) else False))) else (Q (xI 1) μ)) else (Q (xI 1) μ)) : DW (d + 4) 10 12 [xR 1, xR 104, xI l2] μ Q :=
  DW_wp (n := 400) (Nat.le_of_ble_eq_true rfl) h
set_option maxRecDepth 20000 in
theorem ge_Text_standsHere_1_105 {d : Nat} {μ : Mem} {Q : AV → Mem → Prop} (h : if iw ((μ 1 6) - (μ 1 5)) = 4 then (DW (d + 4) 10 12 [xR 1, xR 105, xI 0] μ Q) else (Q (xI 0) μ)) : GM (d + 4) 10 [xR 1, xR 105] μ Q :=
  GM_wp (n := 400) (Nat.le_of_ble_eq_true rfl) (Nat.le_of_ble_eq_true rfl) rfl h
set_option maxRecDepth 20000 in
theorem sg_Text_standsHere_1_105_12 {d : Nat} {l2 : Int} {μ : Mem} {Q : AV → Mem → Prop} (h : if l2 < 4 then (if iw ((μ 1 5) + l2) < μ 1 1 then (wb (iw ((μ 1 5) + l2)) 160 (if l2 < 0 then False else (if l2 < 4 then (wb l2 4 (wb (xi2c (xand (([100, 117, 108, 108] : List Int).getD l2.toNat 0) 255)) 65536 (wb (xi2c (xand (([100, 117, 108, 108] : List Int).getD l2.toNat 0) 255)) 65536 (if μ 13 (iw ((μ 1 5) + l2)).toNat = xi2c (xand (([100, 117, 108, 108] : List Int).getD l2.toNat 0) 255) then (DW (d + 4) 10 12 [xR 1, xR 105, xI (iw (l2 + 1))] μ Q) else (Q (xI 0) μ))))) else False))) else (Q (xI 1) μ)) else (Q (xI 1) μ)) : DW (d + 4) 10 12 [xR 1, xR 105, xI l2] μ Q :=
  DW_wp (n := 400) (Nat.le_of_ble_eq_true rfl) h
set_option maxRecDepth 20000 in
theorem ge_Text_standsHere_1_106 {d : Nat} {μ : Mem} {Q : AV → Mem → Prop} (h : if iw ((μ 1 6) - (μ 1 5)) = 4 then (DW (d + 4) 10 12 [xR 1, xR 106, xI 0] μ Q) else (Q (xI 0) μ)) : GM (d + 4) 10 [xR 1, xR 106] μ Q :=
  GM_wp (n := 400) (Nat.le_of_ble_eq_true rfl) (Nat.le_of_ble_eq_true rfl) rfl h
set_option maxRecDepth 20000 in
theorem sg_Text_standsHere_1_106_12 {d : Nat} {l2 : Int} {μ : Mem} {Q : AV → Mem → Prop} (h : if l2 < 4 then (if iw ((μ 1 5) + l2) < μ 1 1 then (wb (iw ((μ 1 5) + l2)) 160 (if l2 < 0 then False else (if l2 < 4 then (wb l2 4 (wb (xi2c (xand (([116, 114, 117, 101] : List Int).getD l2.toNat 0) 255)) 65536 (wb (xi2c (xand (([116, 114, 117, 101] : List Int).getD l2.toNat 0) 255)) 65536 (if μ 13 (iw ((μ 1 5) + l2)).toNat = xi2c (xand (([116, 114, 117, 101] : List Int).getD l2.toNat 0) 255) then (DW (d + 4) 10 12 [xR 1, xR 106, xI (iw (l2 + 1))] μ Q) else (Q (xI 0) μ))))) else False))) else (Q (xI 1) μ)) else (Q (xI 1) μ)) : DW (d + 4) 10 12 [xR 1, xR 106, xI l2] μ Q :=
  DW_wp (n := 400) (Nat.le_of_ble_eq_true rfl) h
set_option maxRecDepth 20000 in
theorem ge_Text_standsHere_1_107 {d : Nat} {μ : Mem} {Q : AV → Mem → Prop} (h : if iw ((μ 1 6) - (μ 1 5)) = 6 then (DW (d + 4) 10 12 [xR 1, xR 107, xI 0] μ Q) else (Q (xI 0) μ)) : GM (d + 4) 10 [xR 1, xR 107] μ Q :=
  GM_wp (n := 400) (Nat.le_of_ble_eq_true rfl) (Nat.le_of_ble_eq_true rfl) rfl h
set_option maxRecDepth 20000 in
theorem sg_Text_standsHere_1_107_12 {d : Nat} {l2 : Int} {μ : Mem} {Q : AV → Mem → Prop} (h : if l2 < 6 then (if iw ((μ 1 5) + l2) < μ 1 1 then (wb (iw ((μ 1 5) + l2)) 160 (if l2 < 0 then False else (if l2 < 6 then (wb l2 6 (wb (xi2c (xand (([102, 97, 100, 105, 110, 103] : List Int).getD l2.toNat 0) 255)) 65536 (wb (xi2c (xand (([102, 97, 100, 105, 110, 103] : List Int).getD l2.toNat 0) 255)) 65536 (if μ 13 (iw ((μ 1 5) + l2)).toNat = xi2c (xand (([102, 97, 100, 105, 110, 103] : List Int).getD l2.toNat 0) 255) then (DW (d + 4) 10 12 [xR 1, xR 107, xI (iw (l2 + 1))] μ Q) else (Q (xI 0) μ))))) else False))) else (Q (xI 1) μ)) else (Q (xI 1) μ)) : DW (d + 4) 10 12 [xR 1, xR 107, xI l2] μ Q :=
  DW_wp (n := 400) (Nat.le_of_ble_eq_true rfl) h
set_option maxRecDepth 20000 in
theorem ge_Text_standsHere_1_108 {d : Nat} {μ : Mem} {Q : AV → Mem → Prop} (h : if iw ((μ 1 6) - (μ 1 5)) = 5 then (DW (d + 4) 10 12 [xR 1, xR 108, xI 0] μ Q) else (Q (xI 0) μ)) : GM (d + 4) 10 [xR 1, xR 108] μ Q :=
  GM_wp (n := 400) (Nat.le_of_ble_eq_true rfl) (Nat.le_of_ble_eq_true rfl) rfl h
set_option maxRecDepth 20000 in
theorem sg_Text_standsHere_1_108_12 {d : Nat} {l2 : Int} {μ : Mem} {Q : AV → Mem → Prop} (h : if l2 < 5 then (if iw ((μ 1 5) + l2) < μ 1 1 then (wb (iw ((μ 1 5) + l2)) 160 (if l2 < 0 then False else (if l2 < 5 then (wb l2 5 (wb (xi2c (xand (([109, 111, 111, 100, 121] : List Int).getD l2.toNat 0) 255)) 65536 (wb (xi2c (xand (([109, 111, 111, 100, 121] : List Int).getD l2.toNat 0) 255)) 65536 (if μ 13 (iw ((μ 1 5) + l2)).toNat = xi2c (xand (([109, 111, 111, 100, 121] : List Int).getD l2.toNat 0) 255) then (DW (d + 4) 10 12 [xR 1, xR 108, xI (iw (l2 + 1))] μ Q) else (Q (xI 0) μ))))) else False))) else (Q (xI 1) μ)) else (Q (xI 1) μ)) : DW (d + 4) 10 12 [xR 1, xR 108, xI l2] μ Q :=
  DW_wp (n := 400) (Nat.le_of_ble_eq_true rfl) h
set_option maxRecDepth 20000 in
theorem ge_Text_standsHere_1_109 {d : Nat} {μ : Mem} {Q : AV → Mem → Prop} (h : if iw ((μ 1 6) - (μ 1 5)) = 5 then (DW (d + 4) 10 12 [xR 1, xR 109, xI 0] μ Q) else (Q (xI 0) μ)) : GM (d + 4) 10 [xR 1, xR 109] μ Q :=
  GM_wp (n := 400) (Nat.le_of_ble_eq_true rfl) (Nat.le_of_ble_eq_true rfl) rfl h
set_option maxRecDepth 20000 in
theorem sg_Text_standsHere_1_109_12 {d : Nat} {l2 : Int} {μ : Mem} {Q : AV → Mem → Prop} (h : if l2 < 5 then (if iw ((μ 1 5) + l2) < μ 1 1 then (wb (iw ((μ 1 5) + l2)) 160 (if l2 < 0 then False else (if l2 < 5 then (wb l2 5 (wb (xi2c (xand (([110, 105, 103, 104, 116] : List Int).getD l2.toNat 0) 255)) 65536 (wb (xi2c (xand (([110, 105, 103, 104, 116] : List Int).getD l2.toNat 0) 255)) 65536 (if μ 13 (iw ((μ 1 5) + l2)).toNat = xi2c (xand (([110, 105, 103, 104, 116] : List Int).getD l2.toNat 0) 255) then (DW (d + 4) 10 12 [xR 1, xR 109, xI (iw (l2 + 1))] μ Q) else (Q (xI 0) μ))))) else False))) else (Q (xI 1) μ)) else (Q (xI 1) μ)) : DW (d + 4) 10 12 [xR 1, xR 109, xI l2] μ Q :=
  DW_wp (n := 400) (Nat.le_of_ble_eq_true rfl) h
set_option maxRecDepth 20000 in
theorem ge_Text_standsHere_1_110 {d : Nat} {μ : Mem} {Q : AV → Mem → Prop} (h : if iw ((μ 1 6) - (μ 1 5)) = 5 then (DW (d + 4) 10 12 [xR 1, xR 110, xI 0] μ Q) else (Q (xI 0) μ)) : GM (d + 4) 10 [xR 1, xR 110] μ Q :=
  GM_wp (n := 400) (Nat.le_of_ble_eq_true rfl) (Nat.le_of_ble_eq_true rfl) rfl h
set_option maxRecDepth 20000 in
theorem sg_Text_standsHere_1_110_12 {d : Nat} {l2 : Int} {μ : Mem} {Q : AV → Mem → Prop} (h : if l2 < 5 then (if iw ((μ 1 5) + l2) < μ 1 1 then (wb (iw ((μ 1 5) + l2)) 160 (if l2 < 0 then False else (if l2 < 5 then (wb l2 5 (wb (xi2c (xand (([112, 111, 119, 101, 114] : List Int).getD l2.toNat 0) 255)) 65536 (wb (xi2c (xand (([112, 111, 119, 101, 114] : List Int).getD l2.toNat 0) 255)) 65536 (if μ 13 (iw ((μ 1 5) + l2)).toNat = xi2c (xand (([112, 111, 119, 101, 114] : List Int).getD l2.toNat 0) 255) then (DW (d + 4) 10 12 [xR 1, xR 110, xI (iw (l2 + 1))] μ Q) else (Q (xI 0) μ))))) else False))) else (Q (xI 1) μ)) else (Q (xI 1) μ)) : DW (d + 4) 10 12 [xR 1, xR 110, xI l2] μ Q :=
  DW_wp (n := 400) (Nat.le_of_ble_eq_true rfl) h
set_option maxRecDepth 20000 in
theorem ge_Text_hasRoom {d : Nat} {p1 : Int} {μ : Mem} {Q : AV → Mem → Prop} (h : if p1 < 1 then (if p1 < 5 then (if p1 = 9 then (if μ 1 9 < 6 then (Q (xI 1) μ) else (Q (xI 0) μ)) else (Q (xI 1) μ)) else (if 8 < p1 then (if p1 = 9 then (if μ 1 9 < 6 then (Q (xI 1) μ) else (Q (xI 0) μ)) else (Q (xI 1) μ)) else (if μ 1 8 < 6 then (Q (xI 1) μ) else (Q (xI 0) μ)))) else (if 4 < p1 then (if p1 < 5 then (if p1 = 9 then (if μ 1 9 < 6 then (Q (xI 1) μ) else (Q (xI 0) μ)) else (Q (xI 1) μ)) else (if 8 < p1 then (if p1 = 9 then (if μ 1 9 < 6 then (Q (xI 1) μ) else (Q (xI 0) μ)) else (Q (xI 1) μ)) else (if μ 1 8 < 6 then (Q (xI 1) μ) else (Q (xI 0) μ)))) else (if μ 1 7 < 5 then (Q (xI 1) μ) else (Q (xI 0) μ)))) : GM (d + 1) 18 [xR 1, xI p1] μ Q :=
  GM_wp (n := 400) (Nat.le_of_ble_eq_true rfl) (Nat.le_of_ble_eq_true rfl) rfl h
set_option maxRecDepth 20000 in
theorem ge_Text_readNumbers_1_111 {d : Nat} {p1 : Int} {μ : Mem} {Q : AV → Mem → Prop} (h : DW (d + 4) 22 2 [xR 1, xI p1, xR 111, xI 0, xL 0] μ Q) : GM (d + 4) 22 [xR 1, xI p1, xR 111] μ Q :=
  GM_wp (n := 400) (Nat.le_of_ble_eq_true rfl) (Nat.le_of_ble_eq_true rfl) rfl h
set_option maxRecDepth 20000 in
theorem sg_Text_readNumbers_1_111_2 {d : Nat} {l1 l3 : Int} {v4 : AV} {μ : Mem} {Q : AV → Mem → Prop} (h : if l3 < 2 then (if l3 < 4 then (GM (d + 3) 5 [xR 1] μ (gV (fun m1 => GM (d + 3) 23 [xR 1] m1 (gI (fun r3 m2 => if r3 = (-1) then (Q (xI 0) m2) else (if l3 < 0 then False else (if l3 < 2 then (wb l3 2 (wb (xi2c (xand (([76, 75] : List Int).getD l3.toNat 0) 255)) 65536 (wb (xi2c (xand (([76, 75] : List Int).getD l3.toNat 0) 255)) 65536 (GM (d + 3) 24 [xR 1, xI (xi2c (xand (([76, 75] : List Int).getD l3.toNat 0) 255))] m2 (gI (fun r5 m4 => if r3 < r5 then (wb (iw ((iw (l1 * 4)) + l3)) 56 (DW (d + 4) 22 2 [xR 1, xI l1, xR 111, xI (iw (l3 + 1)), xI r3] (xset m4 15 ((iw ((iw (l1 * 4)) + l3)).toNat) r3) Q)) else (Q (xI 0) m4))))))) else False))))))) else (Q (xI 1) μ)) else (Q (xI 1) μ)) : DW (d + 4) 22 2 [xR 1, xI l1, xR 111, xI l3, v4] μ Q :=
  DW_wp (n := 400) (Nat.le_of_ble_eq_true rfl) h
set_option maxRecDepth 20000 in
theorem ge_Text_readNumbers_1_112 {d : Nat} {p1 : Int} {μ : Mem} {Q : AV → Mem → Prop} (h : DW (d + 4) 22 2 [xR 1, xI p1, xR 112, xI 0, xL 0] μ Q) : GM (d + 4) 22 [xR 1, xI p1, xR 112] μ Q :=
  GM_wp (n := 400) (Nat.le_of_ble_eq_true rfl) (Nat.le_of_ble_eq_true rfl) rfl h
set_option maxRecDepth 20000 in
theorem sg_Text_readNumbers_1_112_2 {d : Nat} {l1 l3 : Int} {v4 : AV} {μ : Mem} {Q : AV → Mem → Prop} (h : if l3 < 3 then (if l3 < 4 then (GM (d + 3) 5 [xR 1] μ (gV (fun m1 => GM (d + 3) 23 [xR 1] m1 (gI (fun r3 m2 => if r3 = (-1) then (Q (xI 0) m2) else (if l3 < 0 then False else (if l3 < 3 then (wb l3 3 (wb (xi2c (xand (([76, 75, 87] : List Int).getD l3.toNat 0) 255)) 65536 (wb (xi2c (xand (([76, 75, 87] : List Int).getD l3.toNat 0) 255)) 65536 (GM (d + 3) 24 [xR 1, xI (xi2c (xand (([76, 75, 87] : List Int).getD l3.toNat 0) 255))] m2 (gI (fun r5 m4 => if r3 < r5 then (wb (iw ((iw (l1 * 4)) + l3)) 56 (DW (d + 4) 22 2 [xR 1, xI l1, xR 112, xI (iw (l3 + 1)), xI r3] (xset m4 15 ((iw ((iw (l1 * 4)) + l3)).toNat) r3) Q)) else (Q (xI 0) m4))))))) else False))))))) else (Q (xI 1) μ)) else (Q (xI 1) μ)) : DW (d + 4) 22 2 [xR 1, xI l1, xR 112, xI l3, v4] μ Q :=
  DW_wp (n := 400) (Nat.le_of_ble_eq_true rfl) h
set_option maxRecDepth 20000 in
theorem ge_Text_readNumbers_1_113 {d : Nat} {p1 : Int} {μ : Mem} {Q : AV → Mem → Prop} (h : DW (d + 4) 22 2 [xR 1, xI p1, xR 113, xI 0, xL 0] μ Q) : GM (d + 4) 22 [xR 1, xI p1, xR 113] μ Q :=
  GM_wp (n := 400) (Nat.le_of_ble_eq_true rfl) (Nat.le_of_ble_eq_true rfl) rfl h
set_option maxRecDepth 20000 in
theorem sg_Text_readNumbers_1_113_2 {d : Nat} {l1 l3 : Int} {v4 : AV} {μ : Mem} {Q : AV → Mem → Prop} (h : if l3 < 4 then (if l3 < 4 then (GM (d + 3) 5 [xR 1] μ (gV (fun m1 => GM (d + 3) 23 [xR 1] m1 (gI (fun r3 m2 => if r3 = (-1) then (Q (xI 0) m2) else (if l3 < 0 then False else (if l3 < 4 then (wb l3 4 (wb (xi2c (xand (([76, 75, 87, 80] : List Int).getD l3.toNat 0) 255)) 65536 (wb (xi2c (xand (([76, 75, 87, 80] : List Int).getD l3.toNat 0) 255)) 65536 (GM (d + 3) 24 [xR 1, xI (xi2c (xand (([76, 75, 87, 80] : List Int).getD l3.toNat 0) 255))] m2 (gI (fun r5 m4 => if r3 < r5 then (wb (iw ((iw (l1 * 4)) + l3)) 56 (DW (d + 4) 22 2 [xR 1, xI l1, xR 113, xI (iw (l3 + 1)), xI r3] (xset m4 15 ((iw ((iw (l1 * 4)) + l3)).toNat) r3) Q)) else (Q (xI 0) m4))))))) else False))))))) else (Q (xI 1) μ)) else (Q (xI 1) μ)) : DW (d + 4) 22 2 [xR 1, xI l1, xR 113, xI l3, v4] μ Q :=
  DW_wp (n := 400) (Nat.le_of_ble_eq_true rfl) h
set_option maxRecDepth 20000 in
theorem ge_Text_readNumbers_1_114 {d : Nat} {p1 : Int} {μ : Mem} {Q : AV → Mem → Prop} (h : DW (d + 4) 22 2 [xR 1, xI p1, xR 114, xI 0, xL 0] μ Q) : GM (d + 4) 22 [xR 1, xI p1, xR 114] μ Q :=
  GM_wp (n := 400) (Nat.le_of_ble_eq_true rfl) (Nat.le_of_ble_eq_true rfl) rfl h
set_option maxRecDepth 20000 in
theorem sg_Text_readNumbers_1_114_2 {d : Nat} {l1 l3 : Int} {v4 : AV} {μ : Mem} {Q : AV → Mem → Prop} (h : if l3 < 1 then (if l3 < 4 then (GM (d + 3) 5 [xR 1] μ (gV (fun m1 => GM (d + 3) 23 [xR 1] m1 (gI (fun r3 m2 => if r3 = (-1) then (Q (xI 0) m2) else (if l3 < 0 then False else (if l3 < 1 then (wb l3 1 (wb (xi2c (xand (([83] : List Int).getD l3.toNat 0) 255)) 65536 (wb (xi2c (xand (([83] : List Int).getD l3.toNat 0) 255)) 65536 (GM (d + 3) 24 [xR 1, xI (xi2c (xand (([83] : List Int).getD l3.toNat 0) 255))] m2 (gI (fun r5 m4 => if r3 < r5 then (wb (iw ((iw (l1 * 4)) + l3)) 56 (DW (d + 4) 22 2 [xR 1, xI l1, xR 114, xI (iw (l3 + 1)), xI r3] (xset m4 15 ((iw ((iw (l1 * 4)) + l3)).toNat) r3) Q)) else (Q (xI 0) m4))))))) else False))))))) else (Q (xI 1) μ)) else (Q (xI 1) μ)) : DW (d + 4) 22 2 [xR 1, xI l1, xR 114, xI l3, v4] μ Q :=
  DW_wp (n := 400) (Nat.le_of_ble_eq_true rfl) h
set_option maxRecDepth 20000 in
theorem ge_Text_readNumbers_1_115 {d : Nat} {p1 : Int} {μ : Mem} {Q : AV → Mem → Prop} (h : DW (d + 4) 22 2 [xR 1, xI p1, xR 115, xI 0, xL 0] μ Q) : GM (d + 4) 22 [xR 1, xI p1, xR 115] μ Q :=
  GM_wp (n := 400) (Nat.le_of_ble_eq_true rfl) (Nat.le_of_ble_eq_true rfl) rfl h
set_option maxRecDepth 20000 in
theorem sg_Text_readNumbers_1_115_2 {d : Nat} {l1 l3 : Int} {v4 : AV} {μ : Mem} {Q : AV → Mem → Prop} (h : if l3 < 2 then (if l3 < 4 then (GM (d + 3) 5 [xR 1] μ (gV (fun m1 => GM (d + 3) 23 [xR 1] m1 (gI (fun r3 m2 => if r3 = (-1) then (Q (xI 0) m2) else (if l3 < 0 then False else (if l3 < 2 then (wb l3 2 (wb (xi2c (xand (([73, 80] : List Int).getD l3.toNat 0) 255)) 65536 (wb (xi2c (xand (([73, 80] : List Int).getD l3.toNat 0) 255)) 65536 (GM (d + 3) 24 [xR 1, xI (xi2c (xand (([73, 80] : List Int).getD l3.toNat 0) 255))] m2 (gI (fun r5 m4 => if r3 < r5 then (wb (iw ((iw (l1 * 4)) + l3)) 56 (DW (d + 4) 22 2 [xR 1, xI l1, xR 115, xI (iw (l3 + 1)), xI r3] (xset m4 15 ((iw ((iw (l1 * 4)) + l3)).toNat) r3) Q)) else (Q (xI 0) m4))))))) else False))))))) else (Q (xI 1) μ)) else (Q (xI 1) μ)) : DW (d + 4) 22 2 [xR 1, xI l1, xR 115, xI l3, v4] μ Q :=
  DW_wp (n := 400) (Nat.le_of_ble_eq_true rfl) h
set_option maxRecDepth 20000 in
theorem ge_Text_readNumbers_1_116 {d : Nat} {p1 : Int} {μ : Mem} {Q : AV → Mem → Prop} (h : DW (d + 4) 22 2 [xR 1, xI p1, xR 116, xI 0, xL 0] μ Q) : GM (d + 4) 22 [xR 1, xI p1, xR 116] μ Q :=
  GM_wp (n := 400) (Nat.le_of_ble_eq_true rfl) (Nat.le_of_ble_eq_true rfl) rfl h
set_option maxRecDepth 20000 in
theorem sg_Text_readNumbers_1_116_2 {d : Nat} {l1 l3 : Int} {v4 : AV} {μ : Mem} {Q : AV → Mem → Prop} (h : if l3 < 0 then (if l3 < 4 then (GM (d + 3) 5 [xR 1] μ (gV (fun m1 => GM (d + 3) 23 [xR 1] m1 (gI (fun r3 m2 => if r3 = (-1) then (Q (xI 0) m2) else (if l3 < 0 then False else (if l3 < 0 then (wb l3 0 (wb (xi2c (xand (([] : List Int).getD l3.toNat 0) 255)) 65536 (wb (xi2c (xand (([] : List Int).getD l3.toNat 0) 255)) 65536 (GM (d + 3) 24 [xR 1, xI (xi2c (xand (([] : List Int).getD l3.toNat 0) 255))] m2 (gI (fun r5 m4 => if r3 < r5 then (wb (iw ((iw (l1 * 4)) + l3)) 56 (DW (d + 4) 22 2 [xR 1, xI l1, xR 116, xI (iw (l3 + 1)), xI r3] (xset m4 15 ((iw ((iw (l1 * 4)) + l3)).toNat) r3) Q)) else (Q (xI 0) m4))))))) else False))))))) else (Q (xI 1) μ)) else (Q (xI 1) μ)) : DW (d + 4) 22 2 [xR 1, xI l1, xR 116, xI l3, v4] μ Q :=
  DW_wp (n := 400) (Nat.le_of_ble_eq_true rfl) h
set_option maxRecDepth 20000 in
theorem ge_Text_numberHere {d : Nat} {μ : Mem} {Q : AV → Mem → Prop} (h : if iw ((μ 1 6) - (μ 1 5)) < 1 then (Q (xI (-1)) μ) else (if 2 < iw ((μ 1 6) - (μ 1 5)) then (Q (xI (-1)) μ) else (wb (μ 1 5) 160 (if μ 13 (μ 1 5).toNat < 48 then (Q (xI (-1)) μ) else (if 57 < μ 13 (μ 1 5).toNat then (Q (xI (-1)) μ) else (DW (d + 1) 23 26 [xR 1, xI (iw ((μ 1 6) - (μ 1 5))), xI 0, xI (μ 1 5)] μ Q)))))) : GM (d + 1) 23 [xR 1] μ Q :=
  GM_wp (n := 400) (Nat.le_of_ble_eq_true rfl) (Nat.le_of_ble_eq_true rfl) rfl h
set_option maxRecDepth 20000 in
theorem sg_Text_numberHere_26 {d : Nat} {l2 l3 : Int} {v1 : AV} {μ : Mem} {Q : AV → Mem → Prop} (h : if l3 < μ 1 6 then (wb l3 160 (DW (d + 1) 23 26 [xR 1, v1, xI (iw ((iw ((iw (l2 * 10)) + (μ 13 l3.toNat))) - 48)), xI (iw (l3 + 1))] μ Q)) else (Q (xI l2) μ)) : DW (d + 1) 23 26 [xR 1, v1, xI l2, xI l3] μ Q :=
  DW_wp (n := 400) (Nat.le_of_ble_eq_true rfl) h
set_option maxRecDepth 20000 in
theorem ge_Text_bound {d : Nat} {p1 : Int} {μ : Mem} {Q : AV → Mem → Prop} (h : if p1 = 75 then (Q (xI (μ 1 7)) μ) else (if p1 = 76 then (Q (xI 3) μ) else (if p1 = 77 then (Q (xI (μ 1 8)) μ) else (if p1 = 78 then (Q (xI (μ 1 8)) μ) else (if p1 = 79 then (Q (xI (μ 1 8)) μ) else (if p1 = 80 then (Q (xI 10) μ) else (if p1 = 81 then (Q (xI (μ 1 8)) μ) else (if p1 = 82 then (Q (xI (μ 1 8)) μ) else (if p1 = 83 then (Q (xI (xshl 1 (μ 1 7))) μ) else (if p1 = 84 then (Q (xI (μ 1 8)) μ) else (if p1 = 85 then (Q (xI (μ 1 8)) μ) else (if p1 = 86 then (Q (xI (μ 1 8)) μ) else (if p1 = 87 then (Q (xI 4) μ) else (Q (xI (μ 1 8)) μ)))))))))))))) : GM d 24 [xR 1, xI p1] μ Q :=
  GM_wp (n := 400) (Nat.le_of_ble_eq_true rfl) (Nat.le_of_ble_eq_true rfl) rfl h
set_option maxRecDepth 20000 in
theorem ge_Text_grow {d : Nat} {p1 : Int} {μ : Mem} {Q : AV → Mem → Prop} (h : if p1 = 0 then (Q (xI 0) (xset (xset (xset μ 1 7 0) 1 8 0) 1 9 0)) else (if p1 < 1 then (if p1 < 5 then (if p1 = 9 then (Q (xI 0) (xset μ 1 9 (iw ((μ 1 9) + 1)))) else (Q (xI 0) μ)) else (if 8 < p1 then (if p1 = 9 then (Q (xI 0) (xset μ 1 9 (iw ((μ 1 9) + 1)))) else (Q (xI 0) μ)) else (Q (xI 0) (xset μ 1 8 (iw ((μ 1 8) + 1)))))) else (if 4 < p1 then (if p1 < 5 then (if p1 = 9 then (Q (xI 0) (xset μ 1 9 (iw ((μ 1 9) + 1)))) else (Q (xI 0) μ)) else (if 8 < p1 then (if p1 = 9 then (Q (xI 0) (xset μ 1 9 (iw ((μ 1 9) + 1)))) else (Q (xI 0) μ)) else (Q (xI 0) (xset μ 1 8 (iw ((μ 1 8) + 1)))))) else (Q (xI 0) (xset μ 1 7 (iw ((μ 1 7) + 1))))))) : GM (d + 1) 25 [xR 1, xI p1] μ Q :=
  GM_wp (n := 400) (Nat.le_of_ble_eq_true rfl) (Nat.le_of_ble_eq_true rfl) rfl h
set_option maxRecDepth 20000 in
theorem ge_X_inn {d : Nat} {μ : Mem} {Q : AV → Mem → Prop} (h : GM (d + 6) 4 [xR 1, xI (μ 2 0), xI (μ 2 1), xI (μ 2 2)] μ (gI (fun r2 m1 => if r2 = (-1) then (DW (d + 7) 26 18 [xR 0, xI 0] m1 Q) else (Q (xI (-4)) m1)))) : GM (d + 7) 26 [xR 0] μ Q :=
  GM_wp (n := 400) (Nat.le_of_ble_eq_true rfl) (Nat.le_of_ble_eq_true rfl) rfl h
set_option maxRecDepth 20000 in
theorem sg_X_inn_18 {d : Nat} {l1 : Int} {μ : Mem} {Q : AV → Mem → Prop} (h : if l1 < μ 1 4 then (GM (d + 6) 27 [xR 2, xR 1, xI l1] μ (gV (fun m1 => DW (d + 7) 26 18 [xR 0, xI (iw (l1 + 1))] m1 Q))) else (DW (d + 7) 26 32 [xR 0, xI l1] μ Q)) : DW (d + 7) 26 18 [xR 0, xI l1] μ Q :=
  DW_wp (n := 400) (Nat.le_of_ble_eq_true rfl) h
set_option maxRecDepth 20000 in
theorem sg_X_inn_32 {d : Nat} {v1 : AV} {μ : Mem} {Q : AV → Mem → Prop} (h : GM (d + 6) 39 [xR 3] (xset μ 1 1 0) (gV (fun m1 => Q (xI (m1 1 4)) (xset (xset (xset m1 7 0 0) 0 4 0) 12 6 (-1))))) : DW (d + 7) 26 32 [xR 0, v1] μ Q :=
  DW_wp (n := 400) (Nat.le_of_ble_eq_true rfl) h
set_option maxRecDepth 20000 in
theorem ge_Told_doLine {d : Nat} {p2 : Int} {μ : Mem} {Q : AV → Mem → Prop} (h : wb p2 14 (if μ 14 p2.toNat = 0 then (Q (xI 0) (xset (xset (xset μ 2 0 0) 2 1 0) 2 2 0)) else (if μ 14 p2.toNat < 1 then (if μ 14 p2.toNat < 5 then (if μ 14 p2.toNat = 9 then (GM (d + 5) 30 [xR 1, xI p2, xI 83] μ (gI (fun r2 m1 => GM (d + 5) 36 [xR 2, xI r2] m1 (gV (fun m3 => Q (xI 0) m3))))) else (GM (d + 5) 30 [xR 1, xI p2, xI 73] μ (gI (fun r5 m4 => GM (d + 5) 30 [xR 1, xI p2, xI 80] m4 (gI (fun r7 m6 => GM (d + 5) 37 [xR 2, xI r5, xI r7] m6 (gV (fun m8 => Q (xI 0) m8)))))))) else (if 8 < μ 14 p2.toNat then (if μ 14 p2.toNat = 9 then (GM (d + 5) 30 [xR 1, xI p2, xI 83] μ (gI (fun r10 m9 => GM (d + 5) 36 [xR 2, xI r10] m9 (gV (fun m11 => Q (xI 0) m11))))) else (GM (d + 5) 30 [xR 1, xI p2, xI 73] μ (gI (fun r13 m12 => GM (d + 5) 30 [xR 1, xI p2, xI 80] m12 (gI (fun r15 m14 => GM (d + 5) 37 [xR 2, xI r13, xI r15] m14 (gV (fun m16 => Q (xI 0) m16)))))))) else (GM (d + 5) 29 [xR 2, xI (iw ((μ 14 p2.toNat) - 5)), xR 1, xI p2] μ (gV (fun m17 => Q (xI 0) m17))))) else (if 4 < μ 14 p2.toNat then (if μ 14 p2.toNat < 5 then (if μ 14 p2.toNat = 9 then (GM (d + 5) 30 [xR 1, xI p2, xI 83] μ (gI (fun r19 m18 => GM (d + 5) 36 [xR 2, xI r19] m18 (gV (fun m20 => Q (xI 0) m20))))) else (GM (d + 5) 30 [xR 1, xI p2, xI 73] μ (gI (fun r22 m21 => GM (d + 5) 30 [xR 1, xI p2, xI 80] m21 (gI (fun r24 m23 => GM (d + 5) 37 [xR 2, xI r22, xI r24] m23 (gV (fun m25 => Q (xI 0) m25)))))))) else (if 8 < μ 14 p2.toNat then (if μ 14 p2.toNat = 9 then (GM (d + 5) 30 [xR 1, xI p2, xI 83] μ (gI (fun r27 m26 => GM (d + 5) 36 [xR 2, xI r27] m26 (gV (fun m28 => Q (xI 0) m28))))) else (GM (d + 5) 30 [xR 1, xI p2, xI 73] μ (gI (fun r30 m29 => GM (d + 5) 30 [xR 1, xI p2, xI 80] m29 (gI (fun r32 m31 => GM (d + 5) 37 [xR 2, xI r30, xI r32] m31 (gV (fun m33 => Q (xI 0) m33)))))))) else (GM (d + 5) 29 [xR 2, xI (iw ((μ 14 p2.toNat) - 5)), xR 1, xI p2] μ (gV (fun m34 => Q (xI 0) m34))))) else (GM (d + 5) 28 [xR 2, xI (iw ((μ 14 p2.toNat) - 1))] μ (gV (fun m35 => Q (xI 0) m35))))))) : GM (d + 6) 27 [xR 2, xR 1, xI p2] μ Q :=
  GM_wp (n := 400) (Nat.le_of_ble_eq_true rfl) (Nat.le_of_ble_eq_true rfl) rfl h
set_option maxRecDepth 20000 in
theorem ge_Told_addOne {d : Nat} {p1 : Int} {μ : Mem} {Q : AV → Mem → Prop} (h : if μ 2 0 < 5 then (wb (μ 2 0) 5 (Q (xI 0) (xset (xset μ 16 ((μ 2 0).toNat) p1) 2 0 (iw ((μ 2 0) + 1))))) else (Q (xI 0) μ)) : GM d 28 [xR 2, xI p1] μ Q :=
  GM_wp (n := 400) (Nat.le_of_ble_eq_true rfl) (Nat.le_of_ble_eq_true rfl) rfl h
set_option maxRecDepth 20000 in
theorem ge_Told_addThing {d : Nat} {p1 p3 : Int} {μ : Mem} {Q : AV → Mem → Prop} (h : if μ 2 1 < 6 then (wb (μ 2 1) 6 (GM (d + 4) 30 [xR 1, xI p3, xI 76] (xset μ 17 ((μ 2 1).toNat) p1) (gI (fun r2 m1 => wb (μ 2 1) 6 (GM (d + 4) 30 [xR 1, xI p3, xI 75] (xset m1 18 ((μ 2 1).toNat) r2) (gI (fun r4 m3 => wb (m1 2 1) 6 (GM (d + 4) 30 [xR 1, xI p3, xI 87] (xset m3 21 ((m1 2 1).toNat) r4) (gI (fun r6 m5 => wb (m3 2 1) 6 (GM (d + 4) 30 [xR 1, xI p3, xI 80] (xset m5 19 ((m3 2 1).toNat) r6) (gI (fun r8 m7 => wb (m5 2 1) 6 (Q (xI 0) (xset (xset m7 20 ((m5 2 1).toNat) r8) 2 1 (iw ((m7 2 1) + 1))))))))))))))))) else (Q (xI 0) μ)) : GM (d + 5) 29 [xR 2, xI p1, xR 1, xI p3] μ Q :=
  GM_wp (n := 400) (Nat.le_of_ble_eq_true rfl) (Nat.le_of_ble_eq_true rfl) rfl h
set_option maxRecDepth 20000 in
theorem ge_Text_numberOf {d : Nat} {p1 p2 : Int} {μ : Mem} {Q : AV → Mem → Prop} (h : wb p1 14 (if μ 14 p1.toNat = 5 then (GM (d + 3) 31 [xR 111, xI p2] μ (gI (fun r14 m13 => if r14 < 0 then (Q (xI 0) m13) else (if r14 < 4 then (wb (iw ((iw (p1 * 4)) + r14)) 56 (Q (xI (m13 15 (iw ((iw (p1 * 4)) + r14)).toNat)) m13)) else (Q (xI 0) m13))))) else (if μ 14 p1.toNat = 6 then (GM (d + 3) 31 [xR 112, xI p2] μ (gI (fun r12 m11 => if r12 < 0 then (Q (xI 0) m11) else (if r12 < 4 then (wb (iw ((iw (p1 * 4)) + r12)) 56 (Q (xI (m11 15 (iw ((iw (p1 * 4)) + r12)).toNat)) m11)) else (Q (xI 0) m11))))) else (if μ 14 p1.toNat = 7 then (GM (d + 3) 31 [xR 113, xI p2] μ (gI (fun r10 m9 => if r10 < 0 then (Q (xI 0) m9) else (if r10 < 4 then (wb (iw ((iw (p1 * 4)) + r10)) 56 (Q (xI (m9 15 (iw ((iw (p1 * 4)) + r10)).toNat)) m9)) else (Q (xI 0) m9))))) else (if μ 14 p1.toNat = 8 then (GM (d + 3) 31 [xR 112, xI p2] μ (gI (fun r8 m7 => if r8 < 0 then (Q (xI 0) m7) else (if r8 < 4 then (wb (iw ((iw (p1 * 4)) + r8)) 56 (Q (xI (m7 15 (iw ((iw (p1 * 4)) + r8)).toNat)) m7)) else (Q (xI 0) m7))))) else (if μ 14 p1.toNat = 9 then (GM (d + 3) 31 [xR 114, xI p2] μ (gI (fun r6 m5 => if r6 < 0 then (Q (xI 0) m5) else (if r6 < 4 then (wb (iw ((iw (p1 * 4)) + r6)) 56 (Q (xI (m5 15 (iw ((iw (p1 * 4)) + r6)).toNat)) m5)) else (Q (xI 0) m5))))) else (if μ 14 p1.toNat = 10 then (GM (d + 3) 31 [xR 115, xI p2] μ (gI (fun r4 m3 => if r4 < 0 then (Q (xI 0) m3) else (if r4 < 4 then (wb (iw ((iw (p1 * 4)) + r4)) 56 (Q (xI (m3 15 (iw ((iw (p1 * 4)) + r4)).toNat)) m3)) else (Q (xI 0) m3))))) else (GM (d + 3) 31 [xR 116, xI p2] μ (gI (fun r2 m1 => if r2 < 0 then (Q (xI 0) m1) else (if r2 < 4 then (wb (iw ((iw (p1 * 4)) + r2)) 56 (Q (xI (m1 15 (iw ((iw (p1 * 4)) + r2)).toNat)) m1)) else (Q (xI 0) m1)))))))))))) : GM (d + 4) 30 [xR 1, xI p1, xI p2] μ Q :=
  GM_wp (n := 400) (Nat.le_of_ble_eq_true rfl) (Nat.le_of_ble_eq_true rfl) rfl h
set_option maxRecDepth 20000 in
theorem ge_JString_indexOf_111 {d : Nat} {p1 : Int} {μ : Mem} {Q : AV → Mem → Prop} (h : GM (d + 2) 32 [xR 111, xI p1, xI 0] μ (gI (fun r2 m1 => Q (xI r2) m1))) : GM (d + 3) 31 [xR 111, xI p1] μ Q :=
  GM_wp (n := 400) (Nat.le_of_ble_eq_true rfl) (Nat.le_of_ble_eq_true rfl) rfl h
set_option maxRecDepth 20000 in
theorem ge_JString_indexOf_112 {d : Nat} {p1 : Int} {μ : Mem} {Q : AV → Mem → Prop} (h : GM (d + 2) 32 [xR 112, xI p1, xI 0] μ (gI (fun r2 m1 => Q (xI r2) m1))) : GM (d + 3) 31 [xR 112, xI p1] μ Q :=
  GM_wp (n := 400) (Nat.le_of_ble_eq_true rfl) (Nat.le_of_ble_eq_true rfl) rfl h
set_option maxRecDepth 20000 in
theorem ge_JString_indexOf_113 {d : Nat} {p1 : Int} {μ : Mem} {Q : AV → Mem → Prop} (h : GM (d + 2) 32 [xR 113, xI p1, xI 0] μ (gI (fun r2 m1 => Q (xI r2) m1))) : GM (d + 3) 31 [xR 113, xI p1] μ Q :=
  GM_wp (n := 400) (Nat.le_of_ble_eq_true rfl) (Nat.le_of_ble_eq_true rfl) rfl h
set_option maxRecDepth 20000 in
theorem ge_JString_indexOf_114 {d : Nat} {p1 : Int} {μ : Mem} {Q : AV → Mem → Prop} (h : GM (d + 2) 32 [xR 114, xI p1, xI 0] μ (gI (fun r2 m1 => Q (xI r2) m1))) : GM (d + 3) 31 [xR 114, xI p1] μ Q :=
  GM_wp (n := 400) (Nat.le_of_ble_eq_true rfl) (Nat.le_of_ble_eq_true rfl) rfl h
set_option maxRecDepth 20000 in
theorem ge_JString_indexOf_115 {d : Nat} {p1 : Int} {μ : Mem} {Q : AV → Mem → Prop} (h : GM (d + 2) 32 [xR 115, xI p1, xI 0] μ (gI (fun r2 m1 => Q (xI r2) m1))) : GM (d + 3) 31 [xR 115, xI p1] μ Q :=
  GM_wp (n := 400) (Nat.le_of_ble_eq_true rfl) (Nat.le_of_ble_eq_true rfl) rfl h
set_option maxRecDepth 20000 in
theorem ge_JString_indexOf_116 {d : Nat} {p1 : Int} {μ : Mem} {Q : AV → Mem → Prop} (h : GM (d + 2) 32 [xR 116, xI p1, xI 0] μ (gI (fun r2 m1 => Q (xI r2) m1))) : GM (d + 3) 31 [xR 116, xI p1] μ Q :=
  GM_wp (n := 400) (Nat.le_of_ble_eq_true rfl) (Nat.le_of_ble_eq_true rfl) rfl h
set_option maxRecDepth 20000 in
theorem ge_JString_indexOf2_111 {d : Nat} {p1 p2 : Int} {μ : Mem} {Q : AV → Mem → Prop} (h : GM (d + 1) 33 [xR 131, xI p1, xI p2, xI 2] μ (gI (fun r2 m1 => Q (xI r2) m1))) : GM (d + 2) 32 [xR 111, xI p1, xI p2] μ Q :=
  GM_wp (n := 400) (Nat.le_of_ble_eq_true rfl) (Nat.le_of_ble_eq_true rfl) rfl h
set_option maxRecDepth 20000 in
theorem ge_JString_indexOf2_112 {d : Nat} {p1 p2 : Int} {μ : Mem} {Q : AV → Mem → Prop} (h : GM (d + 1) 33 [xR 132, xI p1, xI p2, xI 3] μ (gI (fun r2 m1 => Q (xI r2) m1))) : GM (d + 2) 32 [xR 112, xI p1, xI p2] μ Q :=
  GM_wp (n := 400) (Nat.le_of_ble_eq_true rfl) (Nat.le_of_ble_eq_true rfl) rfl h
set_option maxRecDepth 20000 in
theorem ge_JString_indexOf2_113 {d : Nat} {p1 p2 : Int} {μ : Mem} {Q : AV → Mem → Prop} (h : GM (d + 1) 33 [xR 133, xI p1, xI p2, xI 4] μ (gI (fun r2 m1 => Q (xI r2) m1))) : GM (d + 2) 32 [xR 113, xI p1, xI p2] μ Q :=
  GM_wp (n := 400) (Nat.le_of_ble_eq_true rfl) (Nat.le_of_ble_eq_true rfl) rfl h
set_option maxRecDepth 20000 in
theorem ge_JString_indexOf2_114 {d : Nat} {p1 p2 : Int} {μ : Mem} {Q : AV → Mem → Prop} (h : GM (d + 1) 33 [xR 134, xI p1, xI p2, xI 1] μ (gI (fun r2 m1 => Q (xI r2) m1))) : GM (d + 2) 32 [xR 114, xI p1, xI p2] μ Q :=
  GM_wp (n := 400) (Nat.le_of_ble_eq_true rfl) (Nat.le_of_ble_eq_true rfl) rfl h
set_option maxRecDepth 20000 in
theorem ge_JString_indexOf2_115 {d : Nat} {p1 p2 : Int} {μ : Mem} {Q : AV → Mem → Prop} (h : GM (d + 1) 33 [xR 135, xI p1, xI p2, xI 2] μ (gI (fun r2 m1 => Q (xI r2) m1))) : GM (d + 2) 32 [xR 115, xI p1, xI p2] μ Q :=
  GM_wp (n := 400) (Nat.le_of_ble_eq_true rfl) (Nat.le_of_ble_eq_true rfl) rfl h
set_option maxRecDepth 20000 in
theorem ge_JString_indexOf2_116 {d : Nat} {p1 p2 : Int} {μ : Mem} {Q : AV → Mem → Prop} (h : GM (d + 1) 33 [xR 136, xI p1, xI p2, xI 0] μ (gI (fun r2 m1 => Q (xI r2) m1))) : GM (d + 2) 32 [xR 116, xI p1, xI p2] μ Q :=
  GM_wp (n := 400) (Nat.le_of_ble_eq_true rfl) (Nat.le_of_ble_eq_true rfl) rfl h
set_option maxRecDepth 20000 in
theorem ge_JStringLatin1_indexOf_131 {d : Nat} {p1 p2 p3 : Int} {μ : Mem} {Q : AV → Mem → Prop} (h : if p1 < 0 then (Q (xI (-1)) μ) else (if 255 < p1 then (Q (xI (-1)) μ) else (if max p2 0 < min p3 2 then (GM d 35 [xR 131, xI p1, xI (max p2 0), xI (min p3 2)] μ (gI (fun r2 m1 => Q (xI r2) m1))) else (Q (xI (-1)) μ)))) : GM (d + 1) 33 [xR 131, xI p1, xI p2, xI p3] μ Q :=
  GM_wp (n := 400) (Nat.le_of_ble_eq_true rfl) (Nat.le_of_ble_eq_true rfl) rfl h
set_option maxRecDepth 20000 in
theorem ge_JStringLatin1_indexOf_132 {d : Nat} {p1 p2 p3 : Int} {μ : Mem} {Q : AV → Mem → Prop} (h : if p1 < 0 then (Q (xI (-1)) μ) else (if 255 < p1 then (Q (xI (-1)) μ) else (if max p2 0 < min p3 3 then (GM d 35 [xR 132, xI p1, xI (max p2 0), xI (min p3 3)] μ (gI (fun r2 m1 => Q (xI r2) m1))) else (Q (xI (-1)) μ)))) : GM (d + 1) 33 [xR 132, xI p1, xI p2, xI p3] μ Q :=
  GM_wp (n := 400) (Nat.le_of_ble_eq_true rfl) (Nat.le_of_ble_eq_true rfl) rfl h
set_option maxRecDepth 20000 in
theorem ge_JStringLatin1_indexOf_133 {d : Nat} {p1 p2 p3 : Int} {μ : Mem} {Q : AV → Mem → Prop} (h : if p1 < 0 then (Q (xI (-1)) μ) else (if 255 < p1 then (Q (xI (-1)) μ) else (if max p2 0 < min p3 4 then (GM d 35 [xR 133, xI p1, xI (max p2 0), xI (min p3 4)] μ (gI (fun r2 m1 => Q (xI r2) m1))) else (Q (xI (-1)) μ)))) : GM (d + 1) 33 [xR 133, xI p1, xI p2, xI p3] μ Q :=
  GM_wp (n := 400) (Nat.le_of_ble_eq_true rfl) (Nat.le_of_ble_eq_true rfl) rfl h
set_option maxRecDepth 20000 in
theorem ge_JStringLatin1_indexOf_134 {d : Nat} {p1 p2 p3 : Int} {μ : Mem} {Q : AV → Mem → Prop} (h : if p1 < 0 then (Q (xI (-1)) μ) else (if 255 < p1 then (Q (xI (-1)) μ) else (if max p2 0 < min p3 1 then (GM d 35 [xR 134, xI p1, xI (max p2 0), xI (min p3 1)] μ (gI (fun r2 m1 => Q (xI r2) m1))) else (Q (xI (-1)) μ)))) : GM (d + 1) 33 [xR 134, xI p1, xI p2, xI p3] μ Q :=
  GM_wp (n := 400) (Nat.le_of_ble_eq_true rfl) (Nat.le_of_ble_eq_true rfl) rfl h
set_option maxRecDepth 20000 in
theorem ge_JStringLatin1_indexOf_135 {d : Nat} {p1 p2 p3 : Int} {μ : Mem} {Q : AV → Mem → Prop} (h : if p1 < 0 then (Q (xI (-1)) μ) else (if 255 < p1 then (Q (xI (-1)) μ) else (if max p2 0 < min p3 2 then (GM d 35 [xR 135, xI p1, xI (max p2 0), xI (min p3 2)] μ (gI (fun r2 m1 => Q (xI r2) m1))) else (Q (xI (-1)) μ)))) : GM (d + 1) 33 [xR 135, xI p1, xI p2, xI p3] μ Q :=
  GM_wp (n := 400) (Nat.le_of_ble_eq_true rfl) (Nat.le_of_ble_eq_true rfl) rfl h
set_option maxRecDepth 20000 in
theorem ge_JStringLatin1_indexOf_136 {d : Nat} {p1 p2 p3 : Int} {μ : Mem} {Q : AV → Mem → Prop} (h : if p1 < 0 then (Q (xI (-1)) μ) else (if 255 < p1 then (Q (xI (-1)) μ) else (if max p2 0 < min p3 0 then (GM d 35 [xR 136, xI p1, xI (max p2 0), xI (min p3 0)] μ (gI (fun r2 m1 => Q (xI r2) m1))) else (Q (xI (-1)) μ)))) : GM (d + 1) 33 [xR 136, xI p1, xI p2, xI p3] μ Q :=
  GM_wp (n := 400) (Nat.le_of_ble_eq_true rfl) (Nat.le_of_ble_eq_true rfl) rfl h
set_option maxRecDepth 20000 in
theorem ge_JStringLatin1_indexOfChar_131 {d : Nat} {p1 p2 p3 : Int} {μ : Mem} {Q : AV → Mem → Prop} (h : DW d 35 5 [xR 131, xI p1, xI p2, xI p3, xI (xi2b p1), xI p2] μ Q) : GM d 35 [xR 131, xI p1, xI p2, xI p3] μ Q :=
  GM_wp (n := 400) (Nat.le_of_ble_eq_true rfl) (Nat.le_of_ble_eq_true rfl) rfl h
set_option maxRecDepth 20000 in
theorem sg_JStringLatin1_indexOfChar_131_5 {d : Nat} {l3 l4 l5 : Int} {v1 v2 : AV} {μ : Mem} {Q : AV → Mem → Prop} (h : if l5 < l3 then (wb l5 2 (if ([76, 75] : List Int).getD l5.toNat 0 = l4 then (Q (xI l5) μ) else (DW d 35 5 [xR 131, v1, v2, xI l3, xI l4, xI (iw (l5 + 1))] μ Q))) else (Q (xI (-1)) μ)) : DW d 35 5 [xR 131, v1, v2, xI l3, xI l4, xI l5] μ Q :=
  DW_wp (n := 400) (Nat.le_of_ble_eq_true rfl) h
set_option maxRecDepth 20000 in
theorem ge_JStringLatin1_indexOfChar_132 {d : Nat} {p1 p2 p3 : Int} {μ : Mem} {Q : AV → Mem → Prop} (h : DW d 35 5 [xR 132, xI p1, xI p2, xI p3, xI (xi2b p1), xI p2] μ Q) : GM d 35 [xR 132, xI p1, xI p2, xI p3] μ Q :=
  GM_wp (n := 400) (Nat.le_of_ble_eq_true rfl) (Nat.le_of_ble_eq_true rfl) rfl h
set_option maxRecDepth 20000 in
theorem sg_JStringLatin1_indexOfChar_132_5 {d : Nat} {l3 l4 l5 : Int} {v1 v2 : AV} {μ : Mem} {Q : AV → Mem → Prop} (h : if l5 < l3 then (wb l5 3 (if ([76, 75, 87] : List Int).getD l5.toNat 0 = l4 then (Q (xI l5) μ) else (DW d 35 5 [xR 132, v1, v2, xI l3, xI l4, xI (iw (l5 + 1))] μ Q))) else (Q (xI (-1)) μ)) : DW d 35 5 [xR 132, v1, v2, xI l3, xI l4, xI l5] μ Q :=
  DW_wp (n := 400) (Nat.le_of_ble_eq_true rfl) h
set_option maxRecDepth 20000 in
theorem ge_JStringLatin1_indexOfChar_133 {d : Nat} {p1 p2 p3 : Int} {μ : Mem} {Q : AV → Mem → Prop} (h : DW d 35 5 [xR 133, xI p1, xI p2, xI p3, xI (xi2b p1), xI p2] μ Q) : GM d 35 [xR 133, xI p1, xI p2, xI p3] μ Q :=
  GM_wp (n := 400) (Nat.le_of_ble_eq_true rfl) (Nat.le_of_ble_eq_true rfl) rfl h
set_option maxRecDepth 20000 in
theorem sg_JStringLatin1_indexOfChar_133_5 {d : Nat} {l3 l4 l5 : Int} {v1 v2 : AV} {μ : Mem} {Q : AV → Mem → Prop} (h : if l5 < l3 then (wb l5 4 (if ([76, 75, 87, 80] : List Int).getD l5.toNat 0 = l4 then (Q (xI l5) μ) else (DW d 35 5 [xR 133, v1, v2, xI l3, xI l4, xI (iw (l5 + 1))] μ Q))) else (Q (xI (-1)) μ)) : DW d 35 5 [xR 133, v1, v2, xI l3, xI l4, xI l5] μ Q :=
  DW_wp (n := 400) (Nat.le_of_ble_eq_true rfl) h
set_option maxRecDepth 20000 in
theorem ge_JStringLatin1_indexOfChar_134 {d : Nat} {p1 p2 p3 : Int} {μ : Mem} {Q : AV → Mem → Prop} (h : DW d 35 5 [xR 134, xI p1, xI p2, xI p3, xI (xi2b p1), xI p2] μ Q) : GM d 35 [xR 134, xI p1, xI p2, xI p3] μ Q :=
  GM_wp (n := 400) (Nat.le_of_ble_eq_true rfl) (Nat.le_of_ble_eq_true rfl) rfl h
set_option maxRecDepth 20000 in
theorem sg_JStringLatin1_indexOfChar_134_5 {d : Nat} {l3 l4 l5 : Int} {v1 v2 : AV} {μ : Mem} {Q : AV → Mem → Prop} (h : if l5 < l3 then (wb l5 1 (if ([83] : List Int).getD l5.toNat 0 = l4 then (Q (xI l5) μ) else (DW d 35 5 [xR 134, v1, v2, xI l3, xI l4, xI (iw (l5 + 1))] μ Q))) else (Q (xI (-1)) μ)) : DW d 35 5 [xR 134, v1, v2, xI l3, xI l4, xI l5] μ Q :=
  DW_wp (n := 400) (Nat.le_of_ble_eq_true rfl) h
set_option maxRecDepth 20000 in
theorem ge_JStringLatin1_indexOfChar_135 {d : Nat} {p1 p2 p3 : Int} {μ : Mem} {Q : AV → Mem → Prop} (h : DW d 35 5 [xR 135, xI p1, xI p2, xI p3, xI (xi2b p1), xI p2] μ Q) : GM d 35 [xR 135, xI p1, xI p2, xI p3] μ Q :=
  GM_wp (n := 400) (Nat.le_of_ble_eq_true rfl) (Nat.le_of_ble_eq_true rfl) rfl h
set_option maxRecDepth 20000 in
theorem sg_JStringLatin1_indexOfChar_135_5 {d : Nat} {l3 l4 l5 : Int} {v1 v2 : AV} {μ : Mem} {Q : AV → Mem → Prop} (h : if l5 < l3 then (wb l5 2 (if ([73, 80] : List Int).getD l5.toNat 0 = l4 then (Q (xI l5) μ) else (DW d 35 5 [xR 135, v1, v2, xI l3, xI l4, xI (iw (l5 + 1))] μ Q))) else (Q (xI (-1)) μ)) : DW d 35 5 [xR 135, v1, v2, xI l3, xI l4, xI l5] μ Q :=
  DW_wp (n := 400) (Nat.le_of_ble_eq_true rfl) h
set_option maxRecDepth 20000 in
theorem ge_JStringLatin1_indexOfChar_136 {d : Nat} {p1 p2 p3 : Int} {μ : Mem} {Q : AV → Mem → Prop} (h : DW d 35 5 [xR 136, xI p1, xI p2, xI p3, xI (xi2b p1), xI p2] μ Q) : GM d 35 [xR 136, xI p1, xI p2, xI p3] μ Q :=
  GM_wp (n := 400) (Nat.le_of_ble_eq_true rfl) (Nat.le_of_ble_eq_true rfl) rfl h
set_option maxRecDepth 20000 in
theorem sg_JStringLatin1_indexOfChar_136_5 {d : Nat} {l3 l4 l5 : Int} {v1 v2 : AV} {μ : Mem} {Q : AV → Mem → Prop} (h : if l5 < l3 then (wb l5 0 (if ([] : List Int).getD l5.toNat 0 = l4 then (Q (xI l5) μ) else (DW d 35 5 [xR 136, v1, v2, xI l3, xI l4, xI (iw (l5 + 1))] μ Q))) else (Q (xI (-1)) μ)) : DW d 35 5 [xR 136, v1, v2, xI l3, xI l4, xI l5] μ Q :=
  DW_wp (n := 400) (Nat.le_of_ble_eq_true rfl) h
set_option maxRecDepth 20000 in
theorem ge_Told_addNight {d : Nat} {p1 : Int} {μ : Mem} {Q : AV → Mem → Prop} (h : if μ 2 2 < 6 then (wb (μ 2 2) 6 (Q (xI 0) (xset (xset μ 22 ((μ 2 2).toNat) p1) 2 2 (iw ((μ 2 2) + 1))))) else (Q (xI 0) μ)) : GM d 36 [xR 2, xI p1] μ Q :=
  GM_wp (n := 400) (Nat.le_of_ble_eq_true rfl) (Nat.le_of_ble_eq_true rfl) rfl h
set_option maxRecDepth 20000 in
theorem ge_Told_tellPower {d : Nat} {p1 p2 : Int} {μ : Mem} {Q : AV → Mem → Prop} (h : if p1 < 0 then (Q (xI 0) μ) else (if p1 < μ 2 1 then (wb p1 6 (Q (xI 0) (xset μ 20 p1.toNat p2))) else (Q (xI 0) μ))) : GM (d + 1) 37 [xR 2, xI p1, xI p2] μ Q :=
  GM_wp (n := 400) (Nat.le_of_ble_eq_true rfl) (Nat.le_of_ble_eq_true rfl) rfl h
set_option maxRecDepth 20000 in
theorem ge_Now_begin {d : Nat} {μ : Mem} {Q : AV → Mem → Prop} (h : DW d 39 11 [xR 3, xI 0] (xset (xset (xset μ 3 1 0) 3 2 0) 3 3 0) Q) : GM d 39 [xR 3] μ Q :=
  GM_wp (n := 400) (Nat.le_of_ble_eq_true rfl) (Nat.le_of_ble_eq_true rfl) rfl h
set_option maxRecDepth 20000 in
theorem sg_Now_begin_11 {d : Nat} {l1 : Int} {μ : Mem} {Q : AV → Mem → Prop} (h : if l1 < 6 then (wb l1 6 (wb l1 6 (wb l1 6 (wb l1 6 (wb l1 6 (DW d 39 11 [xR 3, xI (iw (l1 + 1))] (xset (xset (xset (xset μ 23 l1.toNat l1) 24 l1.toNat 0) 25 l1.toNat (μ 20 l1.toNat)) 26 l1.toNat 0) Q)))))) else (Q (xI 0) μ)) : DW d 39 11 [xR 3, xI l1] μ Q :=
  DW_wp (n := 400) (Nat.le_of_ble_eq_true rfl) h
set_option maxRecDepth 20000 in
theorem ge_X_one {d : Nat} {p1 p2 : Int} {μ : Mem} {Q : AV → Mem → Prop} (h : if p1 < 0 then (Q (xI (-2)) μ) else (if p1 < μ 2 0 then (if p2 = 0 then (wb p1 5 (Q (xI (μ 16 p1.toNat)) μ)) else (if p2 = 1 then (GM (d + 1) 43 [xR 2, xI p1] μ (gI (fun r4 m3 => Q (xI r4) m3))) else (if p2 = 2 then (Q (xI (xand (xshr (μ 3 3) p1) 1)) μ) else (if p2 = 3 then (GM (d + 1) 44 [xR 2, xI p1] μ (gI (fun r2 m1 => Q (xI r2) m1))) else (Q (xI (-3)) μ))))) else (Q (xI (-2)) μ))) : GM (d + 2) 41 [xR 0, xI p1, xI p2] μ Q :=
  GM_wp (n := 400) (Nat.le_of_ble_eq_true rfl) (Nat.le_of_ble_eq_true rfl) rfl h
set_option maxRecDepth 20000 in
theorem ge_Told_placesOf {d : Nat} {p1 : Int} {μ : Mem} {Q : AV → Mem → Prop} (h : DW d 43 4 [xR 2, xI p1, xI 0, xI 0] μ Q) : GM d 43 [xR 2, xI p1] μ Q :=
  GM_wp (n := 400) (Nat.le_of_ble_eq_true rfl) (Nat.le_of_ble_eq_true rfl) rfl h
set_option maxRecDepth 20000 in
theorem sg_Told_placesOf_4 {d : Nat} {l1 l2 l3 : Int} {μ : Mem} {Q : AV → Mem → Prop} (h : if l3 < μ 2 1 then (wb l3 6 (if μ 21 l3.toNat = l1 then (DW d 43 4 [xR 2, xI l1, xI (xior l2 (xshl 1 l3)), xI (iw (l3 + 1))] μ Q) else (DW d 43 4 [xR 2, xI l1, xI l2, xI (iw (l3 + 1))] μ Q))) else (Q (xI l2) μ)) : DW d 43 4 [xR 2, xI l1, xI l2, xI l3] μ Q :=
  DW_wp (n := 400) (Nat.le_of_ble_eq_true rfl) h
set_option maxRecDepth 20000 in
theorem ge_Told_nightsOf {d : Nat} {p1 : Int} {μ : Mem} {Q : AV → Mem → Prop} (h : DW (d + 1) 44 4 [xR 2, xI p1, xI 0, xI 0] μ Q) : GM (d + 1) 44 [xR 2, xI p1] μ Q :=
  GM_wp (n := 400) (Nat.le_of_ble_eq_true rfl) (Nat.le_of_ble_eq_true rfl) rfl h
set_option maxRecDepth 20000 in
theorem sg_Told_nightsOf_4 {d : Nat} {l1 l2 l3 : Int} {μ : Mem} {Q : AV → Mem → Prop} (h : if l3 < μ 2 2 then (wb l1 5 (if μ 16 l1.toNat = 3 then (DW (d + 1) 44 4 [xR 2, xI l1, xI (xior l2 (xshl 1 l3)), xI (iw (l3 + 1))] μ Q) else (wb l3 6 (if xand (xshr (μ 22 l3.toNat) l1) 1 = 1 then (DW (d + 1) 44 4 [xR 2, xI l1, xI (xior l2 (xshl 1 l3)), xI (iw (l3 + 1))] μ Q) else (DW (d + 1) 44 4 [xR 2, xI l1, xI l2, xI (iw (l3 + 1))] μ Q))))) else (Q (xI l2) μ)) : DW (d + 1) 44 4 [xR 2, xI l1, xI l2, xI l3] μ Q :=
  DW_wp (n := 400) (Nat.le_of_ble_eq_true rfl) h
