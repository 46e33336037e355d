theorem ax_okAll (k : Nat) (h : k < 193) : ax_okM k = true := by
  rcases Nat.lt_or_ge k 8 with h8 | h8
  · exact List.all_eq_true.mp ax_c0 k (List.mem_map.mpr ⟨k - 0, List.mem_range.mpr (by omega), by omega⟩)
  rcases Nat.lt_or_ge k 16 with h16 | h16
  · exact List.all_eq_true.mp ax_c8 k (List.mem_map.mpr ⟨k - 8, List.mem_range.mpr (by omega), by omega⟩)
  rcases Nat.lt_or_ge k 24 with h24 | h24
  · exact List.all_eq_true.mp ax_c16 k (List.mem_map.mpr ⟨k - 16, List.mem_range.mpr (by omega), by omega⟩)
  rcases Nat.lt_or_ge k 32 with h32 | h32
  · exact List.all_eq_true.mp ax_c24 k (List.mem_map.mpr ⟨k - 24, List.mem_range.mpr (by omega), by omega⟩)
  rcases Nat.lt_or_ge k 40 with h40 | h40
  · exact List.all_eq_true.mp ax_c32 k (List.mem_map.mpr ⟨k - 32, List.mem_range.mpr (by omega), by omega⟩)
  rcases Nat.lt_or_ge k 48 with h48 | h48
  · exact List.all_eq_true.mp ax_c40 k (List.mem_map.mpr ⟨k - 40, List.mem_range.mpr (by omega), by omega⟩)
  rcases Nat.lt_or_ge k 56 with h56 | h56
  · exact List.all_eq_true.mp ax_c48 k (List.mem_map.mpr ⟨k - 48, List.mem_range.mpr (by omega), by omega⟩)
  rcases Nat.lt_or_ge k 64 with h64 | h64
  · exact List.all_eq_true.mp ax_c56 k (List.mem_map.mpr ⟨k - 56, List.mem_range.mpr (by omega), by omega⟩)
  rcases Nat.lt_or_ge k 72 with h72 | h72
  · exact List.all_eq_true.mp ax_c64 k (List.mem_map.mpr ⟨k - 64, List.mem_range.mpr (by omega), by omega⟩)
  rcases Nat.lt_or_ge k 80 with h80 | h80
  · exact List.all_eq_true.mp ax_c72 k (List.mem_map.mpr ⟨k - 72, List.mem_range.mpr (by omega), by omega⟩)
  rcases Nat.lt_or_ge k 88 with h88 | h88
  · exact List.all_eq_true.mp ax_c80 k (List.mem_map.mpr ⟨k - 80, List.mem_range.mpr (by omega), by omega⟩)
  rcases Nat.lt_or_ge k 96 with h96 | h96
  · exact List.all_eq_true.mp ax_c88 k (List.mem_map.mpr ⟨k - 88, List.mem_range.mpr (by omega), by omega⟩)
  rcases Nat.lt_or_ge k 104 with h104 | h104
  · exact List.all_eq_true.mp ax_c96 k (List.mem_map.mpr ⟨k - 96, List.mem_range.mpr (by omega), by omega⟩)
  rcases Nat.lt_or_ge k 112 with h112 | h112
  · exact List.all_eq_true.mp ax_c104 k (List.mem_map.mpr ⟨k - 104, List.mem_range.mpr (by omega), by omega⟩)
  rcases Nat.lt_or_ge k 120 with h120 | h120
  · exact List.all_eq_true.mp ax_c112 k (List.mem_map.mpr ⟨k - 112, List.mem_range.mpr (by omega), by omega⟩)
  rcases Nat.lt_or_ge k 128 with h128 | h128
  · exact List.all_eq_true.mp ax_c120 k (List.mem_map.mpr ⟨k - 120, List.mem_range.mpr (by omega), by omega⟩)
  rcases Nat.lt_or_ge k 136 with h136 | h136
  · exact List.all_eq_true.mp ax_c128 k (List.mem_map.mpr ⟨k - 128, List.mem_range.mpr (by omega), by omega⟩)
  rcases Nat.lt_or_ge k 144 with h144 | h144
  · exact List.all_eq_true.mp ax_c136 k (List.mem_map.mpr ⟨k - 136, List.mem_range.mpr (by omega), by omega⟩)
  rcases Nat.lt_or_ge k 152 with h152 | h152
  · exact List.all_eq_true.mp ax_c144 k (List.mem_map.mpr ⟨k - 144, List.mem_range.mpr (by omega), by omega⟩)
  rcases Nat.lt_or_ge k 160 with h160 | h160
  · exact List.all_eq_true.mp ax_c152 k (List.mem_map.mpr ⟨k - 152, List.mem_range.mpr (by omega), by omega⟩)
  rcases Nat.lt_or_ge k 168 with h168 | h168
  · exact List.all_eq_true.mp ax_c160 k (List.mem_map.mpr ⟨k - 160, List.mem_range.mpr (by omega), by omega⟩)
  rcases Nat.lt_or_ge k 176 with h176 | h176
  · exact List.all_eq_true.mp ax_c168 k (List.mem_map.mpr ⟨k - 168, List.mem_range.mpr (by omega), by omega⟩)
  rcases Nat.lt_or_ge k 184 with h184 | h184
  · exact List.all_eq_true.mp ax_c176 k (List.mem_map.mpr ⟨k - 176, List.mem_range.mpr (by omega), by omega⟩)
  rcases Nat.lt_or_ge k 192 with h192 | h192
  · exact List.all_eq_true.mp ax_c184 k (List.mem_map.mpr ⟨k - 184, List.mem_range.mpr (by omega), by omega⟩)
  rcases Nat.lt_or_ge k 193 with h193 | h193
  · exact List.all_eq_true.mp ax_c192 k (List.mem_map.mpr ⟨k - 192, List.mem_range.mpr (by omega), by omega⟩)
  exact absurd h (by omega)
set_option maxRecDepth 100000 in
theorem ax_w0 : ((List.range 16).map (fun k => lw_tbl[ax_cwL.getD (k + 0) 0]?)) = ((List.range 16).map (fun k => some (Cond.code (ax_y (k + 0)) (ax_bs (k + 0)) (ax_ml (k + 0)) (ax_rt (k + 0))))) := rfl
set_option maxRecDepth 100000 in
theorem ax_w16 : ((List.range 16).map (fun k => lw_tbl[ax_cwL.getD (k + 16) 0]?)) = ((List.range 16).map (fun k => some (Cond.code (ax_y (k + 16)) (ax_bs (k + 16)) (ax_ml (k + 16)) (ax_rt (k + 16))))) := rfl
set_option maxRecDepth 100000 in
theorem ax_w32 : ((List.range 16).map (fun k => lw_tbl[ax_cwL.getD (k + 32) 0]?)) = ((List.range 16).map (fun k => some (Cond.code (ax_y (k + 32)) (ax_bs (k + 32)) (ax_ml (k + 32)) (ax_rt (k + 32))))) := rfl
set_option maxRecDepth 100000 in
theorem ax_w48 : ((List.range 16).map (fun k => lw_tbl[ax_cwL.getD (k + 48) 0]?)) = ((List.range 16).map (fun k => some (Cond.code (ax_y (k + 48)) (ax_bs (k + 48)) (ax_ml (k + 48)) (ax_rt (k + 48))))) := rfl
set_option maxRecDepth 100000 in
theorem ax_w64 : ((List.range 16).map (fun k => lw_tbl[ax_cwL.getD (k + 64) 0]?)) = ((List.range 16).map (fun k => some (Cond.code (ax_y (k + 64)) (ax_bs (k + 64)) (ax_ml (k + 64)) (ax_rt (k + 64))))) := rfl
set_option maxRecDepth 100000 in
theorem ax_w80 : ((List.range 16).map (fun k => lw_tbl[ax_cwL.getD (k + 80) 0]?)) = ((List.range 16).map (fun k => some (Cond.code (ax_y (k + 80)) (ax_bs (k + 80)) (ax_ml (k + 80)) (ax_rt (k + 80))))) := rfl
set_option maxRecDepth 100000 in
theorem ax_w96 : ((List.range 16).map (fun k => lw_tbl[ax_cwL.getD (k + 96) 0]?)) = ((List.range 16).map (fun k => some (Cond.code (ax_y (k + 96)) (ax_bs (k + 96)) (ax_ml (k + 96)) (ax_rt (k + 96))))) := rfl
set_option maxRecDepth 100000 in
theorem ax_w112 : ((List.range 16).map (fun k => lw_tbl[ax_cwL.getD (k + 112) 0]?)) = ((List.range 16).map (fun k => some (Cond.code (ax_y (k + 112)) (ax_bs (k + 112)) (ax_ml (k + 112)) (ax_rt (k + 112))))) := rfl
set_option maxRecDepth 100000 in
theorem ax_w128 : ((List.range 16).map (fun k => lw_tbl[ax_cwL.getD (k + 128) 0]?)) = ((List.range 16).map (fun k => some (Cond.code (ax_y (k + 128)) (ax_bs (k + 128)) (ax_ml (k + 128)) (ax_rt (k + 128))))) := rfl
set_option maxRecDepth 100000 in
theorem ax_w144 : ((List.range 16).map (fun k => lw_tbl[ax_cwL.getD (k + 144) 0]?)) = ((List.range 16).map (fun k => some (Cond.code (ax_y (k + 144)) (ax_bs (k + 144)) (ax_ml (k + 144)) (ax_rt (k + 144))))) := rfl
set_option maxRecDepth 100000 in
theorem ax_w160 : ((List.range 16).map (fun k => lw_tbl[ax_cwL.getD (k + 160) 0]?)) = ((List.range 16).map (fun k => some (Cond.code (ax_y (k + 160)) (ax_bs (k + 160)) (ax_ml (k + 160)) (ax_rt (k + 160))))) := rfl
set_option maxRecDepth 100000 in
theorem ax_w176 : ((List.range 16).map (fun k => lw_tbl[ax_cwL.getD (k + 176) 0]?)) = ((List.range 16).map (fun k => some (Cond.code (ax_y (k + 176)) (ax_bs (k + 176)) (ax_ml (k + 176)) (ax_rt (k + 176))))) := rfl
set_option maxRecDepth 100000 in
theorem ax_w192 : ((List.range 1).map (fun k => lw_tbl[ax_cwL.getD (k + 192) 0]?)) = ((List.range 1).map (fun k => some (Cond.code (ax_y (k + 192)) (ax_bs (k + 192)) (ax_ml (k + 192)) (ax_rt (k + 192))))) := rfl
theorem ax_mapAt {α : Type} {n a k : Nat} {f g : Nat → α} (h : ((List.range n).map (fun k => f (k + a))) = ((List.range n).map (fun k => g (k + a)))) (h1 : a ≤ k) (h2 : k < a + n) : f k = g k := by
  have h3 := congrArg (fun l => l[k - a]?) h
  simp only [List.getElem?_map] at h3
  rw [List.getElem?_range (by omega)] at h3
  simp only [Option.map_some, Option.some.injEq] at h3
  rw [show k - a + a = k by omega] at h3
  exact h3
theorem ax_codeIn (k : Nat) (h : k < 193) : Cond.code (ax_y k) (ax_bs k) (ax_ml k) (ax_rt k) ∈ ax_wsA := by
  refine List.mem_filter.mpr ⟨List.mem_of_getElem? (i := ax_cwL.getD k 0) ?_, rfl⟩
  rcases Nat.lt_or_ge k 16 with h16 | h16
  · exact ax_mapAt (f := fun k => lw_tbl[ax_cwL.getD k 0]?) (g := fun k => some (Cond.code (ax_y k) (ax_bs k) (ax_ml k) (ax_rt k))) ax_w0 (by omega) (by omega)
  rcases Nat.lt_or_ge k 32 with h32 | h32
  · exact ax_mapAt (f := fun k => lw_tbl[ax_cwL.getD k 0]?) (g := fun k => some (Cond.code (ax_y k) (ax_bs k) (ax_ml k) (ax_rt k))) ax_w16 (by omega) (by omega)
  rcases Nat.lt_or_ge k 48 with h48 | h48
  · exact ax_mapAt (f := fun k => lw_tbl[ax_cwL.getD k 0]?) (g := fun k => some (Cond.code (ax_y k) (ax_bs k) (ax_ml k) (ax_rt k))) ax_w32 (by omega) (by omega)
  rcases Nat.lt_or_ge k 64 with h64 | h64
  · exact ax_mapAt (f := fun k => lw_tbl[ax_cwL.getD k 0]?) (g := fun k => some (Cond.code (ax_y k) (ax_bs k) (ax_ml k) (ax_rt k))) ax_w48 (by omega) (by omega)
  rcases Nat.lt_or_ge k 80 with h80 | h80
  · exact ax_mapAt (f := fun k => lw_tbl[ax_cwL.getD k 0]?) (g := fun k => some (Cond.code (ax_y k) (ax_bs k) (ax_ml k) (ax_rt k))) ax_w64 (by omega) (by omega)
  rcases Nat.lt_or_ge k 96 with h96 | h96
  · exact ax_mapAt (f := fun k => lw_tbl[ax_cwL.getD k 0]?) (g := fun k => some (Cond.code (ax_y k) (ax_bs k) (ax_ml k) (ax_rt k))) ax_w80 (by omega) (by omega)
  rcases Nat.lt_or_ge k 112 with h112 | h112
  · exact ax_mapAt (f := fun k => lw_tbl[ax_cwL.getD k 0]?) (g := fun k => some (Cond.code (ax_y k) (ax_bs k) (ax_ml k) (ax_rt k))) ax_w96 (by omega) (by omega)
  rcases Nat.lt_or_ge k 128 with h128 | h128
  · exact ax_mapAt (f := fun k => lw_tbl[ax_cwL.getD k 0]?) (g := fun k => some (Cond.code (ax_y k) (ax_bs k) (ax_ml k) (ax_rt k))) ax_w112 (by omega) (by omega)
  rcases Nat.lt_or_ge k 144 with h144 | h144
  · exact ax_mapAt (f := fun k => lw_tbl[ax_cwL.getD k 0]?) (g := fun k => some (Cond.code (ax_y k) (ax_bs k) (ax_ml k) (ax_rt k))) ax_w128 (by omega) (by omega)
  rcases Nat.lt_or_ge k 160 with h160 | h160
  · exact ax_mapAt (f := fun k => lw_tbl[ax_cwL.getD k 0]?) (g := fun k => some (Cond.code (ax_y k) (ax_bs k) (ax_ml k) (ax_rt k))) ax_w144 (by omega) (by omega)
  rcases Nat.lt_or_ge k 176 with h176 | h176
  · exact ax_mapAt (f := fun k => lw_tbl[ax_cwL.getD k 0]?) (g := fun k => some (Cond.code (ax_y k) (ax_bs k) (ax_ml k) (ax_rt k))) ax_w160 (by omega) (by omega)
  rcases Nat.lt_or_ge k 192 with h192 | h192
  · exact ax_mapAt (f := fun k => lw_tbl[ax_cwL.getD k 0]?) (g := fun k => some (Cond.code (ax_y k) (ax_bs k) (ax_ml k) (ax_rt k))) ax_w176 (by omega) (by omega)
  rcases Nat.lt_or_ge k 193 with h193 | h193
  · exact ax_mapAt (f := fun k => lw_tbl[ax_cwL.getD k 0]?) (g := fun k => some (Cond.code (ax_y k) (ax_bs k) (ax_ml k) (ax_rt k))) ax_w192 (by omega) (by omega)
  exact absurd h (by omega)
theorem ax_inM {i : Nat} {w : Cond} (h : ax_in i w = true) : w ∈ ax_wsA := by
  simp only [ax_in, Bool.and_eq_true, decide_eq_true_eq] at h
  exact List.mem_filter.mpr ⟨List.mem_of_getElem? h.1, h.2⟩
theorem ax_clW : ∀ (ci : Nat) (q : vw_C), ax_cl[ci]? = some q → ((List.range q.2.2).all (fun j => decide (u_lay q.1 q.2.1 j ∈ ax_wsA) && (parseFieldDescriptor (q.2.1 j).2.2.1).isSome && (List.range q.2.2).all (fun i => i == j || decide ((q.2.1 i).2.1 ≠ (q.2.1 j).2.1)))) = true := by
  intro ci q h
  have h2 := List.mem_of_getElem? h
  revert q
  have key : ∀ q ∈ ax_cl, ((List.range q.2.2).all (fun j => decide (u_lay q.1 q.2.1 j ∈ ax_wsA) && (parseFieldDescriptor (q.2.1 j).2.2.1).isSome && (List.range q.2.2).all (fun i => i == j || decide ((q.2.1 i).2.1 ≠ (q.2.1 j).2.1)))) = true := by
    intro q hq
    simp only [ax_cl, List.mem_cons, List.not_mem_nil, or_false] at hq
    rcases hq with rfl | rfl | rfl | rfl | rfl | rfl | rfl | rfl | rfl | rfl | rfl <;> decide +kernel
  exact fun q _ hm => key q hm
