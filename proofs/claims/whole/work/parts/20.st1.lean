/-! changes of the abstract state -/
def as1 (α : Al) (a i v : Nat) : Al := (fun a' i' => if a' = a ∧ i' = i then v else α.1 a' i', α.2)
def as2 (α : Al) (a i : Nat) (v : Int) : Al := (α.1, fun a' i' => if a' = a ∧ i' = i then v else α.2 a' i')
theorem as1_s {α : Al} {a i v : Nat} : (as1 α a i v).1 a i = v := if_pos ⟨rfl, rfl⟩
theorem as1_i {α : Al} {a i v a' i' : Nat} (h : i' ≠ i) : (as1 α a i v).1 a' i' = α.1 a' i' := if_neg (fun e => h e.2)
theorem as1_a {α : Al} {a i v a' i' : Nat} (h : a' ≠ a) : (as1 α a i v).1 a' i' = α.1 a' i' := if_neg (fun e => h e.1)
def st_erase (α : Al) : Al := as1 α 0 3 0
def st_write (α : Al) (c : Nat) : Al := as1 (as1 α 8 (α.1 0 3) c) 0 3 (α.1 0 3 + 1)
def st_forget (α : Al) : Al := as1 α 0 6 0
def st_seen (α : Al) (p w v : Nat) : Al := as1 (as1 (as1 (as1 α 11 (α.1 0 6) p) 12 (α.1 0 6) w) 13 (α.1 0 6) v) 0 6 (α.1 0 6 + 1)
theorem wf_erase {α : Al} (hw : wf α) : wf (st_erase α) := ⟨(@wf_P α hw), (@wf_T α hw), (@wf_N α hw), (Nat.zero_le 160), (@wf_Ps α hw), (@wf_Kn α hw), (@wf_S α hw), (@wf_one α hw), (@wf_kind α hw), (@wf_look α hw), (@wf_keep α hw), (@wf_word α hw), (@wf_pow0 α hw), (@wf_night α hw), (fun i hi => absurd hi (Nat.not_lt_zero i)), (@wf_lie α hw), (@wf_inj α hw), (@wf_pow α hw), (@wf_sp α hw), (@wf_sw α hw), (@wf_sv α hw), (@wf_kf α hw), (@wf_kS0 α hw), (@wf_kL0 α hw), (@wf_kI0 α hw), (@wf_kS1 α hw), (@wf_kL1 α hw), (@wf_kI1 α hw)⟩
theorem vM_erase {μ : Mem} {α : Al} (hv : vM μ α) : vM (xset μ 61 6 0) (st_erase α) := ⟨(@vM_P μ α hv), (@vM_T μ α hv), (@vM_N μ α hv), rfl, (@vM_Ps μ α hv), (@vM_Kn μ α hv), (@vM_S μ α hv), (@vM_one μ α hv), (@vM_kind μ α hv), (@vM_look μ α hv), (@vM_keep μ α hv), (@vM_word μ α hv), (@vM_pow0 μ α hv), (@vM_night μ α hv), (fun i hi => absurd hi (Nat.not_lt_zero i)), (@vM_lie μ α hv), (@vM_pow μ α hv), (@vM_sp μ α hv), (@vM_sw μ α hv), (@vM_sv μ α hv), (@vM_Ch μ α hv), (@vM_wk μ α hv), (@vM_ca μ α hv), (@vM_kf μ α hv), (@vM_kP0 μ α hv), (@vM_kA0 μ α hv), (@vM_kP1 μ α hv), (@vM_kA1 μ α hv)⟩
theorem vX_erase {μ : Mem} {α : Al} (hv : vX μ α) : vX (xset μ 1 1 0) (st_erase α) := ⟨(@vX_P μ α hv), (@vX_T μ α hv), (@vX_N μ α hv), rfl, (@vX_Ps μ α hv), (@vX_Kn μ α hv), (@vX_S μ α hv), (@vX_one μ α hv), (@vX_kind μ α hv), (@vX_look μ α hv), (@vX_keep μ α hv), (@vX_word μ α hv), (@vX_pow0 μ α hv), (@vX_night μ α hv), (fun i hi => absurd hi (Nat.not_lt_zero i)), (@vX_lie μ α hv), (@vX_pow μ α hv), (@vX_sp μ α hv), (@vX_sw μ α hv), (@vX_sv μ α hv), (@vX_Ch μ α hv), (@vX_wk μ α hv), (@vX_ca μ α hv), (@vX_kf μ α hv), (@vX_kP0 μ α hv), (@vX_kA0 μ α hv), (@vX_kP1 μ α hv), (@vX_kA1 μ α hv)⟩
theorem wf_forget {α : Al} (hw : wf α) : wf (st_forget α) := ⟨(@wf_P α hw), (@wf_T α hw), (@wf_N α hw), (@wf_B α hw), (@wf_Ps α hw), (@wf_Kn α hw), (Nat.zero_le 10), (@wf_one α hw), (@wf_kind α hw), (@wf_look α hw), (@wf_keep α hw), (@wf_word α hw), (@wf_pow0 α hw), (@wf_night α hw), (@wf_text α hw), (@wf_lie α hw), (@wf_inj α hw), (@wf_pow α hw), (fun i hi => absurd hi (Nat.not_lt_zero i)), (fun i hi => absurd hi (Nat.not_lt_zero i)), (fun i hi => absurd hi (Nat.not_lt_zero i)), (@wf_kf α hw), (@wf_kS0 α hw), (@wf_kL0 α hw), (@wf_kI0 α hw), (@wf_kS1 α hw), (@wf_kL1 α hw), (@wf_kI1 α hw)⟩
theorem vM_forget {μ : Mem} {α : Al} (hv : vM μ α) : vM (xset μ 61 22 0) (st_forget α) := ⟨(@vM_P μ α hv), (@vM_T μ α hv), (@vM_N μ α hv), (@vM_B μ α hv), (@vM_Ps μ α hv), (@vM_Kn μ α hv), rfl, (@vM_one μ α hv), (@vM_kind μ α hv), (@vM_look μ α hv), (@vM_keep μ α hv), (@vM_word μ α hv), (@vM_pow0 μ α hv), (@vM_night μ α hv), (@vM_text μ α hv), (@vM_lie μ α hv), (@vM_pow μ α hv), (fun i hi => absurd hi (Nat.not_lt_zero i)), (fun i hi => absurd hi (Nat.not_lt_zero i)), (fun i hi => absurd hi (Nat.not_lt_zero i)), (@vM_Ch μ α hv), (@vM_wk μ α hv), (@vM_ca μ α hv), (@vM_kf μ α hv), (@vM_kP0 μ α hv), (@vM_kA0 μ α hv), (@vM_kP1 μ α hv), (@vM_kA1 μ α hv)⟩
theorem vX_forget {μ : Mem} {α : Al} (hv : vX μ α) : vX (xset μ 7 0 0) (st_forget α) := ⟨(@vX_P μ α hv), (@vX_T μ α hv), (@vX_N μ α hv), (@vX_B μ α hv), (@vX_Ps μ α hv), (@vX_Kn μ α hv), rfl, (@vX_one μ α hv), (@vX_kind μ α hv), (@vX_look μ α hv), (@vX_keep μ α hv), (@vX_word μ α hv), (@vX_pow0 μ α hv), (@vX_night μ α hv), (@vX_text μ α hv), (@vX_lie μ α hv), (@vX_pow μ α hv), (fun i hi => absurd hi (Nat.not_lt_zero i)), (fun i hi => absurd hi (Nat.not_lt_zero i)), (fun i hi => absurd hi (Nat.not_lt_zero i)), (@vX_Ch μ α hv), (@vX_wk μ α hv), (@vX_ca μ α hv), (@vX_kf μ α hv), (@vX_kP0 μ α hv), (@vX_kA0 μ α hv), (@vX_kP1 μ α hv), (@vX_kA1 μ α hv)⟩
theorem sp_lt1 {P : Nat → Prop} {n : Nat} (h : ∀ i, i < n → P i) (hn : P n) : ∀ i, i < n + 1 → P i := fun i hi => by
  rcases Nat.lt_or_ge i n with q | q
  · exact h i q
  · rw [show i = n by omega]; exact hn
theorem wf_write {α : Al} {c : Nat} (hw : wf α) (hB : α.1 0 3 < 160) (hc : c < 256) : wf (st_write α c) := ⟨(@wf_P α hw), (@wf_T α hw), (@wf_N α hw), hB, (@wf_Ps α hw), (@wf_Kn α hw), (@wf_S α hw), (@wf_one α hw), (@wf_kind α hw), (@wf_look α hw), (@wf_keep α hw), (@wf_word α hw), (@wf_pow0 α hw), (@wf_night α hw), (sp_lt1 (P := fun i => (st_write α c).1 8 i < 256) (fun i hi => by rw [show (st_write α c).1 8 i = α.1 8 i from as1_i (α := α) (by omega)]; exact wf_text hw i hi) (by rw [show (st_write α c).1 8 (α.1 0 3) = c from as1_s (α := α)]; exact hc)), (@wf_lie α hw), (@wf_inj α hw), (@wf_pow α hw), (@wf_sp α hw), (@wf_sw α hw), (@wf_sv α hw), (@wf_kf α hw), (@wf_kS0 α hw), (@wf_kL0 α hw), (@wf_kI0 α hw), (@wf_kS1 α hw), (@wf_kL1 α hw), (@wf_kI1 α hw)⟩
theorem vM_write {μ : Mem} {α : Al} {c : Nat} (hv : vM μ α) : vM (xset (xset μ 65 (α.1 0 3) (c : Int)) 61 6 ((α.1 0 3 + 1 : Nat) : Int)) (st_write α c) := ⟨(@vM_P μ α hv), (@vM_T μ α hv), (@vM_N μ α hv), rfl, (@vM_Ps μ α hv), (@vM_Kn μ α hv), (@vM_S μ α hv), (@vM_one μ α hv), (@vM_kind μ α hv), (@vM_look μ α hv), (@vM_keep μ α hv), (@vM_word μ α hv), (@vM_pow0 μ α hv), (@vM_night μ α hv), (sp_lt1 (P := fun i => (xset (xset μ 65 (α.1 0 3) (c : Int)) 61 6 ((α.1 0 3 + 1 : Nat) : Int)) 65 i = (((st_write α c).1 8 i : Nat) : Int)) (fun i hi => by rw [show (st_write α c).1 8 i = α.1 8 i from as1_i (α := α) (by omega), show (xset (xset μ 65 (α.1 0 3) (c : Int)) 61 6 ((α.1 0 3 + 1 : Nat) : Int)) 65 i = μ 65 i from xs_j (μ := μ) (c := 65) (by omega)]; exact vM_text hv i hi) (by rw [show (st_write α c).1 8 (α.1 0 3) = c from as1_s (α := α)]; exact xs_s (μ := μ))), (@vM_lie μ α hv), (@vM_pow μ α hv), (@vM_sp μ α hv), (@vM_sw μ α hv), (@vM_sv μ α hv), (@vM_Ch μ α hv), (@vM_wk μ α hv), (@vM_ca μ α hv), (@vM_kf μ α hv), (@vM_kP0 μ α hv), (@vM_kA0 μ α hv), (@vM_kP1 μ α hv), (@vM_kA1 μ α hv)⟩
theorem vX_write {μ : Mem} {α : Al} {c : Nat} (hv : vX μ α) : vX (xset (xset μ 13 (α.1 0 3) (c : Int)) 1 1 ((α.1 0 3 + 1 : Nat) : Int)) (st_write α c) := ⟨(@vX_P μ α hv), (@vX_T μ α hv), (@vX_N μ α hv), rfl, (@vX_Ps μ α hv), (@vX_Kn μ α hv), (@vX_S μ α hv), (@vX_one μ α hv), (@vX_kind μ α hv), (@vX_look μ α hv), (@vX_keep μ α hv), (@vX_word μ α hv), (@vX_pow0 μ α hv), (@vX_night μ α hv), (sp_lt1 (P := fun i => (xset (xset μ 13 (α.1 0 3) (c : Int)) 1 1 ((α.1 0 3 + 1 : Nat) : Int)) 13 i = (((st_write α c).1 8 i : Nat) : Int)) (fun i hi => by rw [show (st_write α c).1 8 i = α.1 8 i from as1_i (α := α) (by omega), show (xset (xset μ 13 (α.1 0 3) (c : Int)) 1 1 ((α.1 0 3 + 1 : Nat) : Int)) 13 i = μ 13 i from xs_j (μ := μ) (c := 13) (by omega)]; exact vX_text hv i hi) (by rw [show (st_write α c).1 8 (α.1 0 3) = c from as1_s (α := α)]; exact xs_s (μ := μ))), (@vX_lie μ α hv), (@vX_pow μ α hv), (@vX_sp μ α hv), (@vX_sw μ α hv), (@vX_sv μ α hv), (@vX_Ch μ α hv), (@vX_wk μ α hv), (@vX_ca μ α hv), (@vX_kf μ α hv), (@vX_kP0 μ α hv), (@vX_kA0 μ α hv), (@vX_kP1 μ α hv), (@vX_kA1 μ α hv)⟩
theorem wf_seen {α : Al} {p w v : Nat} (hw : wf α) (hS : α.1 0 6 < 10) (hp : p < α.1 0 1) (hww : w < 4) (hvv : v < 2) : wf (st_seen α p w v) := ⟨(@wf_P α hw), (@wf_T α hw), (@wf_N α hw), (@wf_B α hw), (@wf_Ps α hw), (@wf_Kn α hw), hS, (@wf_one α hw), (@wf_kind α hw), (@wf_look α hw), (@wf_keep α hw), (@wf_word α hw), (@wf_pow0 α hw), (@wf_night α hw), (@wf_text α hw), (@wf_lie α hw), (@wf_inj α hw), (@wf_pow α hw), (sp_lt1 (P := fun i => (st_seen α p w v).1 11 i < α.1 0 1) (fun i hi => by rw [show (st_seen α p w v).1 11 i = α.1 11 i from as1_i (α := α) (a := 11) (by omega)]; exact wf_sp hw i hi) (by rw [show (st_seen α p w v).1 11 (α.1 0 6) = p from as1_s (α := α) (a := 11)]; exact hp)), (sp_lt1 (P := fun i => (st_seen α p w v).1 12 i < 4) (fun i hi => by rw [show (st_seen α p w v).1 12 i = α.1 12 i from as1_i (α := α) (a := 12) (by omega)]; exact wf_sw hw i hi) (by rw [show (st_seen α p w v).1 12 (α.1 0 6) = w from as1_s (α := α) (a := 12)]; exact hww)), (sp_lt1 (P := fun i => (st_seen α p w v).1 13 i < 2) (fun i hi => by rw [show (st_seen α p w v).1 13 i = α.1 13 i from as1_i (α := α) (a := 13) (by omega)]; exact wf_sv hw i hi) (by rw [show (st_seen α p w v).1 13 (α.1 0 6) = v from as1_s (α := α) (a := 13)]; exact hvv)), (@wf_kf α hw), (@wf_kS0 α hw), (@wf_kL0 α hw), (@wf_kI0 α hw), (@wf_kS1 α hw), (@wf_kL1 α hw), (@wf_kI1 α hw)⟩
theorem vM_seen {μ : Mem} {α : Al} {p w v : Nat} (hv : vM μ α) : vM (xset (xset (xset (xset μ 70 (3 * α.1 0 6) (p : Int)) 70 (3 * α.1 0 6 + 1) (w : Int)) 70 (3 * α.1 0 6 + 2) (v : Int)) 61 22 ((α.1 0 6 + 1 : Nat) : Int)) (st_seen α p w v) := ⟨(@vM_P μ α hv), (@vM_T μ α hv), (@vM_N μ α hv), (@vM_B μ α hv), (@vM_Ps μ α hv), (@vM_Kn μ α hv), rfl, (@vM_one μ α hv), (@vM_kind μ α hv), (@vM_look μ α hv), (@vM_keep μ α hv), (@vM_word μ α hv), (@vM_pow0 μ α hv), (@vM_night μ α hv), (@vM_text μ α hv), (@vM_lie μ α hv), (@vM_pow μ α hv), (sp_lt1 (P := fun i => (xset (xset (xset (xset μ 70 (3 * α.1 0 6) (p : Int)) 70 (3 * α.1 0 6 + 1) (w : Int)) 70 (3 * α.1 0 6 + 2) (v : Int)) 61 22 ((α.1 0 6 + 1 : Nat) : Int)) 70 (3 * i) = (((st_seen α p w v).1 11 i : Nat) : Int)) (fun i hi => by rw [show (st_seen α p w v).1 11 i = α.1 11 i from as1_i (α := α) (a := 11) (by omega), xs_c (by decide), xs_j (by omega), xs_j (by omega), xs_j (by omega)]; exact vM_sp hv i hi) (by rw [show (st_seen α p w v).1 11 (α.1 0 6) = p from as1_s (α := α) (a := 11), xs_c (by decide), xs_j (by omega), xs_j (by omega), xs_s])), (sp_lt1 (P := fun i => (xset (xset (xset (xset μ 70 (3 * α.1 0 6) (p : Int)) 70 (3 * α.1 0 6 + 1) (w : Int)) 70 (3 * α.1 0 6 + 2) (v : Int)) 61 22 ((α.1 0 6 + 1 : Nat) : Int)) 70 (3 * i + 1) = (((st_seen α p w v).1 12 i : Nat) : Int)) (fun i hi => by rw [show (st_seen α p w v).1 12 i = α.1 12 i from as1_i (α := α) (a := 12) (by omega), xs_c (by decide), xs_j (by omega), xs_j (by omega), xs_j (by omega)]; exact vM_sw hv i hi) (by rw [show (st_seen α p w v).1 12 (α.1 0 6) = w from as1_s (α := α) (a := 12), xs_c (by decide), xs_j (by omega), xs_s])), (sp_lt1 (P := fun i => (xset (xset (xset (xset μ 70 (3 * α.1 0 6) (p : Int)) 70 (3 * α.1 0 6 + 1) (w : Int)) 70 (3 * α.1 0 6 + 2) (v : Int)) 61 22 ((α.1 0 6 + 1 : Nat) : Int)) 70 (3 * i + 2) = (((st_seen α p w v).1 13 i : Nat) : Int)) (fun i hi => by rw [show (st_seen α p w v).1 13 i = α.1 13 i from as1_i (α := α) (a := 13) (by omega), xs_c (by decide), xs_j (by omega), xs_j (by omega), xs_j (by omega)]; exact vM_sv hv i hi) (by rw [show (st_seen α p w v).1 13 (α.1 0 6) = v from as1_s (α := α) (a := 13), xs_c (by decide), xs_s])), (@vM_Ch μ α hv), (@vM_wk μ α hv), (@vM_ca μ α hv), (@vM_kf μ α hv), (@vM_kP0 μ α hv), (@vM_kA0 μ α hv), (@vM_kP1 μ α hv), (@vM_kA1 μ α hv)⟩
theorem vX_seen {μ : Mem} {α : Al} {p w v : Nat} (hv : vX μ α) : vX (xset (xset (xset (xset μ 35 (α.1 0 6) (p : Int)) 36 (α.1 0 6) (w : Int)) 37 (α.1 0 6) (v : Int)) 7 0 ((α.1 0 6 + 1 : Nat) : Int)) (st_seen α p w v) := ⟨(@vX_P μ α hv), (@vX_T μ α hv), (@vX_N μ α hv), (@vX_B μ α hv), (@vX_Ps μ α hv), (@vX_Kn μ α hv), rfl, (@vX_one μ α hv), (@vX_kind μ α hv), (@vX_look μ α hv), (@vX_keep μ α hv), (@vX_word μ α hv), (@vX_pow0 μ α hv), (@vX_night μ α hv), (@vX_text μ α hv), (@vX_lie μ α hv), (@vX_pow μ α hv), (sp_lt1 (P := fun i => (xset (xset (xset (xset μ 35 (α.1 0 6) (p : Int)) 36 (α.1 0 6) (w : Int)) 37 (α.1 0 6) (v : Int)) 7 0 ((α.1 0 6 + 1 : Nat) : Int)) 35 i = (((st_seen α p w v).1 11 i : Nat) : Int)) (fun i hi => by rw [show (st_seen α p w v).1 11 i = α.1 11 i from as1_i (α := α) (a := 11) (by omega), xs_c (by decide), xs_c (by decide), xs_c (by decide), xs_j (by omega)]; exact vX_sp hv i hi) (by rw [show (st_seen α p w v).1 11 (α.1 0 6) = p from as1_s (α := α) (a := 11), xs_c (by decide), xs_c (by decide), xs_c (by decide), xs_s])), (sp_lt1 (P := fun i => (xset (xset (xset (xset μ 35 (α.1 0 6) (p : Int)) 36 (α.1 0 6) (w : Int)) 37 (α.1 0 6) (v : Int)) 7 0 ((α.1 0 6 + 1 : Nat) : Int)) 36 i = (((st_seen α p w v).1 12 i : Nat) : Int)) (fun i hi => by rw [show (st_seen α p w v).1 12 i = α.1 12 i from as1_i (α := α) (a := 12) (by omega), xs_c (by decide), xs_c (by decide), xs_j (by omega), xs_c (by decide)]; exact vX_sw hv i hi) (by rw [show (st_seen α p w v).1 12 (α.1 0 6) = w from as1_s (α := α) (a := 12), xs_c (by decide), xs_c (by decide), xs_s])), (sp_lt1 (P := fun i => (xset (xset (xset (xset μ 35 (α.1 0 6) (p : Int)) 36 (α.1 0 6) (w : Int)) 37 (α.1 0 6) (v : Int)) 7 0 ((α.1 0 6 + 1 : Nat) : Int)) 37 i = (((st_seen α p w v).1 13 i : Nat) : Int)) (fun i hi => by rw [show (st_seen α p w v).1 13 i = α.1 13 i from as1_i (α := α) (a := 13) (by omega), xs_c (by decide), xs_j (by omega), xs_c (by decide), xs_c (by decide)]; exact vX_sv hv i hi) (by rw [show (st_seen α p w v).1 13 (α.1 0 6) = v from as1_s (α := α) (a := 13), xs_c (by decide), xs_s])), (@vX_Ch μ α hv), (@vX_wk μ α hv), (@vX_ca μ α hv), (@vX_kf μ α hv), (@vX_kP0 μ α hv), (@vX_kA0 μ α hv), (@vX_kP1 μ α hv), (@vX_kA1 μ α hv)⟩
def r_write (α : Al) (c : Int) : Int := if c < 0 then -3 else if 255 < c then -3 else if α.1 0 3 = 160 then -5 else ((α.1 0 3 + 1 : Nat) : Int)
def t_write (α : Al) (c : Int) : Al := if c < 0 then α else if 255 < c then α else if α.1 0 3 = 160 then α else st_write α c.toNat
def r_seen (α : Al) (p w v : Int) : Int := if p < 0 then -2 else if p < ((α.1 0 1 : Nat) : Int) then (if w < 0 then -3 else if 3 < w then -3 else if v < 0 then -3 else if 1 < v then -3 else if α.1 0 6 = 10 then -5 else ((α.1 0 6 + 1 : Nat) : Int)) else -2
def t_seen (α : Al) (p w v : Int) : Al := if p < 0 then α else if p < ((α.1 0 1 : Nat) : Int) then (if w < 0 then α else if 3 < w then α else if v < 0 then α else if 1 < v then α else if α.1 0 6 = 10 then α else st_seen α p.toNat w.toNat v.toNat) else α
theorem wf_tw {α : Al} (hw : wf α) (c : Int) : wf (t_write α c) := by
  unfold t_write
  have := wf_B hw
  split
  · exact hw
  split
  · exact hw
  split
  · exact hw
  · exact wf_write hw (by omega) (by omega)
theorem wf_ts {α : Al} (hw : wf α) (p w v : Int) : wf (t_seen α p w v) := by
  unfold t_seen
  have := wf_S hw
  split
  · exact hw
  split
  · split
    · exact hw
    split
    · exact hw
    split
    · exact hw
    split
    · exact hw
    split
    · exact hw
    · exact wf_seen hw (by omega) (by omega) (by omega) (by omega)
  · exact hw
set_option maxRecDepth 20000 in
theorem M_write_ok {d : Nat} {c : Int} {μ : Mem} {α : Al} {Q : AV → Mem → Prop} (hv : vM μ α) (hw : wf α) (h : ∀ μ', vM μ' (t_write α c) → Q (xI (r_write α c)) μ') : GM (d + 1) 126 [xR 61, xI c] μ Q := by
  have hB := wf_B hw
  refine ge_M_write ?_
  unfold r_write t_write at h
  refine wi (fun c0 => ?_) (fun c0 => ?_)
  · rw [if_pos c0, if_pos c0] at h; exact h μ hv
  rw [if_neg c0, if_neg c0] at h
  refine wi (fun c1 => ?_) (fun c1 => ?_)
  · rw [if_pos c1, if_pos c1] at h; exact h μ hv
  rw [if_neg c1, if_neg c1] at h
  rw [vM_B hv]
  refine wi (fun c2 => ?_) (fun c2 => ?_)
  · rw [if_pos (by omega), if_pos (by omega)] at h; exact h μ hv
  rw [if_neg (by omega), if_neg (by omega)] at h
  obtain ⟨c, rfl⟩ := Int.eq_ofNat_of_zero_le (show 0 ≤ c by omega)
  rw [wb_eq (by omega) (by omega), iw_k1 (by omega), Int.toNat_natCast]
  rw [Int.toNat_natCast] at h
  exact h _ (vM_write hv)
theorem M_erase_ok {d : Nat} {μ : Mem} {α : Al} {Q : AV → Mem → Prop} (hv : vM μ α) (h : ∀ μ', vM μ' (st_erase α) → Q (xI ((α.1 0 3 : Nat) : Int)) μ') : GM d 128 [xR 61] μ Q := by
  refine ge_M_erase ?_
  rw [vM_B hv]
  exact h _ (vM_erase hv)
theorem M_forget_ok {d : Nat} {μ : Mem} {α : Al} {Q : AV → Mem → Prop} (hv : vM μ α) (h : ∀ μ', vM μ' (st_forget α) → Q (xI ((α.1 0 6 : Nat) : Int)) μ') : GM d 177 [xR 61] μ Q := by
  refine ge_M_forget ?_
  rw [vM_S hv]
  exact h _ (vM_forget hv)
theorem iw_3 {n : Nat} (h : n < 1000000) : iw (3 * (n : Int)) = ((3 * n : Nat) : Int) := by simp only [iw_def]; omega
set_option maxRecDepth 20000 in
theorem M_seen_ok {d : Nat} {p w v : Int} {μ : Mem} {α : Al} {Q : AV → Mem → Prop} (hv : vM μ α) (hw : wf α) (h : ∀ μ', vM μ' (t_seen α p w v) → Q (xI (r_seen α p w v)) μ') : GM (d + 2) 176 [xR 61, xI p, xI w, xI v] μ Q := by
  have hT := wf_T hw
  have hS := wf_S hw
  refine ge_M_seen ?_
  unfold r_seen t_seen at h
  rw [vM_T hv, vM_S hv, iw_m1 (by omega)]
  refine wi (fun c0 => ?_) (fun c0 => ?_)
  · rw [if_pos c0, if_pos c0] at h; exact h μ hv
  rw [if_neg c0, if_neg c0] at h
  refine wi (fun c1 => ?_) (fun c1 => ?_)
  · have c1' : ¬ p < ((α.1 0 1 : Nat) : Int) := by omega
    rw [if_neg c1', if_neg c1'] at h; exact h μ hv
  have c1' : p < ((α.1 0 1 : Nat) : Int) := by omega
  rw [if_pos c1', if_pos c1'] at h
  refine wi (fun c2 => ?_) (fun c2 => ?_)
  · rw [if_pos c2, if_pos c2] at h; exact h μ hv
  rw [if_neg c2, if_neg c2] at h
  refine wi (fun c3 => ?_) (fun c3 => ?_)
  · rw [if_pos c3, if_pos c3] at h; exact h μ hv
  rw [if_neg c3, if_neg c3] at h
  refine wi (fun c4 => ?_) (fun c4 => ?_)
  · rw [if_pos c4, if_pos c4] at h; exact h μ hv
  rw [if_neg c4, if_neg c4] at h
  refine wi (fun c5 => ?_) (fun c5 => ?_)
  · rw [if_pos c5, if_pos c5] at h; exact h μ hv
  rw [if_neg c5, if_neg c5] at h
  refine wi (fun c6 => ?_) (fun c6 => ?_)
  · have c6' : α.1 0 6 = 10 := by omega
    rw [if_pos c6', if_pos c6'] at h; exact h μ hv
  have c6' : ¬ α.1 0 6 = 10 := by omega
  rw [if_neg c6', if_neg c6'] at h
  obtain ⟨p, rfl⟩ := Int.eq_ofNat_of_zero_le (show 0 ≤ p by omega)
  obtain ⟨w, rfl⟩ := Int.eq_ofNat_of_zero_le (show 0 ≤ w by omega)
  obtain ⟨v, rfl⟩ := Int.eq_ofNat_of_zero_le (show 0 ≤ v by omega)
  simp only [Int.toNat_natCast] at h
  simp (disch := omega) only [iw_3, iw_k1, iw_k2, wb_eq, Int.toNat_natCast]
  exact h _ (vM_seen hv)
set_option maxRecDepth 20000 in
theorem X_write_ok {d : Nat} {c : Int} {μ : Mem} {α : Al} {Q : AV → Mem → Prop} (hv : vX μ α) (hw : wf α) (h : ∀ μ', (∀ c j, c ≠ 1 → c ≠ 13 → μ' c j = μ c j) → vX μ' (t_write α c) → Q (xI (r_write α c)) μ') : GM (d + 1) 0 [xR 0, xI c] μ Q := by
  have hB := wf_B hw
  refine ge_X_write ?_
  unfold r_write t_write at h
  refine wi (fun c0 => ?_) (fun c0 => ?_)
  · rw [if_pos c0, if_pos c0] at h; exact h μ (fun _ _ _ _ => rfl) hv
  rw [if_neg c0, if_neg c0] at h
  refine wi (fun c1 => ?_) (fun c1 => ?_)
  · rw [if_pos c1, if_pos c1] at h; exact h μ (fun _ _ _ _ => rfl) hv
  rw [if_neg c1, if_neg c1] at h
  refine ge_Text_append ?_
  rw [vX_B hv]
  refine wi (fun c2 => ?_) (fun c2 => ?_)
  · rw [if_neg (by omega), if_neg (by omega)] at h
    obtain ⟨c, rfl⟩ := Int.eq_ofNat_of_zero_le (show 0 ≤ c by omega)
    rw [wb_eq (by omega) (by omega), iw_k1 (by omega), Int.toNat_natCast]
    rw [Int.toNat_natCast] at h
    refine gI_mk ?_
    rw [if_neg (by decide), xs_s]
    exact h _ (fun c' j h1 h13 => by rw [xs_c h1, xs_c h13]) (vX_write hv)
  · rw [if_pos (by omega), if_pos (by omega)] at h
    refine gI_mk ?_
    rw [if_pos rfl]
    exact h μ (fun _ _ _ _ => rfl) hv
set_option maxRecDepth 20000 in
theorem X_seen_ok {d : Nat} {p w v : Int} {μ : Mem} {α : Al} {Q : AV → Mem → Prop} (hv : vX μ α) (hw : wf α) (h : ∀ μ', (∀ c j, c ≠ 7 → c ≠ 35 → c ≠ 36 → c ≠ 37 → μ' c j = μ c j) → vX μ' (t_seen α p w v) → Q (xI (r_seen α p w v)) μ') : GM (d + 1) 85 [xR 0, xI p, xI w, xI v] μ Q := by
  have hT := wf_T hw
  have hS := wf_S hw
  have rf : ∀ c j, c ≠ 7 → c ≠ 35 → c ≠ 36 → c ≠ 37 → μ c j = μ c j := fun _ _ _ _ _ _ => rfl
  refine ge_X_seen ?_
  unfold r_seen t_seen at h
  rw [vX_T hv]
  refine wi (fun c0 => ?_) (fun c0 => ?_)
  · rw [if_pos c0, if_pos c0] at h; exact h μ rf hv
  rw [if_neg c0, if_neg c0] at h
  refine wi (fun c1 => ?_) (fun c1 => ?_)
  · rw [if_pos c1, if_pos c1] at h
    refine wi (fun c2 => ?_) (fun c2 => ?_)
    · rw [if_pos c2, if_pos c2] at h; exact h μ rf hv
    rw [if_neg c2, if_neg c2] at h
    refine wi (fun c3 => ?_) (fun c3 => ?_)
    · have c3' : ¬ 3 < w := by omega
      rw [if_neg c3', if_neg c3'] at h
      refine wi (fun c4 => ?_) (fun c4 => ?_)
      · rw [if_pos c4, if_pos c4] at h; exact h μ rf hv
      rw [if_neg c4, if_neg c4] at h
      refine wi (fun c5 => ?_) (fun c5 => ?_)
      · rw [if_pos c5, if_pos c5] at h; exact h μ rf hv
      rw [if_neg c5, if_neg c5] at h
      obtain ⟨p, rfl⟩ := Int.eq_ofNat_of_zero_le (show 0 ≤ p by omega)
      obtain ⟨w, rfl⟩ := Int.eq_ofNat_of_zero_le (show 0 ≤ w by omega)
      obtain ⟨v, rfl⟩ := Int.eq_ofNat_of_zero_le (show 0 ≤ v by omega)
      simp only [Int.toNat_natCast] at h
      have key : GM d 86 [xR 7, xI (p : Int), xI (w : Int), xI (v : Int)] μ (gI (fun r2 m1 => if r2 = 0 then (Q (xI (-5)) m1) else (Q (xI (m1 7 0)) m1))) := by
        refine ge_Seen_append ?_
        rw [vX_S hv]
        refine wi (fun c6 => ?_) (fun c6 => ?_)
        · have c6' : ¬ α.1 0 6 = 10 := by omega
          rw [if_neg c6', if_neg c6'] at h
          simp (disch := omega) only [wb_eq, iw_k1, Int.toNat_natCast]
          refine gI_mk ?_
          rw [if_neg (by decide), xs_s]
          exact h _ (fun c' j h7 h35 h36 h37 => by rw [xs_c h7, xs_c h37, xs_c h36, xs_c h35]) (vX_seen hv)
        · have c6' : α.1 0 6 = 10 := by omega
          rw [if_pos c6', if_pos c6'] at h
          refine gI_mk ?_
          rw [if_pos rfl]
          exact h μ rf hv
      refine wi (fun c7 => ?_) (fun c7 => ?_)
      · rw [c7] at key; exact key
      · rw [show (v : Int) = 0 by omega] at key; exact key
    · have c3' : 3 < w := by omega
      rw [if_pos c3', if_pos c3'] at h; exact h μ rf hv
  · rw [if_neg c1, if_neg c1] at h; exact h μ rf hv
theorem X_erase_ok {d : Nat} {μ : Mem} {α : Al} {Q : AV → Mem → Prop} (hv : vX μ α) (h : ∀ μ', (∀ c j, c ≠ 1 → μ' c j = μ c j) → vX μ' (st_erase α) → Q (xI ((α.1 0 3 : Nat) : Int)) μ') : GM d 2 [xR 0] μ Q := by
  refine ge_X_erase ?_
  rw [vX_B hv]
  exact h _ (fun c j h1 => xs_c h1) (vX_erase hv)
theorem X_forget_ok {d : Nat} {μ : Mem} {α : Al} {Q : AV → Mem → Prop} (hv : vX μ α) (h : ∀ μ', (∀ c j, c ≠ 7 → μ' c j = μ c j) → vX μ' (st_forget α) → Q (xI ((α.1 0 6 : Nat) : Int)) μ') : GM d 87 [xR 0] μ Q := by
  refine ge_X_forget ?_
  rw [vX_S hv]
  exact h _ (fun c j h1 => xs_c h1) (vX_forget hv)

