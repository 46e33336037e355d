/-! frames: what the views do not see may change -/
def fM (μ μ' : Mem) : Prop := (∀ j, (j == 0 || j == 2 || j == 4 || j == 6 || j == 22) = true → μ' 61 j = μ 61 j) ∧ ∀ c j, 61 < c → c < 71 → c ≠ 66 → μ' c j = μ c j
def fX (μ μ' : Mem) : Prop := (μ' 0 4 = μ 0 4 ∧ μ' 1 1 = μ 1 1) ∧ ∀ c j, (c == 2 || c == 3 || c == 5 || c == 6 || c == 7 || c == 13 || (Nat.ble 16 c && Nat.ble c 37)) = true → μ' c j = μ c j
theorem fM_refl (μ : Mem) : fM μ μ := ⟨fun _ _ => rfl, fun _ _ _ _ _ => rfl⟩
theorem fX_refl (μ : Mem) : fX μ μ := ⟨⟨rfl, rfl⟩, fun _ _ _ => rfl⟩
theorem fM_trans {μ ν κ : Mem} (h : fM μ ν) (g : fM ν κ) : fM μ κ := ⟨fun j hj => (g.1 j hj).trans (h.1 j hj), fun c j h1 h2 h3 => (g.2 c j h1 h2 h3).trans (h.2 c j h1 h2 h3)⟩
theorem fX_trans {μ ν κ : Mem} (h : fX μ ν) (g : fX ν κ) : fX μ κ := ⟨⟨g.1.1.trans h.1.1, g.1.2.trans h.1.2⟩, fun c j q => (g.2 c j q).trans (h.2 c j q)⟩
theorem vM_fr {μ μ' : Mem} {α : Al} (h : fM μ μ') (hv : vM μ α) : vM μ' α := ⟨((h.1 0 (by decide)).trans (@vM_P μ α hv)), ((h.1 2 (by decide)).trans (@vM_T μ α hv)), ((h.1 4 (by decide)).trans (@vM_N μ α hv)), ((h.1 6 (by decide)).trans (@vM_B μ α hv)), ((h.2 67 24 (by decide) (by decide) (by decide)).trans (@vM_Ps μ α hv)), ((h.2 67 26 (by decide) (by decide) (by decide)).trans (@vM_Kn μ α hv)), ((h.1 22 (by decide)).trans (@vM_S μ α hv)), (fun i hi => (h.2 62 i (by decide) (by decide) (by decide)).trans (@vM_one μ α hv i hi)), (fun i hi => (h.2 63 (5 * i) (by decide) (by decide) (by decide)).trans (@vM_kind μ α hv i hi)), (fun i hi => (h.2 63 (5 * i + 1) (by decide) (by decide) (by decide)).trans (@vM_look μ α hv i hi)), (fun i hi => (h.2 63 (5 * i + 2) (by decide) (by decide) (by decide)).trans (@vM_keep μ α hv i hi)), (fun i hi => (h.2 63 (5 * i + 3) (by decide) (by decide) (by decide)).trans (@vM_word μ α hv i hi)), (fun i hi => (h.2 63 (5 * i + 4) (by decide) (by decide) (by decide)).trans (@vM_pow0 μ α hv i hi)), (fun i hi => (h.2 64 i (by decide) (by decide) (by decide)).trans (@vM_night μ α hv i hi)), (fun i hi => (h.2 65 i (by decide) (by decide) (by decide)).trans (@vM_text μ α hv i hi)), (fun i hi => (h.2 67 i (by decide) (by decide) (by decide)).trans (@vM_lie μ α hv i hi)), (fun i hi => (h.2 67 (6 + i) (by decide) (by decide) (by decide)).trans (@vM_pow μ α hv i hi)), (fun i hi => (h.2 70 (3 * i) (by decide) (by decide) (by decide)).trans (@vM_sp μ α hv i hi)), (fun i hi => (h.2 70 (3 * i + 1) (by decide) (by decide) (by decide)).trans (@vM_sw μ α hv i hi)), (fun i hi => (h.2 70 (3 * i + 2) (by decide) (by decide) (by decide)).trans (@vM_sv μ α hv i hi)), ((h.2 67 25 (by decide) (by decide) (by decide)).trans (@vM_Ch μ α hv)), (fun i hi => (h.2 67 (12 + i) (by decide) (by decide) (by decide)).trans (@vM_wk μ α hv i hi)), (fun i hi => (h.2 67 (18 + i) (by decide) (by decide) (by decide)).trans (@vM_ca μ α hv i hi)), (fun k hk => (h.2 69 k (by decide) (by decide) (by decide)).trans (@vM_kf μ α hv k hk)), (fun q => let w := @vM_kP0 μ α hv q; ⟨(h.2 68 24 (by decide) (by decide) (by decide)).trans w.1, (h.2 68 26 (by decide) (by decide) (by decide)).trans w.2.1, (h.2 68 25 (by decide) (by decide) (by decide)).trans w.2.2⟩), (fun q i hi => let w := @vM_kA0 μ α hv q i hi; ⟨(h.2 68 (0 + i) (by decide) (by decide) (by decide)).trans w.1, (h.2 68 (6 + i) (by decide) (by decide) (by decide)).trans w.2.1, (h.2 68 (12 + i) (by decide) (by decide) (by decide)).trans w.2.2.1, (h.2 68 (18 + i) (by decide) (by decide) (by decide)).trans w.2.2.2⟩), (fun q => let w := @vM_kP1 μ α hv q; ⟨(h.2 68 51 (by decide) (by decide) (by decide)).trans w.1, (h.2 68 53 (by decide) (by decide) (by decide)).trans w.2.1, (h.2 68 52 (by decide) (by decide) (by decide)).trans w.2.2⟩), (fun q i hi => let w := @vM_kA1 μ α hv q i hi; ⟨(h.2 68 (27 + i) (by decide) (by decide) (by decide)).trans w.1, (h.2 68 (33 + i) (by decide) (by decide) (by decide)).trans w.2.1, (h.2 68 (39 + i) (by decide) (by decide) (by decide)).trans w.2.2.1, (h.2 68 (45 + i) (by decide) (by decide) (by decide)).trans w.2.2.2⟩)⟩
theorem vX_fr {μ μ' : Mem} {α : Al} (h : fX μ μ') (hv : vX μ α) : vX μ' α := ⟨((h.2 2 0 (by decide)).trans (@vX_P μ α hv)), ((h.2 2 1 (by decide)).trans (@vX_T μ α hv)), ((h.2 2 2 (by decide)).trans (@vX_N μ α hv)), ((h.1.2).trans (@vX_B μ α hv)), ((h.2 3 1 (by decide)).trans (@vX_Ps μ α hv)), ((h.2 3 3 (by decide)).trans (@vX_Kn μ α hv)), ((h.2 7 0 (by decide)).trans (@vX_S μ α hv)), (fun i hi => (h.2 16 i (by decide)).trans (@vX_one μ α hv i hi)), (fun i hi => (h.2 17 i (by decide)).trans (@vX_kind μ α hv i hi)), (fun i hi => (h.2 18 i (by decide)).trans (@vX_look μ α hv i hi)), (fun i hi => (h.2 21 i (by decide)).trans (@vX_keep μ α hv i hi)), (fun i hi => (h.2 19 i (by decide)).trans (@vX_word μ α hv i hi)), (fun i hi => (h.2 20 i (by decide)).trans (@vX_pow0 μ α hv i hi)), (fun i hi => (h.2 22 i (by decide)).trans (@vX_night μ α hv i hi)), (fun i hi => (h.2 13 i (by decide)).trans (@vX_text μ α hv i hi)), (fun i hi => (h.2 23 i (by decide)).trans (@vX_lie μ α hv i hi)), (fun i hi => (h.2 25 i (by decide)).trans (@vX_pow μ α hv i hi)), (fun i hi => (h.2 35 i (by decide)).trans (@vX_sp μ α hv i hi)), (fun i hi => (h.2 36 i (by decide)).trans (@vX_sw μ α hv i hi)), (fun i hi => (h.2 37 i (by decide)).trans (@vX_sv μ α hv i hi)), ((h.2 3 2 (by decide)).trans (@vX_Ch μ α hv)), (fun i hi => (h.2 26 i (by decide)).trans (@vX_wk μ α hv i hi)), (fun i hi => (h.2 24 i (by decide)).trans (@vX_ca μ α hv i hi)), (let ⟨kb, h1, h2, h3⟩ := @vX_kf μ α hv; ⟨kb, h1, (h.1.1).trans h2, h3⟩), (fun q => let w := @vX_kP0 μ α hv q; ⟨(h.2 5 1 (by decide)).trans w.1, (h.2 5 3 (by decide)).trans w.2.1, (h.2 5 2 (by decide)).trans w.2.2⟩), (fun q i hi => let w := @vX_kA0 μ α hv q i hi; ⟨(h.2 27 i (by decide)).trans w.1, (h.2 29 i (by decide)).trans w.2.1, (h.2 30 i (by decide)).trans w.2.2.1, (h.2 28 i (by decide)).trans w.2.2.2⟩), (fun q => let w := @vX_kP1 μ α hv q; ⟨(h.2 6 1 (by decide)).trans w.1, (h.2 6 3 (by decide)).trans w.2.1, (h.2 6 2 (by decide)).trans w.2.2⟩), (fun q i hi => let w := @vX_kA1 μ α hv q i hi; ⟨(h.2 31 i (by decide)).trans w.1, (h.2 33 i (by decide)).trans w.2.1, (h.2 34 i (by decide)).trans w.2.2.1, (h.2 32 i (by decide)).trans w.2.2.2⟩)⟩
/-! words said -/
def st_work (α : Al) (t : Nat) : Al := (fun r i => if r = 10 ∧ i = t then (if α.1 2 t = 2 then α.1 10 t - 1 else α.1 10 t) else α.1 r i, fun r i => if r = 1 ∧ i = t then iw (α.2 1 t + 1) else α.2 r i)
def st_know (α : Al) (k : Nat) : Al := as1 α 0 5 (α.1 0 5 ||| 2 ^ k)
def t_hear (α : Al) (p : Nat) (w : Int) : Al := if sp_works α (α.1 9 p) p w = 0 then (if α.1 1 (α.1 4 p) = 3 then α else if α.1 2 p = 0 then α else if ((α.1 5 p : Nat) : Int) = w then st_know α (α.1 4 p) else α) else st_work α (α.1 9 p)
def r_say (α : Al) (p w : Int) : Int := if p < 0 then -2 else if p < ((α.1 0 1 : Nat) : Int) then (if w < 0 then -3 else if 3 < w then -3 else sp_works α (α.1 9 p.toNat) p.toNat w) else -2
def t_say (α : Al) (p w : Int) : Al := if p < 0 then α else if p < ((α.1 0 1 : Nat) : Int) then (if w < 0 then α else if 3 < w then α else t_hear α p.toNat w) else α
theorem sp_works_pow {α : Al} {t p : Nat} {w : Int} (h : ¬ sp_works α t p w = 0) (h2 : α.1 2 t = 2) : 0 < α.1 10 t := by
  unfold sp_works at h
  rw [h2] at h
  by_cases c : 0 < α.1 10 t
  · exact c
  · simp [c] at h
theorem st_work_p (α : Al) (t i : Nat) : (st_work α t).1 10 i = if i = t then (if α.1 2 t = 2 then α.1 10 t - 1 else α.1 10 t) else α.1 10 i := by
  by_cases c : i = t
  · rw [if_pos c]; exact if_pos ⟨rfl, c⟩
  · rw [if_neg c]; exact if_neg (fun e => c e.2)
theorem st_work_w (α : Al) (t i : Nat) : (st_work α t).2 1 i = if i = t then iw (α.2 1 t + 1) else α.2 1 i := by
  by_cases c : i = t
  · rw [if_pos c]; exact if_pos ⟨rfl, c⟩
  · rw [if_neg c]; exact if_neg (fun e => c e.2)
theorem wf_work {α : Al} (hw : wf α) {t : Nat} (ht : t < α.1 0 1) : wf (st_work α t) := by
  have pE : ∀ i : Nat, i < α.1 0 1 → (st_work α t).1 10 i < 10 := by
    intro i hi
    have := wf_pow hw t ht
    have := wf_pow hw i hi
    rw [st_work_p]
    split
    · split <;> omega
    · omega
  exact ⟨(@wf_P α hw), (@wf_T α hw), (@wf_N α hw), (@wf_B α hw), (@wf_Ps α hw), (@wf_Kn α hw), (@wf_S α hw), (@wf_one α hw), (@wf_kind α hw), (@wf_look α hw), (@wf_keep α hw), (@wf_word α hw), (@wf_pow0 α hw), (@wf_night α hw), (@wf_text α hw), (@wf_lie α hw), (@wf_inj α hw), pE, (@wf_sp α hw), (@wf_sw α hw), (@wf_sv α hw), (@wf_kf α hw), (@wf_kS0 α hw), (@wf_kL0 α hw), (@wf_kI0 α hw), (@wf_kS1 α hw), (@wf_kL1 α hw), (@wf_kI1 α hw)⟩
theorem wf_know {α : Al} (hw : wf α) {k : Nat} (hk : k < 5) : wf (st_know α k) := by
  have kE : α.1 0 5 ||| 2 ^ k < 32 := by
    have h1 : (2 : Nat) ^ k < 2 ^ 5 := Nat.pow_lt_pow_right (by decide) hk
    exact Nat.or_lt_two_pow (n := 5) (wf_Kn hw) h1
  exact ⟨(@wf_P α hw), (@wf_T α hw), (@wf_N α hw), (@wf_B α hw), (@wf_Ps α hw), kE, (@wf_S α hw), (@wf_one α hw), (@wf_kind α hw), (@wf_look α hw), (@wf_keep α hw), (@wf_word α hw), (@wf_pow0 α hw), (@wf_night α hw), (@wf_text α hw), (@wf_lie α hw), (@wf_inj α hw), (@wf_pow α hw), (@wf_sp α hw), (@wf_sw α hw), (@wf_sv α hw), (@wf_kf α hw), (@wf_kS0 α hw), (@wf_kL0 α hw), (@wf_kI0 α hw), (@wf_kS1 α hw), (@wf_kL1 α hw), (@wf_kI1 α hw)⟩
theorem vM_know {μ : Mem} {α : Al} {k : Nat} {x : Int} (hv : vM μ α) (hw : wf α) (hx : x = ((α.1 0 5 ||| 2 ^ k : Nat) : Int)) : vM (xset μ 67 26 x) (st_know α k) := by
  have hT := wf_T hw
  exact ⟨((xs_c (μ := μ) (by decide)).trans (@vM_P μ α hv)), ((xs_c (μ := μ) (by decide)).trans (@vM_T μ α hv)), ((xs_c (μ := μ) (by decide)).trans (@vM_N μ α hv)), ((xs_c (μ := μ) (by decide)).trans (@vM_B μ α hv)), ((xs_j (μ := μ) (by decide)).trans (@vM_Ps μ α hv)), (xs_s.trans hx), ((xs_c (μ := μ) (by decide)).trans (@vM_S μ α hv)), (fun i hi => (xs_c (μ := μ) (by decide)).trans (@vM_one μ α hv i hi)), (fun i hi => (xs_c (μ := μ) (by decide)).trans (@vM_kind μ α hv i hi)), (fun i hi => (xs_c (μ := μ) (by decide)).trans (@vM_look μ α hv i hi)), (fun i hi => (xs_c (μ := μ) (by decide)).trans (@vM_keep μ α hv i hi)), (fun i hi => (xs_c (μ := μ) (by decide)).trans (@vM_word μ α hv i hi)), (fun i hi => (xs_c (μ := μ) (by decide)).trans (@vM_pow0 μ α hv i hi)), (fun i hi => (xs_c (μ := μ) (by decide)).trans (@vM_night μ α hv i hi)), (fun i hi => (xs_c (μ := μ) (by decide)).trans (@vM_text μ α hv i hi)), (fun i hi => (xs_j (μ := μ) (by have : i < α.1 0 1 := hi; omega)).trans (@vM_lie μ α hv i hi)), (fun i hi => (xs_j (μ := μ) (by have : i < α.1 0 1 := hi; omega)).trans (@vM_pow μ α hv i hi)), (fun i hi => (xs_c (μ := μ) (by decide)).trans (@vM_sp μ α hv i hi)), (fun i hi => (xs_c (μ := μ) (by decide)).trans (@vM_sw μ α hv i hi)), (fun i hi => (xs_c (μ := μ) (by decide)).trans (@vM_sv μ α hv i hi)), ((xs_j (μ := μ) (by decide)).trans (@vM_Ch μ α hv)), (fun i hi => (xs_j (μ := μ) (by have : i < α.1 0 1 := hi; omega)).trans (@vM_wk μ α hv i hi)), (fun i hi => (xs_j (μ := μ) (by have : i < α.1 0 1 := hi; omega)).trans (@vM_ca μ α hv i hi)), (fun k hk => (xs_c (μ := μ) (by decide)).trans (@vM_kf μ α hv k hk)), (fun q => let w := @vM_kP0 μ α hv q; ⟨(xs_c (μ := μ) (by decide)).trans w.1, (xs_c (μ := μ) (by decide)).trans w.2.1, (xs_c (μ := μ) (by decide)).trans w.2.2⟩), (fun q i hi => let w := @vM_kA0 μ α hv q i hi; ⟨(xs_c (μ := μ) (by decide)).trans w.1, (xs_c (μ := μ) (by decide)).trans w.2.1, (xs_c (μ := μ) (by decide)).trans w.2.2.1, (xs_c (μ := μ) (by decide)).trans w.2.2.2⟩), (fun q => let w := @vM_kP1 μ α hv q; ⟨(xs_c (μ := μ) (by decide)).trans w.1, (xs_c (μ := μ) (by decide)).trans w.2.1, (xs_c (μ := μ) (by decide)).trans w.2.2⟩), (fun q i hi => let w := @vM_kA1 μ α hv q i hi; ⟨(xs_c (μ := μ) (by decide)).trans w.1, (xs_c (μ := μ) (by decide)).trans w.2.1, (xs_c (μ := μ) (by decide)).trans w.2.2.1, (xs_c (μ := μ) (by decide)).trans w.2.2.2⟩)⟩
theorem vX_know {μ : Mem} {α : Al} {k : Nat} {x : Int} (hv : vX μ α) (hx : x = ((α.1 0 5 ||| 2 ^ k : Nat) : Int)) : vX (xset μ 3 3 x) (st_know α k) := ⟨(@vX_P μ α hv), (@vX_T μ α hv), (@vX_N μ α hv), (@vX_B μ α hv), (@vX_Ps μ α hv), hx, (@vX_S μ α hv), (@vX_one μ α hv), (@vX_kind μ α hv), (@vX_look μ α hv), (@vX_keep μ α hv), (@vX_word μ α hv), (@vX_pow0 μ α hv), (@vX_night μ α hv), (@vX_text μ α hv), (@vX_lie μ α hv), (@vX_pow μ α hv), (@vX_sp μ α hv), (@vX_sw μ α hv), (@vX_sv μ α hv), (@vX_Ch μ α hv), (@vX_wk μ α hv), (@vX_ca μ α hv), (@vX_kf μ α hv), (@vX_kP0 μ α hv), (@vX_kA0 μ α hv), (@vX_kP1 μ α hv), (@vX_kA1 μ α hv)⟩
theorem vM_work {μ : Mem} {α : Al} {t : Nat} (hv : vM μ α) (hw : wf α) (ht : t < α.1 0 1) : vM (xset (xset μ 67 (12 + t) (iw (α.2 1 t + 1))) 67 (6 + t) (((st_work α t).1 10 t : Nat) : Int)) (st_work α t) := by
  have hT := wf_T hw
  have fr : ∀ j, j ≠ 6 + t → j ≠ 12 + t → (xset (xset μ 67 (12 + t) (iw (α.2 1 t + 1))) 67 (6 + t) (((st_work α t).1 10 t : Nat) : Int)) 67 j = μ 67 j := fun j h1 h2 => by rw [xs_j h1, xs_j h2]
  have fc : ∀ c j, c ≠ 67 → (xset (xset μ 67 (12 + t) (iw (α.2 1 t + 1))) 67 (6 + t) (((st_work α t).1 10 t : Nat) : Int)) c j = μ c j := fun c j h1 => by rw [xs_c h1, xs_c h1]
  have pE : ∀ i : Nat, i < α.1 0 1 → (xset (xset μ 67 (12 + t) (iw (α.2 1 t + 1))) 67 (6 + t) (((st_work α t).1 10 t : Nat) : Int)) 67 (6 + i) = (((st_work α t).1 10 i : Nat) : Int) := by
    intro i hi
    by_cases c : i = t
    · rw [c]; exact xs_s
    · rw [fr _ (by omega) (by omega), st_work_p, if_neg c]; exact vM_pow hv i hi
  have wE : ∀ i : Nat, i < α.1 0 1 → (xset (xset μ 67 (12 + t) (iw (α.2 1 t + 1))) 67 (6 + t) (((st_work α t).1 10 t : Nat) : Int)) 67 (12 + i) = (st_work α t).2 1 i := by
    intro i hi
    rw [st_work_w]
    by_cases c : i = t
    · rw [c, if_pos rfl, xs_j (by omega)]; exact xs_s
    · rw [fr _ (by omega) (by omega), if_neg c]; exact vM_wk hv i hi
  exact ⟨((fc 61 0 (by decide)).trans (@vM_P μ α hv)), ((fc 61 2 (by decide)).trans (@vM_T μ α hv)), ((fc 61 4 (by decide)).trans (@vM_N μ α hv)), ((fc 61 6 (by decide)).trans (@vM_B μ α hv)), ((fr 24 (by omega) (by omega)).trans (@vM_Ps μ α hv)), ((fr 26 (by omega) (by omega)).trans (@vM_Kn μ α hv)), ((fc 61 22 (by decide)).trans (@vM_S μ α hv)), (fun i hi => (fc 62 i (by decide)).trans (@vM_one μ α hv i hi)), (fun i hi => (fc 63 (5 * i) (by decide)).trans (@vM_kind μ α hv i hi)), (fun i hi => (fc 63 (5 * i + 1) (by decide)).trans (@vM_look μ α hv i hi)), (fun i hi => (fc 63 (5 * i + 2) (by decide)).trans (@vM_keep μ α hv i hi)), (fun i hi => (fc 63 (5 * i + 3) (by decide)).trans (@vM_word μ α hv i hi)), (fun i hi => (fc 63 (5 * i + 4) (by decide)).trans (@vM_pow0 μ α hv i hi)), (fun i hi => (fc 64 i (by decide)).trans (@vM_night μ α hv i hi)), (fun i hi => (fc 65 i (by decide)).trans (@vM_text μ α hv i hi)), (fun i hi => (fr i (by have : i < α.1 0 1 := hi; omega) (by have : i < α.1 0 1 := hi; omega)).trans (@vM_lie μ α hv i hi)), pE, (fun i hi => (fc 70 (3 * i) (by decide)).trans (@vM_sp μ α hv i hi)), (fun i hi => (fc 70 (3 * i + 1) (by decide)).trans (@vM_sw μ α hv i hi)), (fun i hi => (fc 70 (3 * i + 2) (by decide)).trans (@vM_sv μ α hv i hi)), ((fr 25 (by omega) (by omega)).trans (@vM_Ch μ α hv)), wE, (fun i hi => (fr (18 + i) (by have : i < α.1 0 1 := hi; omega) (by have : i < α.1 0 1 := hi; omega)).trans (@vM_ca μ α hv i hi)), (fun k hk => (fc 69 k (by decide)).trans (@vM_kf μ α hv k hk)), (fun q => let w := @vM_kP0 μ α hv q; ⟨(fc 68 24 (by decide)).trans w.1, (fc 68 26 (by decide)).trans w.2.1, (fc 68 25 (by decide)).trans w.2.2⟩), (fun q i hi => let w := @vM_kA0 μ α hv q i hi; ⟨(fc 68 (0 + i) (by decide)).trans w.1, (fc 68 (6 + i) (by decide)).trans w.2.1, (fc 68 (12 + i) (by decide)).trans w.2.2.1, (fc 68 (18 + i) (by decide)).trans w.2.2.2⟩), (fun q => let w := @vM_kP1 μ α hv q; ⟨(fc 68 51 (by decide)).trans w.1, (fc 68 53 (by decide)).trans w.2.1, (fc 68 52 (by decide)).trans w.2.2⟩), (fun q i hi => let w := @vM_kA1 μ α hv q i hi; ⟨(fc 68 (27 + i) (by decide)).trans w.1, (fc 68 (33 + i) (by decide)).trans w.2.1, (fc 68 (39 + i) (by decide)).trans w.2.2.1, (fc 68 (45 + i) (by decide)).trans w.2.2.2⟩)⟩
theorem vX_work {μ μ' : Mem} {α : Al} {t : Nat} (hv : vX μ α) (fc : ∀ c j, c ≠ 25 → c ≠ 26 → μ' c j = μ c j) (fp : ∀ i, i < α.1 0 1 → μ' 25 i = (((st_work α t).1 10 i : Nat) : Int)) (fw : ∀ i, i < α.1 0 1 → μ' 26 i = (st_work α t).2 1 i) : vX μ' (st_work α t) := ⟨((fc 2 0 (by decide) (by decide)).trans (@vX_P μ α hv)), ((fc 2 1 (by decide) (by decide)).trans (@vX_T μ α hv)), ((fc 2 2 (by decide) (by decide)).trans (@vX_N μ α hv)), ((fc 1 1 (by decide) (by decide)).trans (@vX_B μ α hv)), ((fc 3 1 (by decide) (by decide)).trans (@vX_Ps μ α hv)), ((fc 3 3 (by decide) (by decide)).trans (@vX_Kn μ α hv)), ((fc 7 0 (by decide) (by decide)).trans (@vX_S μ α hv)), (fun i hi => (fc 16 i (by decide) (by decide)).trans (@vX_one μ α hv i hi)), (fun i hi => (fc 17 i (by decide) (by decide)).trans (@vX_kind μ α hv i hi)), (fun i hi => (fc 18 i (by decide) (by decide)).trans (@vX_look μ α hv i hi)), (fun i hi => (fc 21 i (by decide) (by decide)).trans (@vX_keep μ α hv i hi)), (fun i hi => (fc 19 i (by decide) (by decide)).trans (@vX_word μ α hv i hi)), (fun i hi => (fc 20 i (by decide) (by decide)).trans (@vX_pow0 μ α hv i hi)), (fun i hi => (fc 22 i (by decide) (by decide)).trans (@vX_night μ α hv i hi)), (fun i hi => (fc 13 i (by decide) (by decide)).trans (@vX_text μ α hv i hi)), (fun i hi => (fc 23 i (by decide) (by decide)).trans (@vX_lie μ α hv i hi)), fp, (fun i hi => (fc 35 i (by decide) (by decide)).trans (@vX_sp μ α hv i hi)), (fun i hi => (fc 36 i (by decide) (by decide)).trans (@vX_sw μ α hv i hi)), (fun i hi => (fc 37 i (by decide) (by decide)).trans (@vX_sv μ α hv i hi)), ((fc 3 2 (by decide) (by decide)).trans (@vX_Ch μ α hv)), fw, (fun i hi => (fc 24 i (by decide) (by decide)).trans (@vX_ca μ α hv i hi)), (let ⟨kb, h1, h2, h3⟩ := @vX_kf μ α hv; ⟨kb, h1, (fc 0 4 (by decide) (by decide)).trans h2, h3⟩), (fun q => let w := @vX_kP0 μ α hv q; ⟨(fc 5 1 (by decide) (by decide)).trans w.1, (fc 5 3 (by decide) (by decide)).trans w.2.1, (fc 5 2 (by decide) (by decide)).trans w.2.2⟩), (fun q i hi => let w := @vX_kA0 μ α hv q i hi; ⟨(fc 27 i (by decide) (by decide)).trans w.1, (fc 29 i (by decide) (by decide)).trans w.2.1, (fc 30 i (by decide) (by decide)).trans w.2.2.1, (fc 28 i (by decide) (by decide)).trans w.2.2.2⟩), (fun q => let w := @vX_kP1 μ α hv q; ⟨(fc 6 1 (by decide) (by decide)).trans w.1, (fc 6 3 (by decide) (by decide)).trans w.2.1, (fc 6 2 (by decide) (by decide)).trans w.2.2⟩), (fun q i hi => let w := @vX_kA1 μ α hv q i hi; ⟨(fc 31 i (by decide) (by decide)).trans w.1, (fc 33 i (by decide) (by decide)).trans w.2.1, (fc 34 i (by decide) (by decide)).trans w.2.2.1, (fc 32 i (by decide) (by decide)).trans w.2.2.2⟩)⟩
theorem wf_tsay {α : Al} (hw : wf α) (p w : Int) : wf (t_say α p w) := by
  have hP := wf_P hw
  unfold t_say
  split
  · exact hw
  split
  · split
    · exact hw
    split
    · exact hw
    unfold t_hear
    have hp : p.toNat < α.1 0 1 := by omega
    have hk := wf_keep hw _ hp
    split
    · split
      · exact hw
      split
      · exact hw
      split
      · exact wf_know hw (by omega)
      · exact hw
    · exact wf_work hw (wf_lie hw _ hp).1
  · exact hw
theorem x_know {a k : Nat} (ha : a < 32) (hk : k < 5) : xior (a : Int) (xshl 1 (k : Int)) = ((a ||| 2 ^ k : Nat) : Int) := by
  have h2 : (2 : Nat) ^ k < 2147483648 := Nat.pow_lt_pow_right (n := 31) (by decide) (by omega)
  rw [sp_one (by omega), xior_nat (by omega) h2]
theorem iw_s1 {n : Nat} (h0 : 0 < n) (h : n < 1000000) : iw ((n : Int) - 1) = ((n - 1 : Nat) : Int) := by simp only [iw_def]; omega
set_option maxRecDepth 20000 in
theorem M_say_ok {d : Nat} {p w : Int} {μ : Mem} {α : Al} {Q : AV → Mem → Prop} (hv : vM μ α) (hw : wf α) (h : ∀ μ', vM μ' (t_say α p w) → Q (xI (r_say α p w)) μ') : GM (d + 4) 160 [xR 61, xI p, xI w] μ Q := by
  have hT := wf_T hw
  have hP := wf_P hw
  refine ge_M_say ?_
  unfold r_say t_say at h
  rw [vM_T hv, iw_m1 (by omega)]
  refine wi (fun c0 => ?_) (fun c0 => ?_)
  · rw [if_pos c0, if_pos c0] at h; exact h μ hv
  rw [if_neg c0, if_neg c0] at h
  refine wi (fun c1 => ?_) (fun c1 => ?_)
  · have c1' : ¬ p < ((α.1 0 1 : Nat) : Int) := by omega
    rw [if_neg c1', if_neg c1'] at h; exact h μ hv
  have c1' : p < ((α.1 0 1 : Nat) : Int) := by omega
  rw [if_pos c1', if_pos c1'] at h
  refine wi (fun c2 => ?_) (fun c2 => ?_)
  · rw [if_pos c2, if_pos c2] at h; exact h μ hv
  rw [if_neg c2, if_neg c2] at h
  refine wi (fun c3 => ?_) (fun c3 => ?_)
  · rw [if_pos c3, if_pos c3] at h; exact h μ hv
  rw [if_neg c3, if_neg c3] at h
  obtain ⟨p, rfl⟩ := Int.eq_ofNat_of_zero_le (show 0 ≤ p by omega)
  rw [Int.toNat_natCast] at h
  have hp : p < α.1 0 1 := by omega
  have hl := (wf_lie hw p hp).1
  have hk := wf_keep hw p hp
  refine wb_i (by omega) (by omega) ?_
  rw [Int.toNat_natCast, vM_lie hv p hp]
  refine M_works_ok hv hw hl hp ?_
  refine gI_mk ?_
  unfold t_hear at h
  refine wi (fun c4 => ?_) (fun c4 => ?_)
  · rw [if_pos c4] at h
    rw [c4] at h
    have en : ∀ μ', Q (xI 0) μ' → DW (d + 4) 160 82 [xR 61, xI (p : Int), xI w, xI ((α.1 9 p : Nat) : Int), xI (sp_works α (α.1 9 p) p w)] μ' Q := fun μ' hq => by
      refine sg_M_say_82 ?_
      rw [if_pos c4]; exact hq
    simp (disch := omega) only [iw_50, iw_k2, iw_k3, wb_eq, Int.toNat_natCast, vM_keep hv, vM_kind hv, vM_word hv, vM_one hv, vM_Kn hv, ii_3, ii_p]
    refine wi (fun c5 => ?_) (fun c5 => ?_)
    · rw [if_pos c5] at h; exact en _ (h μ hv)
    rw [if_neg c5] at h
    refine wi (fun c6 => ?_) (fun c6 => ?_)
    · rw [if_neg (by omega)] at h
      refine wi (fun c7 => ?_) (fun c7 => ?_)
      · rw [if_pos c7] at h
        have e := x_know (k := α.1 4 p) (wf_Kn hw) (by omega)
        exact en _ (h _ (vM_know hv hw e))
      · rw [if_neg c7] at h; exact en _ (h μ hv)
    · rw [if_pos (by omega)] at h; exact en _ (h μ hv)
  · rw [if_neg c4] at h
    have c4' : sp_works α (α.1 9 p) p w = 1 := by rcases sp_works01 α (α.1 9 p) p w with q | q; exact absurd q c4; exact q
    rw [c4'] at h
    have en : ∀ μ', Q (xI 1) μ' → DW (d + 4) 160 82 [xR 61, xI (p : Int), xI w, xI ((α.1 9 p : Nat) : Int), xI (sp_works α (α.1 9 p) p w)] μ' Q := fun μ' hq => by
      refine sg_M_say_82 ?_
      rw [if_neg c4]; exact hq
    have hx : ∀ (x : Int), xset μ 67 (12 + α.1 9 p) x 67 (6 + α.1 9 p) = μ 67 (6 + α.1 9 p) := fun x => xs_j (by omega)
    have hpw := wf_pow hw _ hl
    simp (disch := omega) only [iw_50, iw_12, iw_6, wb_eq, Int.toNat_natCast, hx, vM_kind hv, vM_wk hv, vM_pow hv, ii_2]
    have hh := h _ (vM_work hv hw hl)
    have e1 := st_work_p α (α.1 9 p) (α.1 9 p)
    rw [if_pos rfl] at e1
    refine wi (fun c5 => ?_) (fun c5 => ?_)
    · have hpp := sp_works_pow c4 c5
      rw [iw_s1 hpp (by omega)]
      rw [if_pos c5] at e1
      rw [e1] at hh
      exact en _ hh
    · rw [iw_s0 (by omega)]
      rw [if_neg c5] at e1
      rw [e1] at hh
      exact en _ hh
set_option maxRecDepth 20000 in
theorem X_hear_ok {d p : Nat} {w : Int} {μ : Mem} {α : Al} {Q : AV → Mem → Prop} (hv : vX μ α) (hw : wf α) (hp : p < α.1 0 1) (h : ∀ μ', (∀ c j, c ≠ 3 → c ≠ 25 → c ≠ 26 → μ' c j = μ c j) → vX μ' (t_hear α p w) → Q (xI (sp_works α (α.1 9 p) p w)) μ') : GM (d + 2) 62 [xR 3, xI (p : Int), xI w] μ Q := by
  have hT := wf_T hw
  have hP := wf_P hw
  have rf : ∀ c j, c ≠ 3 → c ≠ 25 → c ≠ 26 → μ c j = μ c j := fun _ _ _ _ _ => rfl
  have hl := (wf_lie hw p hp).1
  have hk := wf_keep hw p hp
  refine ge_Now_hear ?_
  refine wb_i (by omega) (by omega) ?_
  rw [Int.toNat_natCast, vX_lie hv p hp]
  refine X_works_ok hv hw hl hp ?_
  refine gI_mk ?_
  unfold t_hear at h
  refine wi (fun c4 => ?_) (fun c4 => ?_)
  · rw [if_pos c4] at h
    rw [c4] at h
    simp (disch := omega) only [wb_eq, Int.toNat_natCast, vX_keep hv, vX_kind hv, vX_word hv, vX_one hv, vX_Kn hv, ii_3, ii_0]
    refine wi (fun c5 => ?_) (fun c5 => ?_)
    · rw [if_pos c5] at h; exact h μ rf hv
    rw [if_neg c5] at h
    refine wi (fun c6 => ?_) (fun c6 => ?_)
    · rw [if_pos c6] at h; exact h μ rf hv
    · rw [if_neg c6] at h
      refine wi (fun c7 => ?_) (fun c7 => ?_)
      · rw [if_pos c7] at h
        have e := x_know (k := α.1 4 p) (wf_Kn hw) (by omega)
        exact h _ (fun c j h3 _ _ => xs_c h3) (vX_know hv e)
      · rw [if_neg c7] at h; exact h μ rf hv
  · rw [if_neg c4] at h
    have c4' : sp_works α (α.1 9 p) p w = 1 := by rcases sp_works01 α (α.1 9 p) p w with q | q; exact absurd q c4; exact q
    rw [c4'] at h
    have hpw := wf_pow hw _ hl
    simp (disch := omega) only [wb_eq, Int.toNat_natCast, vX_kind hv, vX_wk hv, vX_pow hv, ii_2]
    refine wi (fun c5 => ?_) (fun c5 => ?_)
    · have hpp := sp_works_pow c4 c5
      rw [iw_s1 hpp (by omega)]
      refine h _ (fun c j _ h25 h26 => by rw [xs_c h25, xs_c h26]) (vX_work hv (fun c j h25 h26 => by rw [xs_c h25, xs_c h26]) ?_ ?_)
      · intro i hi
        rw [st_work_p, if_pos c5]
        by_cases c : i = α.1 9 p
        · rw [c, if_pos rfl]; exact xs_s
        · rw [if_neg c, xs_j c, xs_c (by decide)]; exact vX_pow hv i hi
      · intro i hi
        rw [st_work_w, xs_c (by decide)]
        by_cases c : i = α.1 9 p
        · rw [c, if_pos rfl]; exact xs_s
        · rw [if_neg c, xs_j c]; exact vX_wk hv i hi
    · refine h _ (fun c j _ h25 h26 => by rw [xs_c h26]) (vX_work hv (fun c j h25 h26 => by rw [xs_c h26]) ?_ ?_)
      · intro i hi
        rw [st_work_p, if_neg c5, xs_c (by decide)]
        by_cases c : i = α.1 9 p
        · rw [c, if_pos rfl]; exact vX_pow hv _ hl
        · rw [if_neg c]; exact vX_pow hv i hi
      · intro i hi
        rw [st_work_w]
        by_cases c : i = α.1 9 p
        · rw [c, if_pos rfl]; exact xs_s
        · rw [if_neg c, xs_j c]; exact vX_wk hv i hi
set_option maxRecDepth 20000 in
theorem X_say_ok {d : Nat} {p w : Int} {μ : Mem} {α : Al} {Q : AV → Mem → Prop} (hv : vX μ α) (hw : wf α) (h : ∀ μ', (∀ c j, c ≠ 3 → c ≠ 25 → c ≠ 26 → μ' c j = μ c j) → vX μ' (t_say α p w) → Q (xI (r_say α p w)) μ') : GM (d + 3) 61 [xR 0, xI p, xI w] μ Q := by
  have hT := wf_T hw
  have rf : ∀ c j, c ≠ 3 → c ≠ 25 → c ≠ 26 → μ c j = μ c j := fun _ _ _ _ _ => rfl
  refine ge_X_say ?_
  unfold r_say t_say at h
  rw [vX_T hv]
  refine wi (fun c0 => ?_) (fun c0 => ?_)
  · rw [if_pos c0, if_pos c0] at h; exact h μ rf hv
  rw [if_neg c0, if_neg c0] at h
  refine wi (fun c1 => ?_) (fun c1 => ?_)
  · rw [if_pos c1, if_pos c1] at h
    refine wi (fun c2 => ?_) (fun c2 => ?_)
    · rw [if_pos c2, if_pos c2] at h; exact h μ rf hv
    rw [if_neg c2, if_neg c2] at h
    refine wi (fun c3 => ?_) (fun c3 => ?_)
    · have c3' : ¬ 3 < w := by omega
      rw [if_neg c3', if_neg c3'] at h
      obtain ⟨p, rfl⟩ := Int.eq_ofNat_of_zero_le (show 0 ≤ p by omega)
      rw [Int.toNat_natCast] at h
      refine X_hear_ok hv hw (by omega) ?_
      intro μ' hf hv'
      have hh := h μ' hf hv'
      refine gI_mk ?_
      refine wi (fun c => ?_) (fun c => ?_)
      · rw [c] at hh; exact hh
      · have c4' : sp_works α (α.1 9 p) p w = 1 := by rcases sp_works01 α (α.1 9 p) p w with q | q; exact absurd q c; exact q
        rw [c4'] at hh; exact hh
    · have c3' : 3 < w := by omega
      rw [if_pos c3', if_pos c3'] at h; exact h μ rf hv
  · rw [if_neg c1, if_neg c1] at h; exact h μ rf hv

