/-! nights kept -/
def st_keep0 (α : Al) : Al := (fun r i => if r = 14 then (if i = 0 then 1 else α.1 14 i) else if r = 15 then (if i = 0 then α.1 0 4 else α.1 0 5) else if r = 16 then α.1 9 i else if r = 17 then α.1 10 i else α.1 r i, fun r i => if r = 3 then α.2 0 i else if r = 4 then α.2 1 i else if r = 5 then α.2 2 i else α.2 r i)
def st_keep1 (α : Al) : Al := (fun r i => if r = 14 then (if i = 1 then 1 else α.1 14 i) else if r = 20 then (if i = 0 then α.1 0 4 else α.1 0 5) else if r = 21 then α.1 9 i else if r = 22 then α.1 10 i else α.1 r i, fun r i => if r = 6 then α.2 0 i else if r = 7 then α.2 1 i else if r = 8 then α.2 2 i else α.2 r i)
def st_back0 (α : Al) : Al := (fun r i => if r = 0 then (if i = 4 then α.1 15 0 else if i = 5 then α.1 15 1 else α.1 0 i) else if r = 9 then α.1 16 i else if r = 10 then α.1 17 i else α.1 r i, fun r i => if r = 0 then α.2 3 i else if r = 1 then α.2 4 i else if r = 2 then α.2 5 i else α.2 r i)
def st_back1 (α : Al) : Al := (fun r i => if r = 0 then (if i = 4 then α.1 20 0 else if i = 5 then α.1 20 1 else α.1 0 i) else if r = 9 then α.1 21 i else if r = 10 then α.1 22 i else α.1 r i, fun r i => if r = 0 then α.2 6 i else if r = 1 then α.2 7 i else if r = 2 then α.2 8 i else α.2 r i)
def r_keep (α : Al) (k : Int) : Int := if k < 0 then -2 else if 1 < k then -2 else ((α.1 0 4 : Nat) : Int)
def t_keep (α : Al) (k : Int) : Al := if k < 0 then α else if 1 < k then α else if k = 0 then st_keep0 α else st_keep1 α
def r_back (α : Al) (k : Int) : Int := if k < 0 then -2 else if 1 < k then -2 else if α.1 14 k.toNat = 0 then -4 else if k = 0 then ((α.1 15 0 : Nat) : Int) else ((α.1 20 0 : Nat) : Int)
def t_back (α : Al) (k : Int) : Al := if k < 0 then α else if 1 < k then α else if α.1 14 k.toNat = 0 then α else if k = 0 then st_back0 α else st_back1 α
theorem k_two {P : Nat → Prop} (h0 : P 0) (h1 : P 1) : ∀ k, k < 2 → P k
  | 0, _ => h0
  | 1, _ => h1
  | n + 2, h => absurd h (by omega)
theorem wf_keep0 {α : Al} (hw : wf α) : wf (st_keep0 α) := ⟨(@wf_P α hw), (@wf_T α hw), (@wf_N α hw), (@wf_B α hw), (@wf_Ps α hw), (@wf_Kn α hw), (@wf_S α hw), (@wf_one α hw), (@wf_kind α hw), (@wf_look α hw), (@wf_keep α hw), (@wf_word α hw), (@wf_pow0 α hw), (@wf_night α hw), (@wf_text α hw), (@wf_lie α hw), (@wf_inj α hw), (@wf_pow α hw), (@wf_sp α hw), (@wf_sw α hw), (@wf_sv α hw), (k_two (P := fun k => (st_keep0 α).1 14 k < 2) (Nat.lt_succ_self 1) (wf_kf hw 1 (by decide))), (fun _ => ⟨@wf_Ps α hw, @wf_Kn α hw⟩), (fun _ i hi => ⟨(wf_lie hw i hi).1, (wf_lie hw i hi).2, wf_pow hw i hi⟩), (fun _ => @wf_inj α hw), (@wf_kS1 α hw), (@wf_kL1 α hw), (@wf_kI1 α hw)⟩
theorem wf_back0 {α : Al} (hw : wf α) (q : α.1 14 0 = 1) : wf (st_back0 α) := ⟨(@wf_P α hw), (@wf_T α hw), (@wf_N α hw), (@wf_B α hw), (@wf_kS0 α hw q).1, (@wf_kS0 α hw q).2, (@wf_S α hw), (@wf_one α hw), (@wf_kind α hw), (@wf_look α hw), (@wf_keep α hw), (@wf_word α hw), (@wf_pow0 α hw), (@wf_night α hw), (@wf_text α hw), (fun i hi => ⟨(@wf_kL0 α hw q i hi).1, (@wf_kL0 α hw q i hi).2.1⟩), (@wf_kI0 α hw q), (fun i hi => (@wf_kL0 α hw q i hi).2.2), (@wf_sp α hw), (@wf_sw α hw), (@wf_sv α hw), (@wf_kf α hw), (@wf_kS0 α hw), (@wf_kL0 α hw), (@wf_kI0 α hw), (@wf_kS1 α hw), (@wf_kL1 α hw), (@wf_kI1 α hw)⟩
theorem vM_keep0 {μ μ' : Mem} {α : Al} (hv : vM μ α) (hw : wf α) (hc : ∀ c j, c ≠ 68 → c ≠ 69 → μ' c j = μ c j) (hb : ∀ j, j < 27 → μ' 68 (0 + j) = μ 67 j) (hd : ∀ j, 27 ≤ j → μ' 68 j = μ 68 j) (hk1 : μ' 69 0 = 1) (hk0 : μ' 69 1 = μ 69 1) : vM μ' (st_keep0 α) := by
  have hT := wf_T hw
  exact ⟨((hc 61 0 (by decide) (by decide)).trans (@vM_P μ α hv)), ((hc 61 2 (by decide) (by decide)).trans (@vM_T μ α hv)), ((hc 61 4 (by decide) (by decide)).trans (@vM_N μ α hv)), ((hc 61 6 (by decide) (by decide)).trans (@vM_B μ α hv)), ((hc 67 24 (by decide) (by decide)).trans (@vM_Ps μ α hv)), ((hc 67 26 (by decide) (by decide)).trans (@vM_Kn μ α hv)), ((hc 61 22 (by decide) (by decide)).trans (@vM_S μ α hv)), (fun i hi => (hc 62 i (by decide) (by decide)).trans (@vM_one μ α hv i hi)), (fun i hi => (hc 63 (5 * i) (by decide) (by decide)).trans (@vM_kind μ α hv i hi)), (fun i hi => (hc 63 (5 * i + 1) (by decide) (by decide)).trans (@vM_look μ α hv i hi)), (fun i hi => (hc 63 (5 * i + 2) (by decide) (by decide)).trans (@vM_keep μ α hv i hi)), (fun i hi => (hc 63 (5 * i + 3) (by decide) (by decide)).trans (@vM_word μ α hv i hi)), (fun i hi => (hc 63 (5 * i + 4) (by decide) (by decide)).trans (@vM_pow0 μ α hv i hi)), (fun i hi => (hc 64 i (by decide) (by decide)).trans (@vM_night μ α hv i hi)), (fun i hi => (hc 65 i (by decide) (by decide)).trans (@vM_text μ α hv i hi)), (fun i hi => (hc 67 i (by decide) (by decide)).trans (@vM_lie μ α hv i hi)), (fun i hi => (hc 67 (6 + i) (by decide) (by decide)).trans (@vM_pow μ α hv i hi)), (fun i hi => (hc 70 (3 * i) (by decide) (by decide)).trans (@vM_sp μ α hv i hi)), (fun i hi => (hc 70 (3 * i + 1) (by decide) (by decide)).trans (@vM_sw μ α hv i hi)), (fun i hi => (hc 70 (3 * i + 2) (by decide) (by decide)).trans (@vM_sv μ α hv i hi)), ((hc 67 25 (by decide) (by decide)).trans (@vM_Ch μ α hv)), (fun i hi => (hc 67 (12 + i) (by decide) (by decide)).trans (@vM_wk μ α hv i hi)), (fun i hi => (hc 67 (18 + i) (by decide) (by decide)).trans (@vM_ca μ α hv i hi)), (k_two hk1 ((hk0).trans (vM_kf hv 1 (by decide)))), (fun _ => ⟨(hb 24 (by decide)).trans (vM_Ps hv), (hb 26 (by decide)).trans (vM_Kn hv), (hb 25 (by decide)).trans (vM_Ch hv)⟩), (fun _ i hi => ⟨(by have h6 := hb i (by have : i < α.1 0 1 := hi; omega); rw [show 0 + i = i by omega] at h6 ⊢; exact h6.trans (vM_lie hv i hi)), (by have h6 := hb (6 + i) (by have : i < α.1 0 1 := hi; omega); rw [show 0 + (6 + i) = 6 + i by omega] at h6; exact h6.trans (vM_pow hv i hi)), (by have h6 := hb (12 + i) (by have : i < α.1 0 1 := hi; omega); rw [show 0 + (12 + i) = 12 + i by omega] at h6; exact h6.trans (vM_wk hv i hi)), (by have h6 := hb (18 + i) (by have : i < α.1 0 1 := hi; omega); rw [show 0 + (18 + i) = 18 + i by omega] at h6; exact h6.trans (vM_ca hv i hi))⟩), (fun q => let w := @vM_kP1 μ α hv q; ⟨(hd 51 (by omega)).trans w.1, (hd 53 (by omega)).trans w.2.1, (hd 52 (by omega)).trans w.2.2⟩), (fun q i hi => let w := @vM_kA1 μ α hv q i hi; ⟨(hd (27 + i) (by have : i < α.1 0 1 := hi; omega)).trans w.1, (hd (33 + i) (by have : i < α.1 0 1 := hi; omega)).trans w.2.1, (hd (39 + i) (by have : i < α.1 0 1 := hi; omega)).trans w.2.2.1, (hd (45 + i) (by have : i < α.1 0 1 := hi; omega)).trans w.2.2.2⟩)⟩
theorem vM_back0 {μ μ' : Mem} {α : Al} (hv : vM μ α) (hw : wf α) (q : α.1 14 0 = 1) (hc : ∀ c j, c ≠ 67 → μ' c j = μ c j) (hb : ∀ j, j < 27 → μ' 67 j = μ 68 (0 + j)) : vM μ' (st_back0 α) := by
  have hT := wf_T hw
  exact ⟨((hc 61 0 (by decide)).trans (@vM_P μ α hv)), ((hc 61 2 (by decide)).trans (@vM_T μ α hv)), ((hc 61 4 (by decide)).trans (@vM_N μ α hv)), ((hc 61 6 (by decide)).trans (@vM_B μ α hv)), ((hb 24 (by decide)).trans (@vM_kP0 μ α hv q).1), ((hb 26 (by decide)).trans (@vM_kP0 μ α hv q).2.1), ((hc 61 22 (by decide)).trans (@vM_S μ α hv)), (fun i hi => (hc 62 i (by decide)).trans (@vM_one μ α hv i hi)), (fun i hi => (hc 63 (5 * i) (by decide)).trans (@vM_kind μ α hv i hi)), (fun i hi => (hc 63 (5 * i + 1) (by decide)).trans (@vM_look μ α hv i hi)), (fun i hi => (hc 63 (5 * i + 2) (by decide)).trans (@vM_keep μ α hv i hi)), (fun i hi => (hc 63 (5 * i + 3) (by decide)).trans (@vM_word μ α hv i hi)), (fun i hi => (hc 63 (5 * i + 4) (by decide)).trans (@vM_pow0 μ α hv i hi)), (fun i hi => (hc 64 i (by decide)).trans (@vM_night μ α hv i hi)), (fun i hi => (hc 65 i (by decide)).trans (@vM_text μ α hv i hi)), (fun i hi => (by have : i < α.1 0 1 := hi; have h6 := hb i (by omega); exact h6.trans (@vM_kA0 μ α hv q i hi).1)), (fun i hi => (by have : i < α.1 0 1 := hi; have h6 := hb (6 + i) (by omega); rw [show 0 + (6 + i) = 6 + i by omega] at h6; exact h6.trans (@vM_kA0 μ α hv q i hi).2.1)), (fun i hi => (hc 70 (3 * i) (by decide)).trans (@vM_sp μ α hv i hi)), (fun i hi => (hc 70 (3 * i + 1) (by decide)).trans (@vM_sw μ α hv i hi)), (fun i hi => (hc 70 (3 * i + 2) (by decide)).trans (@vM_sv μ α hv i hi)), ((hb 25 (by decide)).trans (@vM_kP0 μ α hv q).2.2), (fun i hi => (by have : i < α.1 0 1 := hi; have h6 := hb (12 + i) (by omega); rw [show 0 + (12 + i) = 12 + i by omega] at h6; exact h6.trans (@vM_kA0 μ α hv q i hi).2.2.1)), (fun i hi => (by have : i < α.1 0 1 := hi; have h6 := hb (18 + i) (by omega); rw [show 0 + (18 + i) = 18 + i by omega] at h6; exact h6.trans (@vM_kA0 μ α hv q i hi).2.2.2)), (fun k hk => (hc 69 k (by decide)).trans (@vM_kf μ α hv k hk)), (fun q => let w := @vM_kP0 μ α hv q; ⟨(hc 68 24 (by decide)).trans w.1, (hc 68 26 (by decide)).trans w.2.1, (hc 68 25 (by decide)).trans w.2.2⟩), (fun q i hi => let w := @vM_kA0 μ α hv q i hi; ⟨(hc 68 (0 + i) (by decide)).trans w.1, (hc 68 (6 + i) (by decide)).trans w.2.1, (hc 68 (12 + i) (by decide)).trans w.2.2.1, (hc 68 (18 + i) (by decide)).trans w.2.2.2⟩), (fun q => let w := @vM_kP1 μ α hv q; ⟨(hc 68 51 (by decide)).trans w.1, (hc 68 53 (by decide)).trans w.2.1, (hc 68 52 (by decide)).trans w.2.2⟩), (fun q i hi => let w := @vM_kA1 μ α hv q i hi; ⟨(hc 68 (27 + i) (by decide)).trans w.1, (hc 68 (33 + i) (by decide)).trans w.2.1, (hc 68 (39 + i) (by decide)).trans w.2.2.1, (hc 68 (45 + i) (by decide)).trans w.2.2.2⟩)⟩
theorem vX_keep0 {μ μ' : Mem} {α : Al} {kb : Nat} (hv : vX μ α) (hw : wf α) (q1 : kb < 4) (q3 : ∀ k : Nat, k < 2 → (kb.testBit k = true ↔ α.1 14 k = 1)) (hk : μ' 0 4 = ((kb ||| 2 ^ 0 : Nat) : Int)) (hc : ∀ c j, c ≠ 0 → c ≠ 5 → c ≠ 27 → c ≠ 29 → c ≠ 30 → c ≠ 28 → μ' c j = μ c j) (h1 : μ' 5 1 = μ 3 1) (h2 : μ' 5 2 = μ 3 2) (h3 : μ' 5 3 = μ 3 3) (hr0 : ∀ i, i < 6 → μ' 27 i = μ 23 i) (hr1 : ∀ i, i < 6 → μ' 29 i = μ 25 i) (hr2 : ∀ i, i < 6 → μ' 30 i = μ 26 i) (hr3 : ∀ i, i < 6 → μ' 28 i = μ 24 i) : vX μ' (st_keep0 α) := by
  have hT := wf_T hw
  exact ⟨((hc 2 0 (by decide) (by decide) (by decide) (by decide) (by decide) (by decide)).trans (@vX_P μ α hv)), ((hc 2 1 (by decide) (by decide) (by decide) (by decide) (by decide) (by decide)).trans (@vX_T μ α hv)), ((hc 2 2 (by decide) (by decide) (by decide) (by decide) (by decide) (by decide)).trans (@vX_N μ α hv)), ((hc 1 1 (by decide) (by decide) (by decide) (by decide) (by decide) (by decide)).trans (@vX_B μ α hv)), ((hc 3 1 (by decide) (by decide) (by decide) (by decide) (by decide) (by decide)).trans (@vX_Ps μ α hv)), ((hc 3 3 (by decide) (by decide) (by decide) (by decide) (by decide) (by decide)).trans (@vX_Kn μ α hv)), ((hc 7 0 (by decide) (by decide) (by decide) (by decide) (by decide) (by decide)).trans (@vX_S μ α hv)), (fun i hi => (hc 16 i (by decide) (by decide) (by decide) (by decide) (by decide) (by decide)).trans (@vX_one μ α hv i hi)), (fun i hi => (hc 17 i (by decide) (by decide) (by decide) (by decide) (by decide) (by decide)).trans (@vX_kind μ α hv i hi)), (fun i hi => (hc 18 i (by decide) (by decide) (by decide) (by decide) (by decide) (by decide)).trans (@vX_look μ α hv i hi)), (fun i hi => (hc 21 i (by decide) (by decide) (by decide) (by decide) (by decide) (by decide)).trans (@vX_keep μ α hv i hi)), (fun i hi => (hc 19 i (by decide) (by decide) (by decide) (by decide) (by decide) (by decide)).trans (@vX_word μ α hv i hi)), (fun i hi => (hc 20 i (by decide) (by decide) (by decide) (by decide) (by decide) (by decide)).trans (@vX_pow0 μ α hv i hi)), (fun i hi => (hc 22 i (by decide) (by decide) (by decide) (by decide) (by decide) (by decide)).trans (@vX_night μ α hv i hi)), (fun i hi => (hc 13 i (by decide) (by decide) (by decide) (by decide) (by decide) (by decide)).trans (@vX_text μ α hv i hi)), (fun i hi => (hc 23 i (by decide) (by decide) (by decide) (by decide) (by decide) (by decide)).trans (@vX_lie μ α hv i hi)), (fun i hi => (hc 25 i (by decide) (by decide) (by decide) (by decide) (by decide) (by decide)).trans (@vX_pow μ α hv i hi)), (fun i hi => (hc 35 i (by decide) (by decide) (by decide) (by decide) (by decide) (by decide)).trans (@vX_sp μ α hv i hi)), (fun i hi => (hc 36 i (by decide) (by decide) (by decide) (by decide) (by decide) (by decide)).trans (@vX_sw μ α hv i hi)), (fun i hi => (hc 37 i (by decide) (by decide) (by decide) (by decide) (by decide) (by decide)).trans (@vX_sv μ α hv i hi)), ((hc 3 2 (by decide) (by decide) (by decide) (by decide) (by decide) (by decide)).trans (@vX_Ch μ α hv)), (fun i hi => (hc 26 i (by decide) (by decide) (by decide) (by decide) (by decide) (by decide)).trans (@vX_wk μ α hv i hi)), (fun i hi => (hc 24 i (by decide) (by decide) (by decide) (by decide) (by decide) (by decide)).trans (@vX_ca μ α hv i hi)), ⟨kb ||| 2 ^ 0, Nat.or_lt_two_pow (n := 2) q1 (by decide), hk, k_two ⟨fun _ => rfl, fun _ => (by rw [Nat.testBit_or, show Nat.testBit (2 ^ 0) 0 = true from rfl, Bool.or_true])⟩ (by rw [Nat.testBit_or, show Nat.testBit (2 ^ 0) 1 = false from rfl, Bool.or_false]; exact q3 1 (by decide))⟩, (fun _ => ⟨h1.trans (vX_Ps hv), h3.trans (vX_Kn hv), h2.trans (vX_Ch hv)⟩), (fun _ i hi => ⟨(hr0 i (by have : i < α.1 0 1 := hi; omega)).trans (vX_lie hv i hi), (hr1 i (by have : i < α.1 0 1 := hi; omega)).trans (vX_pow hv i hi), (hr2 i (by have : i < α.1 0 1 := hi; omega)).trans (vX_wk hv i hi), (hr3 i (by have : i < α.1 0 1 := hi; omega)).trans (vX_ca hv i hi)⟩), (fun q => let w := @vX_kP1 μ α hv q; ⟨(hc 6 1 (by decide) (by decide) (by decide) (by decide) (by decide) (by decide)).trans w.1, (hc 6 3 (by decide) (by decide) (by decide) (by decide) (by decide) (by decide)).trans w.2.1, (hc 6 2 (by decide) (by decide) (by decide) (by decide) (by decide) (by decide)).trans w.2.2⟩), (fun q i hi => let w := @vX_kA1 μ α hv q i hi; ⟨(hc 31 i (by decide) (by decide) (by decide) (by decide) (by decide) (by decide)).trans w.1, (hc 33 i (by decide) (by decide) (by decide) (by decide) (by decide) (by decide)).trans w.2.1, (hc 34 i (by decide) (by decide) (by decide) (by decide) (by decide) (by decide)).trans w.2.2.1, (hc 32 i (by decide) (by decide) (by decide) (by decide) (by decide) (by decide)).trans w.2.2.2⟩)⟩
theorem vX_back0 {μ μ' : Mem} {α : Al} (hv : vX μ α) (hw : wf α) (q : α.1 14 0 = 1) (hc : ∀ c j, c ≠ 3 → c ≠ 23 → c ≠ 25 → c ≠ 26 → c ≠ 24 → μ' c j = μ c j) (h1 : μ' 3 1 = μ 5 1) (h2 : μ' 3 2 = μ 5 2) (h3 : μ' 3 3 = μ 5 3) (hr0 : ∀ i, i < 6 → μ' 23 i = μ 27 i) (hr1 : ∀ i, i < 6 → μ' 25 i = μ 29 i) (hr2 : ∀ i, i < 6 → μ' 26 i = μ 30 i) (hr3 : ∀ i, i < 6 → μ' 24 i = μ 28 i) : vX μ' (st_back0 α) := by
  have hT := wf_T hw
  exact ⟨((hc 2 0 (by decide) (by decide) (by decide) (by decide) (by decide)).trans (@vX_P μ α hv)), ((hc 2 1 (by decide) (by decide) (by decide) (by decide) (by decide)).trans (@vX_T μ α hv)), ((hc 2 2 (by decide) (by decide) (by decide) (by decide) (by decide)).trans (@vX_N μ α hv)), ((hc 1 1 (by decide) (by decide) (by decide) (by decide) (by decide)).trans (@vX_B μ α hv)), (h1.trans (@vX_kP0 μ α hv q).1), (h3.trans (@vX_kP0 μ α hv q).2.1), ((hc 7 0 (by decide) (by decide) (by decide) (by decide) (by decide)).trans (@vX_S μ α hv)), (fun i hi => (hc 16 i (by decide) (by decide) (by decide) (by decide) (by decide)).trans (@vX_one μ α hv i hi)), (fun i hi => (hc 17 i (by decide) (by decide) (by decide) (by decide) (by decide)).trans (@vX_kind μ α hv i hi)), (fun i hi => (hc 18 i (by decide) (by decide) (by decide) (by decide) (by decide)).trans (@vX_look μ α hv i hi)), (fun i hi => (hc 21 i (by decide) (by decide) (by decide) (by decide) (by decide)).trans (@vX_keep μ α hv i hi)), (fun i hi => (hc 19 i (by decide) (by decide) (by decide) (by decide) (by decide)).trans (@vX_word μ α hv i hi)), (fun i hi => (hc 20 i (by decide) (by decide) (by decide) (by decide) (by decide)).trans (@vX_pow0 μ α hv i hi)), (fun i hi => (hc 22 i (by decide) (by decide) (by decide) (by decide) (by decide)).trans (@vX_night μ α hv i hi)), (fun i hi => (hc 13 i (by decide) (by decide) (by decide) (by decide) (by decide)).trans (@vX_text μ α hv i hi)), (fun i hi => (hr0 i (by have : i < α.1 0 1 := hi; omega)).trans (@vX_kA0 μ α hv q i hi).1), (fun i hi => (hr1 i (by have : i < α.1 0 1 := hi; omega)).trans (@vX_kA0 μ α hv q i hi).2.1), (fun i hi => (hc 35 i (by decide) (by decide) (by decide) (by decide) (by decide)).trans (@vX_sp μ α hv i hi)), (fun i hi => (hc 36 i (by decide) (by decide) (by decide) (by decide) (by decide)).trans (@vX_sw μ α hv i hi)), (fun i hi => (hc 37 i (by decide) (by decide) (by decide) (by decide) (by decide)).trans (@vX_sv μ α hv i hi)), (h2.trans (@vX_kP0 μ α hv q).2.2), (fun i hi => (hr2 i (by have : i < α.1 0 1 := hi; omega)).trans (@vX_kA0 μ α hv q i hi).2.2.1), (fun i hi => (hr3 i (by have : i < α.1 0 1 := hi; omega)).trans (@vX_kA0 μ α hv q i hi).2.2.2), (let ⟨kb, h1, h2, h3⟩ := @vX_kf μ α hv; ⟨kb, h1, (hc 0 4 (by decide) (by decide) (by decide) (by decide) (by decide)).trans h2, h3⟩), (fun q => let w := @vX_kP0 μ α hv q; ⟨(hc 5 1 (by decide) (by decide) (by decide) (by decide) (by decide)).trans w.1, (hc 5 3 (by decide) (by decide) (by decide) (by decide) (by decide)).trans w.2.1, (hc 5 2 (by decide) (by decide) (by decide) (by decide) (by decide)).trans w.2.2⟩), (fun q i hi => let w := @vX_kA0 μ α hv q i hi; ⟨(hc 27 i (by decide) (by decide) (by decide) (by decide) (by decide)).trans w.1, (hc 29 i (by decide) (by decide) (by decide) (by decide) (by decide)).trans w.2.1, (hc 30 i (by decide) (by decide) (by decide) (by decide) (by decide)).trans w.2.2.1, (hc 28 i (by decide) (by decide) (by decide) (by decide) (by decide)).trans w.2.2.2⟩), (fun q => let w := @vX_kP1 μ α hv q; ⟨(hc 6 1 (by decide) (by decide) (by decide) (by decide) (by decide)).trans w.1, (hc 6 3 (by decide) (by decide) (by decide) (by decide) (by decide)).trans w.2.1, (hc 6 2 (by decide) (by decide) (by decide) (by decide) (by decide)).trans w.2.2⟩), (fun q i hi => let w := @vX_kA1 μ α hv q i hi; ⟨(hc 31 i (by decide) (by decide) (by decide) (by decide) (by decide)).trans w.1, (hc 33 i (by decide) (by decide) (by decide) (by decide) (by decide)).trans w.2.1, (hc 34 i (by decide) (by decide) (by decide) (by decide) (by decide)).trans w.2.2.1, (hc 32 i (by decide) (by decide) (by decide) (by decide) (by decide)).trans w.2.2.2⟩)⟩
theorem wf_keep1 {α : Al} (hw : wf α) : wf (st_keep1 α) := ⟨(@wf_P α hw), (@wf_T α hw), (@wf_N α hw), (@wf_B α hw), (@wf_Ps α hw), (@wf_Kn α hw), (@wf_S α hw), (@wf_one α hw), (@wf_kind α hw), (@wf_look α hw), (@wf_keep α hw), (@wf_word α hw), (@wf_pow0 α hw), (@wf_night α hw), (@wf_text α hw), (@wf_lie α hw), (@wf_inj α hw), (@wf_pow α hw), (@wf_sp α hw), (@wf_sw α hw), (@wf_sv α hw), (k_two (P := fun k => (st_keep1 α).1 14 k < 2) (wf_kf hw 0 (by decide)) (Nat.lt_succ_self 1)), (@wf_kS0 α hw), (@wf_kL0 α hw), (@wf_kI0 α hw), (fun _ => ⟨@wf_Ps α hw, @wf_Kn α hw⟩), (fun _ i hi => ⟨(wf_lie hw i hi).1, (wf_lie hw i hi).2, wf_pow hw i hi⟩), (fun _ => @wf_inj α hw)⟩
theorem wf_back1 {α : Al} (hw : wf α) (q : α.1 14 1 = 1) : wf (st_back1 α) := ⟨(@wf_P α hw), (@wf_T α hw), (@wf_N α hw), (@wf_B α hw), (@wf_kS1 α hw q).1, (@wf_kS1 α hw q).2, (@wf_S α hw), (@wf_one α hw), (@wf_kind α hw), (@wf_look α hw), (@wf_keep α hw), (@wf_word α hw), (@wf_pow0 α hw), (@wf_night α hw), (@wf_text α hw), (fun i hi => ⟨(@wf_kL1 α hw q i hi).1, (@wf_kL1 α hw q i hi).2.1⟩), (@wf_kI1 α hw q), (fun i hi => (@wf_kL1 α hw q i hi).2.2), (@wf_sp α hw), (@wf_sw α hw), (@wf_sv α hw), (@wf_kf α hw), (@wf_kS0 α hw), (@wf_kL0 α hw), (@wf_kI0 α hw), (@wf_kS1 α hw), (@wf_kL1 α hw), (@wf_kI1 α hw)⟩
theorem vM_keep1 {μ μ' : Mem} {α : Al} (hv : vM μ α) (hw : wf α) (hc : ∀ c j, c ≠ 68 → c ≠ 69 → μ' c j = μ c j) (hb : ∀ j, j < 27 → μ' 68 (27 + j) = μ 67 j) (hd : ∀ j, j < 27 → μ' 68 j = μ 68 j) (hk1 : μ' 69 1 = 1) (hk0 : μ' 69 0 = μ 69 0) : vM μ' (st_keep1 α) := by
  have hT := wf_T hw
  exact ⟨((hc 61 0 (by decide) (by decide)).trans (@vM_P μ α hv)), ((hc 61 2 (by decide) (by decide)).trans (@vM_T μ α hv)), ((hc 61 4 (by decide) (by decide)).trans (@vM_N μ α hv)), ((hc 61 6 (by decide) (by decide)).trans (@vM_B μ α hv)), ((hc 67 24 (by decide) (by decide)).trans (@vM_Ps μ α hv)), ((hc 67 26 (by decide) (by decide)).trans (@vM_Kn μ α hv)), ((hc 61 22 (by decide) (by decide)).trans (@vM_S μ α hv)), (fun i hi => (hc 62 i (by decide) (by decide)).trans (@vM_one μ α hv i hi)), (fun i hi => (hc 63 (5 * i) (by decide) (by decide)).trans (@vM_kind μ α hv i hi)), (fun i hi => (hc 63 (5 * i + 1) (by decide) (by decide)).trans (@vM_look μ α hv i hi)), (fun i hi => (hc 63 (5 * i + 2) (by decide) (by decide)).trans (@vM_keep μ α hv i hi)), (fun i hi => (hc 63 (5 * i + 3) (by decide) (by decide)).trans (@vM_word μ α hv i hi)), (fun i hi => (hc 63 (5 * i + 4) (by decide) (by decide)).trans (@vM_pow0 μ α hv i hi)), (fun i hi => (hc 64 i (by decide) (by decide)).trans (@vM_night μ α hv i hi)), (fun i hi => (hc 65 i (by decide) (by decide)).trans (@vM_text μ α hv i hi)), (fun i hi => (hc 67 i (by decide) (by decide)).trans (@vM_lie μ α hv i hi)), (fun i hi => (hc 67 (6 + i) (by decide) (by decide)).trans (@vM_pow μ α hv i hi)), (fun i hi => (hc 70 (3 * i) (by decide) (by decide)).trans (@vM_sp μ α hv i hi)), (fun i hi => (hc 70 (3 * i + 1) (by decide) (by decide)).trans (@vM_sw μ α hv i hi)), (fun i hi => (hc 70 (3 * i + 2) (by decide) (by decide)).trans (@vM_sv μ α hv i hi)), ((hc 67 25 (by decide) (by decide)).trans (@vM_Ch μ α hv)), (fun i hi => (hc 67 (12 + i) (by decide) (by decide)).trans (@vM_wk μ α hv i hi)), (fun i hi => (hc 67 (18 + i) (by decide) (by decide)).trans (@vM_ca μ α hv i hi)), (k_two ((hk0).trans (vM_kf hv 0 (by decide))) hk1), (fun q => let w := @vM_kP0 μ α hv q; ⟨(hd 24 (by omega)).trans w.1, (hd 26 (by omega)).trans w.2.1, (hd 25 (by omega)).trans w.2.2⟩), (fun q i hi => let w := @vM_kA0 μ α hv q i hi; ⟨(hd (0 + i) (by have : i < α.1 0 1 := hi; omega)).trans w.1, (hd (6 + i) (by have : i < α.1 0 1 := hi; omega)).trans w.2.1, (hd (12 + i) (by have : i < α.1 0 1 := hi; omega)).trans w.2.2.1, (hd (18 + i) (by have : i < α.1 0 1 := hi; omega)).trans w.2.2.2⟩), (fun _ => ⟨(hb 24 (by decide)).trans (vM_Ps hv), (hb 26 (by decide)).trans (vM_Kn hv), (hb 25 (by decide)).trans (vM_Ch hv)⟩), (fun _ i hi => ⟨(by have h6 := hb i (by have : i < α.1 0 1 := hi; omega); exact h6.trans (vM_lie hv i hi)), (by have h6 := hb (6 + i) (by have : i < α.1 0 1 := hi; omega); rw [show 27 + (6 + i) = 33 + i by omega] at h6; exact h6.trans (vM_pow hv i hi)), (by have h6 := hb (12 + i) (by have : i < α.1 0 1 := hi; omega); rw [show 27 + (12 + i) = 39 + i by omega] at h6; exact h6.trans (vM_wk hv i hi)), (by have h6 := hb (18 + i) (by have : i < α.1 0 1 := hi; omega); rw [show 27 + (18 + i) = 45 + i by omega] at h6; exact h6.trans (vM_ca hv i hi))⟩)⟩
theorem vM_back1 {μ μ' : Mem} {α : Al} (hv : vM μ α) (hw : wf α) (q : α.1 14 1 = 1) (hc : ∀ c j, c ≠ 67 → μ' c j = μ c j) (hb : ∀ j, j < 27 → μ' 67 j = μ 68 (27 + j)) : vM μ' (st_back1 α) := by
  have hT := wf_T hw
  exact ⟨((hc 61 0 (by decide)).trans (@vM_P μ α hv)), ((hc 61 2 (by decide)).trans (@vM_T μ α hv)), ((hc 61 4 (by decide)).trans (@vM_N μ α hv)), ((hc 61 6 (by decide)).trans (@vM_B μ α hv)), ((hb 24 (by decide)).trans (@vM_kP1 μ α hv q).1), ((hb 26 (by decide)).trans (@vM_kP1 μ α hv q).2.1), ((hc 61 22 (by decide)).trans (@vM_S μ α hv)), (fun i hi => (hc 62 i (by decide)).trans (@vM_one μ α hv i hi)), (fun i hi => (hc 63 (5 * i) (by decide)).trans (@vM_kind μ α hv i hi)), (fun i hi => (hc 63 (5 * i + 1) (by decide)).trans (@vM_look μ α hv i hi)), (fun i hi => (hc 63 (5 * i + 2) (by decide)).trans (@vM_keep μ α hv i hi)), (fun i hi => (hc 63 (5 * i + 3) (by decide)).trans (@vM_word μ α hv i hi)), (fun i hi => (hc 63 (5 * i + 4) (by decide)).trans (@vM_pow0 μ α hv i hi)), (fun i hi => (hc 64 i (by decide)).trans (@vM_night μ α hv i hi)), (fun i hi => (hc 65 i (by decide)).trans (@vM_text μ α hv i hi)), (fun i hi => (by have : i < α.1 0 1 := hi; have h6 := hb i (by omega); exact h6.trans (@vM_kA1 μ α hv q i hi).1)), (fun i hi => (by have : i < α.1 0 1 := hi; have h6 := hb (6 + i) (by omega); rw [show 27 + (6 + i) = 33 + i by omega] at h6; exact h6.trans (@vM_kA1 μ α hv q i hi).2.1)), (fun i hi => (hc 70 (3 * i) (by decide)).trans (@vM_sp μ α hv i hi)), (fun i hi => (hc 70 (3 * i + 1) (by decide)).trans (@vM_sw μ α hv i hi)), (fun i hi => (hc 70 (3 * i + 2) (by decide)).trans (@vM_sv μ α hv i hi)), ((hb 25 (by decide)).trans (@vM_kP1 μ α hv q).2.2), (fun i hi => (by have : i < α.1 0 1 := hi; have h6 := hb (12 + i) (by omega); rw [show 27 + (12 + i) = 39 + i by omega] at h6; exact h6.trans (@vM_kA1 μ α hv q i hi).2.2.1)), (fun i hi => (by have : i < α.1 0 1 := hi; have h6 := hb (18 + i) (by omega); rw [show 27 + (18 + i) = 45 + i by omega] at h6; exact h6.trans (@vM_kA1 μ α hv q i hi).2.2.2)), (fun k hk => (hc 69 k (by decide)).trans (@vM_kf μ α hv k hk)), (fun q => let w := @vM_kP0 μ α hv q; ⟨(hc 68 24 (by decide)).trans w.1, (hc 68 26 (by decide)).trans w.2.1, (hc 68 25 (by decide)).trans w.2.2⟩), (fun q i hi => let w := @vM_kA0 μ α hv q i hi; ⟨(hc 68 (0 + i) (by decide)).trans w.1, (hc 68 (6 + i) (by decide)).trans w.2.1, (hc 68 (12 + i) (by decide)).trans w.2.2.1, (hc 68 (18 + i) (by decide)).trans w.2.2.2⟩), (fun q => let w := @vM_kP1 μ α hv q; ⟨(hc 68 51 (by decide)).trans w.1, (hc 68 53 (by decide)).trans w.2.1, (hc 68 52 (by decide)).trans w.2.2⟩), (fun q i hi => let w := @vM_kA1 μ α hv q i hi; ⟨(hc 68 (27 + i) (by decide)).trans w.1, (hc 68 (33 + i) (by decide)).trans w.2.1, (hc 68 (39 + i) (by decide)).trans w.2.2.1, (hc 68 (45 + i) (by decide)).trans w.2.2.2⟩)⟩
theorem vX_keep1 {μ μ' : Mem} {α : Al} {kb : Nat} (hv : vX μ α) (hw : wf α) (q1 : kb < 4) (q3 : ∀ k : Nat, k < 2 → (kb.testBit k = true ↔ α.1 14 k = 1)) (hk : μ' 0 4 = ((kb ||| 2 ^ 1 : Nat) : Int)) (hc : ∀ c j, c ≠ 0 → c ≠ 6 → c ≠ 31 → c ≠ 33 → c ≠ 34 → c ≠ 32 → μ' c j = μ c j) (h1 : μ' 6 1 = μ 3 1) (h2 : μ' 6 2 = μ 3 2) (h3 : μ' 6 3 = μ 3 3) (hr0 : ∀ i, i < 6 → μ' 31 i = μ 23 i) (hr1 : ∀ i, i < 6 → μ' 33 i = μ 25 i) (hr2 : ∀ i, i < 6 → μ' 34 i = μ 26 i) (hr3 : ∀ i, i < 6 → μ' 32 i = μ 24 i) : vX μ' (st_keep1 α) := by
  have hT := wf_T hw
  exact ⟨((hc 2 0 (by decide) (by decide) (by decide) (by decide) (by decide) (by decide)).trans (@vX_P μ α hv)), ((hc 2 1 (by decide) (by decide) (by decide) (by decide) (by decide) (by decide)).trans (@vX_T μ α hv)), ((hc 2 2 (by decide) (by decide) (by decide) (by decide) (by decide) (by decide)).trans (@vX_N μ α hv)), ((hc 1 1 (by decide) (by decide) (by decide) (by decide) (by decide) (by decide)).trans (@vX_B μ α hv)), ((hc 3 1 (by decide) (by decide) (by decide) (by decide) (by decide) (by decide)).trans (@vX_Ps μ α hv)), ((hc 3 3 (by decide) (by decide) (by decide) (by decide) (by decide) (by decide)).trans (@vX_Kn μ α hv)), ((hc 7 0 (by decide) (by decide) (by decide) (by decide) (by decide) (by decide)).trans (@vX_S μ α hv)), (fun i hi => (hc 16 i (by decide) (by decide) (by decide) (by decide) (by decide) (by decide)).trans (@vX_one μ α hv i hi)), (fun i hi => (hc 17 i (by decide) (by decide) (by decide) (by decide) (by decide) (by decide)).trans (@vX_kind μ α hv i hi)), (fun i hi => (hc 18 i (by decide) (by decide) (by decide) (by decide) (by decide) (by decide)).trans (@vX_look μ α hv i hi)), (fun i hi => (hc 21 i (by decide) (by decide) (by decide) (by decide) (by decide) (by decide)).trans (@vX_keep μ α hv i hi)), (fun i hi => (hc 19 i (by decide) (by decide) (by decide) (by decide) (by decide) (by decide)).trans (@vX_word μ α hv i hi)), (fun i hi => (hc 20 i (by decide) (by decide) (by decide) (by decide) (by decide) (by decide)).trans (@vX_pow0 μ α hv i hi)), (fun i hi => (hc 22 i (by decide) (by decide) (by decide) (by decide) (by decide) (by decide)).trans (@vX_night μ α hv i hi)), (fun i hi => (hc 13 i (by decide) (by decide) (by decide) (by decide) (by decide) (by decide)).trans (@vX_text μ α hv i hi)), (fun i hi => (hc 23 i (by decide) (by decide) (by decide) (by decide) (by decide) (by decide)).trans (@vX_lie μ α hv i hi)), (fun i hi => (hc 25 i (by decide) (by decide) (by decide) (by decide) (by decide) (by decide)).trans (@vX_pow μ α hv i hi)), (fun i hi => (hc 35 i (by decide) (by decide) (by decide) (by decide) (by decide) (by decide)).trans (@vX_sp μ α hv i hi)), (fun i hi => (hc 36 i (by decide) (by decide) (by decide) (by decide) (by decide) (by decide)).trans (@vX_sw μ α hv i hi)), (fun i hi => (hc 37 i (by decide) (by decide) (by decide) (by decide) (by decide) (by decide)).trans (@vX_sv μ α hv i hi)), ((hc 3 2 (by decide) (by decide) (by decide) (by decide) (by decide) (by decide)).trans (@vX_Ch μ α hv)), (fun i hi => (hc 26 i (by decide) (by decide) (by decide) (by decide) (by decide) (by decide)).trans (@vX_wk μ α hv i hi)), (fun i hi => (hc 24 i (by decide) (by decide) (by decide) (by decide) (by decide) (by decide)).trans (@vX_ca μ α hv i hi)), ⟨kb ||| 2 ^ 1, Nat.or_lt_two_pow (n := 2) q1 (by decide), hk, k_two (by rw [Nat.testBit_or, show Nat.testBit (2 ^ 1) 0 = false from rfl, Bool.or_false]; exact q3 0 (by decide)) ⟨fun _ => rfl, fun _ => (by rw [Nat.testBit_or, show Nat.testBit (2 ^ 1) 1 = true from rfl, Bool.or_true])⟩⟩, (fun q => let w := @vX_kP0 μ α hv q; ⟨(hc 5 1 (by decide) (by decide) (by decide) (by decide) (by decide) (by decide)).trans w.1, (hc 5 3 (by decide) (by decide) (by decide) (by decide) (by decide) (by decide)).trans w.2.1, (hc 5 2 (by decide) (by decide) (by decide) (by decide) (by decide) (by decide)).trans w.2.2⟩), (fun q i hi => let w := @vX_kA0 μ α hv q i hi; ⟨(hc 27 i (by decide) (by decide) (by decide) (by decide) (by decide) (by decide)).trans w.1, (hc 29 i (by decide) (by decide) (by decide) (by decide) (by decide) (by decide)).trans w.2.1, (hc 30 i (by decide) (by decide) (by decide) (by decide) (by decide) (by decide)).trans w.2.2.1, (hc 28 i (by decide) (by decide) (by decide) (by decide) (by decide) (by decide)).trans w.2.2.2⟩), (fun _ => ⟨h1.trans (vX_Ps hv), h3.trans (vX_Kn hv), h2.trans (vX_Ch hv)⟩), (fun _ i hi => ⟨(hr0 i (by have : i < α.1 0 1 := hi; omega)).trans (vX_lie hv i hi), (hr1 i (by have : i < α.1 0 1 := hi; omega)).trans (vX_pow hv i hi), (hr2 i (by have : i < α.1 0 1 := hi; omega)).trans (vX_wk hv i hi), (hr3 i (by have : i < α.1 0 1 := hi; omega)).trans (vX_ca hv i hi)⟩)⟩
theorem vX_back1 {μ μ' : Mem} {α : Al} (hv : vX μ α) (hw : wf α) (q : α.1 14 1 = 1) (hc : ∀ c j, c ≠ 3 → c ≠ 23 → c ≠ 25 → c ≠ 26 → c ≠ 24 → μ' c j = μ c j) (h1 : μ' 3 1 = μ 6 1) (h2 : μ' 3 2 = μ 6 2) (h3 : μ' 3 3 = μ 6 3) (hr0 : ∀ i, i < 6 → μ' 23 i = μ 31 i) (hr1 : ∀ i, i < 6 → μ' 25 i = μ 33 i) (hr2 : ∀ i, i < 6 → μ' 26 i = μ 34 i) (hr3 : ∀ i, i < 6 → μ' 24 i = μ 32 i) : vX μ' (st_back1 α) := by
  have hT := wf_T hw
  exact ⟨((hc 2 0 (by decide) (by decide) (by decide) (by decide) (by decide)).trans (@vX_P μ α hv)), ((hc 2 1 (by decide) (by decide) (by decide) (by decide) (by decide)).trans (@vX_T μ α hv)), ((hc 2 2 (by decide) (by decide) (by decide) (by decide) (by decide)).trans (@vX_N μ α hv)), ((hc 1 1 (by decide) (by decide) (by decide) (by decide) (by decide)).trans (@vX_B μ α hv)), (h1.trans (@vX_kP1 μ α hv q).1), (h3.trans (@vX_kP1 μ α hv q).2.1), ((hc 7 0 (by decide) (by decide) (by decide) (by decide) (by decide)).trans (@vX_S μ α hv)), (fun i hi => (hc 16 i (by decide) (by decide) (by decide) (by decide) (by decide)).trans (@vX_one μ α hv i hi)), (fun i hi => (hc 17 i (by decide) (by decide) (by decide) (by decide) (by decide)).trans (@vX_kind μ α hv i hi)), (fun i hi => (hc 18 i (by decide) (by decide) (by decide) (by decide) (by decide)).trans (@vX_look μ α hv i hi)), (fun i hi => (hc 21 i (by decide) (by decide) (by decide) (by decide) (by decide)).trans (@vX_keep μ α hv i hi)), (fun i hi => (hc 19 i (by decide) (by decide) (by decide) (by decide) (by decide)).trans (@vX_word μ α hv i hi)), (fun i hi => (hc 20 i (by decide) (by decide) (by decide) (by decide) (by decide)).trans (@vX_pow0 μ α hv i hi)), (fun i hi => (hc 22 i (by decide) (by decide) (by decide) (by decide) (by decide)).trans (@vX_night μ α hv i hi)), (fun i hi => (hc 13 i (by decide) (by decide) (by decide) (by decide) (by decide)).trans (@vX_text μ α hv i hi)), (fun i hi => (hr0 i (by have : i < α.1 0 1 := hi; omega)).trans (@vX_kA1 μ α hv q i hi).1), (fun i hi => (hr1 i (by have : i < α.1 0 1 := hi; omega)).trans (@vX_kA1 μ α hv q i hi).2.1), (fun i hi => (hc 35 i (by decide) (by decide) (by decide) (by decide) (by decide)).trans (@vX_sp μ α hv i hi)), (fun i hi => (hc 36 i (by decide) (by decide) (by decide) (by decide) (by decide)).trans (@vX_sw μ α hv i hi)), (fun i hi => (hc 37 i (by decide) (by decide) (by decide) (by decide) (by decide)).trans (@vX_sv μ α hv i hi)), (h2.trans (@vX_kP1 μ α hv q).2.2), (fun i hi => (hr2 i (by have : i < α.1 0 1 := hi; omega)).trans (@vX_kA1 μ α hv q i hi).2.2.1), (fun i hi => (hr3 i (by have : i < α.1 0 1 := hi; omega)).trans (@vX_kA1 μ α hv q i hi).2.2.2), (let ⟨kb, h1, h2, h3⟩ := @vX_kf μ α hv; ⟨kb, h1, (hc 0 4 (by decide) (by decide) (by decide) (by decide) (by decide)).trans h2, h3⟩), (fun q => let w := @vX_kP0 μ α hv q; ⟨(hc 5 1 (by decide) (by decide) (by decide) (by decide) (by decide)).trans w.1, (hc 5 3 (by decide) (by decide) (by decide) (by decide) (by decide)).trans w.2.1, (hc 5 2 (by decide) (by decide) (by decide) (by decide) (by decide)).trans w.2.2⟩), (fun q i hi => let w := @vX_kA0 μ α hv q i hi; ⟨(hc 27 i (by decide) (by decide) (by decide) (by decide) (by decide)).trans w.1, (hc 29 i (by decide) (by decide) (by decide) (by decide) (by decide)).trans w.2.1, (hc 30 i (by decide) (by decide) (by decide) (by decide) (by decide)).trans w.2.2.1, (hc 28 i (by decide) (by decide) (by decide) (by decide) (by decide)).trans w.2.2.2⟩), (fun q => let w := @vX_kP1 μ α hv q; ⟨(hc 6 1 (by decide) (by decide) (by decide) (by decide) (by decide)).trans w.1, (hc 6 3 (by decide) (by decide) (by decide) (by decide) (by decide)).trans w.2.1, (hc 6 2 (by decide) (by decide) (by decide) (by decide) (by decide)).trans w.2.2⟩), (fun q i hi => let w := @vX_kA1 μ α hv q i hi; ⟨(hc 31 i (by decide) (by decide) (by decide) (by decide) (by decide)).trans w.1, (hc 33 i (by decide) (by decide) (by decide) (by decide) (by decide)).trans w.2.1, (hc 34 i (by decide) (by decide) (by decide) (by decide) (by decide)).trans w.2.2.1, (hc 32 i (by decide) (by decide) (by decide) (by decide) (by decide)).trans w.2.2.2⟩)⟩
theorem wf_tkeep {α : Al} (hw : wf α) (k : Int) : wf (t_keep α k) := by
  unfold t_keep
  split
  · exact hw
  split
  · exact hw
  split
  · exact wf_keep0 hw
  · exact wf_keep1 hw
theorem wf_tback {α : Al} (hw : wf α) (k : Int) : wf (t_back α k) := by
  unfold t_back
  split
  · exact hw
  split
  · exact hw
  split
  · exact hw
  next h1 h2 h3 =>
  split
  · next h4 => subst h4; exact wf_back0 hw (by have := wf_kf hw 0 (by decide); have : ¬ α.1 14 0 = 0 := h3; omega)
  · next h4 =>
    have e : k = 1 := by omega
    subst e
    exact wf_back1 hw (by have := wf_kf hw 1 (by decide); have : ¬ α.1 14 1 = 0 := h3; omega)
theorem xc_o {μ : Mem} {rs rd n a b : Nat} (h : a ≠ rd) : xcpy μ rs rd 0 0 n a b = μ a b := if_neg (fun e => h e.1)
theorem xc_i {μ : Mem} {rs rd n b : Nat} (h : b < n) : xcpy μ rs rd 0 0 n rd b = μ rs b := by
  unfold xcpy
  rw [if_pos ⟨rfl, Nat.zero_le _, by omega⟩, Nat.zero_add, Nat.sub_zero]
theorem iw_27 {k i : Nat} (h : k < 2) (h2 : i < 27) : iw (iw (27 * (k : Int)) + (i : Int)) = ((27 * k + i : Nat) : Int) := by simp only [iw_def]; omega
theorem M_keep_loop {d k : Nat} {μ : Mem} {Q : AV → Mem → Prop} (hk : k < 2) (h : ∀ μ', (∀ c j, c ≠ 68 → μ' c j = μ c j) → (∀ j, j < 27 → μ' 68 (27 * k + j) = μ 67 j) → (∀ j, (j < 27 * k ∨ 27 * k + 27 ≤ j) → μ' 68 j = μ 68 j) → Q (xI (μ' 67 24)) (xset μ' 69 k 1)) : DW (d + 1) 161 9 [xR 61, xI (k : Int), xI 0] μ Q := by
  refine lp_up (fun i (ν : Mem) => DW (d + 1) 161 9 [xR 61, xI (k : Int), xI (i : Int)] ν Q) (fun i ν => (∀ c j, c ≠ 68 → ν c j = μ c j) ∧ (∀ j, j < i → ν 68 (27 * k + j) = μ 67 j) ∧ (∀ j, (j < 27 * k ∨ 27 * k + 27 ≤ j) → ν 68 j = μ 68 j)) 27 ?_ ?_ 27 0 μ rfl ⟨fun _ _ _ => rfl, fun j hj => absurd hj (Nat.not_lt_zero j), fun _ _ => rfl⟩
  · intro i ν hi hI hn
    refine sg_M_keep_9 ?_
    rw [if_pos (by omega), wb_eq (by omega) (by omega), iw_27 hk hi, wb_eq (by omega) (by omega), iw_k1 (by omega), Int.toNat_natCast, Int.toNat_natCast]
    refine hn _ ⟨fun c j hc => by rw [xs_c hc]; exact hI.1 c j hc, fun j hj => ?_, fun j hj => ?_⟩
    · by_cases e : j = i
      · rw [e, xs_s]; exact hI.1 67 i (by decide)
      · rw [xs_j (by omega)]; exact hI.2.1 j (by omega)
    · rw [xs_j (by omega)]; exact hI.2.2 j hj
  · intro ν hI
    refine sg_M_keep_9 ?_
    rw [if_neg (by omega)]
    refine sg_M_keep_27 ?_
    rw [wb_eq (by omega) (by omega), Int.toNat_natCast]
    exact h ν hI.1 hI.2.1 hI.2.2
theorem M_back_loop {d k : Nat} {μ : Mem} {Q : AV → Mem → Prop} (hk : k < 2) (h : ∀ μ', (∀ c j, c ≠ 67 → μ' c j = μ c j) → (∀ j, j < 27 → μ' 67 j = μ 68 (27 * k + j)) → Q (xI (μ' 67 24)) μ') : DW (d + 1) 162 16 [xR 61, xI (k : Int), xI 0] μ Q := by
  refine lp_up (fun i (ν : Mem) => DW (d + 1) 162 16 [xR 61, xI (k : Int), xI (i : Int)] ν Q) (fun i ν => (∀ c j, c ≠ 67 → ν c j = μ c j) ∧ (∀ j, j < i → ν 67 j = μ 68 (27 * k + j))) 27 ?_ ?_ 27 0 μ rfl ⟨fun _ _ _ => rfl, fun j hj => absurd hj (Nat.not_lt_zero j)⟩
  · intro i ν hi hI hn
    refine sg_M_back_16 ?_
    rw [if_pos (by omega), iw_27 hk hi, wb_eq (by omega) (by omega), wb_eq (by omega) (by omega), iw_k1 (by omega), Int.toNat_natCast, Int.toNat_natCast]
    refine hn _ ⟨fun c j hc => by rw [xs_c hc]; exact hI.1 c j hc, fun j hj => ?_⟩
    by_cases e : j = i
    · rw [e, xs_s]; exact hI.1 68 _ (by decide)
    · rw [xs_j (by omega)]; exact hI.2 j (by omega)
  · intro ν hI
    refine sg_M_back_16 ?_
    rw [if_neg (by omega)]
    refine sg_M_back_34 ?_
    exact h ν hI.1 hI.2
theorem M_keep_ok {d : Nat} {k : Int} {μ : Mem} {α : Al} {Q : AV → Mem → Prop} (hv : vM μ α) (hw : wf α) (h : ∀ μ', vM μ' (t_keep α k) → Q (xI (r_keep α k)) μ') : GM (d + 1) 161 [xR 61, xI k] μ Q := by
  refine ge_M_keep ?_
  unfold r_keep t_keep at h
  refine wi (fun c0 => ?_) (fun c0 => ?_)
  · rw [if_pos c0, if_pos c0] at h; exact h μ hv
  rw [if_neg c0, if_neg c0] at h
  refine wi (fun c1 => ?_) (fun c1 => ?_)
  · rw [if_pos c1, if_pos c1] at h; exact h μ hv
  rw [if_neg c1, if_neg c1] at h
  by_cases c2 : k = 0
  · rw [if_pos c2] at h
    subst c2
    refine M_keep_loop (k := 0) (by decide) (fun μ' h1 h2 h3 => ?_)
    rw [h1 67 24 (by decide), vM_Ps hv]
    exact h _ (vM_keep0 hv hw (fun c j e1 e2 => by rw [xs_c e2]; exact h1 c j e1) (fun j hj => by rw [xs_c (by decide)]; exact h2 j hj) (fun j hj => by rw [xs_c (by decide)]; exact h3 j (by omega)) xs_s (by rw [xs_j (by decide)]; exact h1 69 1 (by decide)))
  · rw [if_neg c2] at h
    have e : k = 1 := by omega
    subst e
    refine M_keep_loop (k := 1) (by decide) (fun μ' h1 h2 h3 => ?_)
    rw [h1 67 24 (by decide), vM_Ps hv]
    exact h _ (vM_keep1 hv hw (fun c j e1 e2 => by rw [xs_c e2]; exact h1 c j e1) (fun j hj => by rw [xs_c (by decide)]; exact h2 j hj) (fun j hj => by rw [xs_c (by decide)]; exact h3 j (by omega)) xs_s (by rw [xs_j (by decide)]; exact h1 69 0 (by decide)))
theorem M_back_ok {d : Nat} {k : Int} {μ : Mem} {α : Al} {Q : AV → Mem → Prop} (hv : vM μ α) (hw : wf α) (h : ∀ μ', vM μ' (t_back α k) → Q (xI (r_back α k)) μ') : GM (d + 1) 162 [xR 61, xI k] μ Q := by
  refine ge_M_back ?_
  unfold r_back t_back at h
  refine wi (fun c0 => ?_) (fun c0 => ?_)
  · rw [if_pos c0, if_pos c0] at h; exact h μ hv
  rw [if_neg c0, if_neg c0] at h
  refine wi (fun c1 => ?_) (fun c1 => ?_)
  · rw [if_pos c1, if_pos c1] at h; exact h μ hv
  rw [if_neg c1, if_neg c1] at h
  obtain ⟨k, rfl⟩ := Int.eq_ofNat_of_zero_le (show 0 ≤ k by omega)
  rw [Int.toNat_natCast] at h
  have hk : k < 2 := by omega
  rw [wb_eq (by omega) (by omega), Int.toNat_natCast, vM_kf hv k hk]
  refine wi (fun c2 => ?_) (fun c2 => ?_)
  · have c2' : α.1 14 k = 0 := by omega
    rw [if_pos c2', if_pos c2'] at h; exact h μ hv
  have c2 : ¬ α.1 14 k = 0 := by omega
  rw [if_neg c2, if_neg c2] at h
  have hb := wf_kf hw k hk
  have q : α.1 14 k = 1 := by omega
  refine M_back_loop hk (fun μ' h1 h2 => ?_)
  match k, hk, q, h, h2 with
  | 0, _, q, h, h2 =>
    rw [h2 24 (by decide), (vM_kP0 hv q).1]
    exact h _ (vM_back0 hv hw q h1 h2)
  | 1, _, q, h, h2 =>
    rw [h2 24 (by decide), (vM_kP1 hv q).1]
    exact h _ (vM_back1 hv hw q h1 h2)

theorem X_copyk0_ok {d : Nat} {μ : Mem} {Q : AV → Mem → Prop} (h : ∀ μ', (∀ c j, c ≠ 5 → c ≠ 27 → c ≠ 29 → c ≠ 30 → c ≠ 28 → μ' c j = μ c j) → μ' 5 1 = μ 3 1 → μ' 5 2 = μ 3 2 → μ' 5 3 = μ 3 3 → (∀ i, i < 6 → μ' 27 i = μ 23 i) → (∀ i, i < 6 → μ' 29 i = μ 25 i) → (∀ i, i < 6 → μ' 30 i = μ 26 i) → (∀ i, i < 6 → μ' 28 i = μ 24 i) → Q (xI 0) μ') : GM (d + 1) 65 [xR 5, xR 3] μ Q := by
  refine ge_Now_copy_5_3 ?_
  refine h _ (fun c j e0 e1 e2 e3 e4 => by rw [xc_o e3, xc_o e2, xc_o e4, xc_o e1, xs_c e0, xs_c e0, xs_c e0]) rfl rfl rfl ?_ ?_ ?_ ?_
  · intro i hi
    rw [xc_o (by decide), xc_o (by decide), xc_o (by decide), xc_i hi]; rfl
  · intro i hi
    rw [xc_o (by decide), xc_i hi]; rfl
  · intro i hi
    rw [xc_i hi]; rfl
  · intro i hi
    rw [xc_o (by decide), xc_o (by decide), xc_i hi]; rfl
theorem X_copyb0_ok {d : Nat} {μ : Mem} {Q : AV → Mem → Prop} (h : ∀ μ', (∀ c j, c ≠ 3 → c ≠ 23 → c ≠ 25 → c ≠ 26 → c ≠ 24 → μ' c j = μ c j) → μ' 3 1 = μ 5 1 → μ' 3 2 = μ 5 2 → μ' 3 3 = μ 5 3 → (∀ i, i < 6 → μ' 23 i = μ 27 i) → (∀ i, i < 6 → μ' 25 i = μ 29 i) → (∀ i, i < 6 → μ' 26 i = μ 30 i) → (∀ i, i < 6 → μ' 24 i = μ 28 i) → Q (xI 0) μ') : GM (d + 1) 65 [xR 3, xR 5] μ Q := by
  refine ge_Now_copy_3_5 ?_
  refine h _ (fun c j e0 e1 e2 e3 e4 => by rw [xc_o e3, xc_o e2, xc_o e4, xc_o e1, xs_c e0, xs_c e0, xs_c e0]) rfl rfl rfl ?_ ?_ ?_ ?_
  · intro i hi
    rw [xc_o (by decide), xc_o (by decide), xc_o (by decide), xc_i hi]; rfl
  · intro i hi
    rw [xc_o (by decide), xc_i hi]; rfl
  · intro i hi
    rw [xc_i hi]; rfl
  · intro i hi
    rw [xc_o (by decide), xc_o (by decide), xc_i hi]; rfl
theorem X_copyk1_ok {d : Nat} {μ : Mem} {Q : AV → Mem → Prop} (h : ∀ μ', (∀ c j, c ≠ 6 → c ≠ 31 → c ≠ 33 → c ≠ 34 → c ≠ 32 → μ' c j = μ c j) → μ' 6 1 = μ 3 1 → μ' 6 2 = μ 3 2 → μ' 6 3 = μ 3 3 → (∀ i, i < 6 → μ' 31 i = μ 23 i) → (∀ i, i < 6 → μ' 33 i = μ 25 i) → (∀ i, i < 6 → μ' 34 i = μ 26 i) → (∀ i, i < 6 → μ' 32 i = μ 24 i) → Q (xI 0) μ') : GM (d + 1) 65 [xR 6, xR 3] μ Q := by
  refine ge_Now_copy_6_3 ?_
  refine h _ (fun c j e0 e1 e2 e3 e4 => by rw [xc_o e3, xc_o e2, xc_o e4, xc_o e1, xs_c e0, xs_c e0, xs_c e0]) rfl rfl rfl ?_ ?_ ?_ ?_
  · intro i hi
    rw [xc_o (by decide), xc_o (by decide), xc_o (by decide), xc_i hi]; rfl
  · intro i hi
    rw [xc_o (by decide), xc_i hi]; rfl
  · intro i hi
    rw [xc_i hi]; rfl
  · intro i hi
    rw [xc_o (by decide), xc_o (by decide), xc_i hi]; rfl
theorem X_copyb1_ok {d : Nat} {μ : Mem} {Q : AV → Mem → Prop} (h : ∀ μ', (∀ c j, c ≠ 3 → c ≠ 23 → c ≠ 25 → c ≠ 26 → c ≠ 24 → μ' c j = μ c j) → μ' 3 1 = μ 6 1 → μ' 3 2 = μ 6 2 → μ' 3 3 = μ 6 3 → (∀ i, i < 6 → μ' 23 i = μ 31 i) → (∀ i, i < 6 → μ' 25 i = μ 33 i) → (∀ i, i < 6 → μ' 26 i = μ 34 i) → (∀ i, i < 6 → μ' 24 i = μ 32 i) → Q (xI 0) μ') : GM (d + 1) 65 [xR 3, xR 6] μ Q := by
  refine ge_Now_copy_3_6 ?_
  refine h _ (fun c j e0 e1 e2 e3 e4 => by rw [xc_o e3, xc_o e2, xc_o e4, xc_o e1, xs_c e0, xs_c e0, xs_c e0]) rfl rfl rfl ?_ ?_ ?_ ?_
  · intro i hi
    rw [xc_o (by decide), xc_o (by decide), xc_o (by decide), xc_i hi]; rfl
  · intro i hi
    rw [xc_o (by decide), xc_i hi]; rfl
  · intro i hi
    rw [xc_i hi]; rfl
  · intro i hi
    rw [xc_o (by decide), xc_o (by decide), xc_i hi]; rfl
theorem X_keep_ok {d : Nat} {k : Int} {μ : Mem} {α : Al} {Q : AV → Mem → Prop} (hv : vX μ α) (hw : wf α) (h : ∀ μ', (∀ c j, 37 < c → μ' c j = μ c j) → (∀ j, μ' 12 j = μ 12 j) → vX μ' (t_keep α k) → Q (xI (r_keep α k)) μ') : GM (d + 2) 64 [xR 0, xI k] μ Q := by
  refine ge_X_keep ?_
  unfold r_keep t_keep at h
  refine wi (fun c0 => ?_) (fun c0 => ?_)
  · rw [if_pos c0, if_pos c0] at h; exact h μ (fun _ _ _ => rfl) (fun _ => rfl) hv
  rw [if_neg c0, if_neg c0] at h
  obtain ⟨kb, q1, q2, q3⟩ := vX_kf hv
  refine wi (fun c1 => ?_) (fun c1 => ?_)
  · have c1' : ¬ 1 < k := by omega
    rw [if_neg c1', if_neg c1'] at h
    refine wi (fun c2 => ?_) (fun c2 => ?_)
    · rw [if_pos c2] at h
      subst c2
      refine X_copyk0_ok (fun μ' h0 h1 h2 h3 r0 r1 r2 r3 => ?_)
      refine gV_mk ?_
      have e : xior (μ' 0 4) (xshl 1 0) = ((kb ||| 2 ^ 0 : Nat) : Int) := by
        rw [h0 0 4 (by decide) (by decide) (by decide) (by decide) (by decide), q2]
        exact x_know (k := 0) (by omega) (by decide)
      rw [e, h0 3 1 (by decide) (by decide) (by decide) (by decide) (by decide), vX_Ps hv]
      refine h _ (fun c j e => by rw [xs_c (by omega)]; exact h0 c j (by omega) (by omega) (by omega) (by omega) (by omega)) (fun j => by rw [xs_c (by omega)]; exact h0 12 j (by omega) (by omega) (by omega) (by omega) (by omega)) (vX_keep0 hv hw q1 q3 xs_s (fun c j e e0 e1 e2 e3 e4 => by rw [xs_c e]; exact h0 c j e0 e1 e2 e3 e4) ?_ ?_ ?_ ?_ ?_ ?_ ?_)
      · rw [xs_c (by decide)]; exact h1
      · rw [xs_c (by decide)]; exact h2
      · rw [xs_c (by decide)]; exact h3
      · intro i hi; rw [xs_c (by decide)]; exact r0 i hi
      · intro i hi; rw [xs_c (by decide)]; exact r1 i hi
      · intro i hi; rw [xs_c (by decide)]; exact r2 i hi
      · intro i hi; rw [xs_c (by decide)]; exact r3 i hi
    · rw [if_neg c2] at h
      have e : k = 1 := by omega
      subst e
      rw [if_pos rfl]
      refine X_copyk1_ok (fun μ' h0 h1 h2 h3 r0 r1 r2 r3 => ?_)
      refine gV_mk ?_
      have e : xior (μ' 0 4) (xshl 1 1) = ((kb ||| 2 ^ 1 : Nat) : Int) := by
        rw [h0 0 4 (by decide) (by decide) (by decide) (by decide) (by decide), q2]
        exact x_know (k := 1) (by omega) (by decide)
      rw [e, h0 3 1 (by decide) (by decide) (by decide) (by decide) (by decide), vX_Ps hv]
      refine h _ (fun c j e => by rw [xs_c (by omega)]; exact h0 c j (by omega) (by omega) (by omega) (by omega) (by omega)) (fun j => by rw [xs_c (by omega)]; exact h0 12 j (by omega) (by omega) (by omega) (by omega) (by omega)) (vX_keep1 hv hw q1 q3 xs_s (fun c j e e0 e1 e2 e3 e4 => by rw [xs_c e]; exact h0 c j e0 e1 e2 e3 e4) ?_ ?_ ?_ ?_ ?_ ?_ ?_)
      · rw [xs_c (by decide)]; exact h1
      · rw [xs_c (by decide)]; exact h2
      · rw [xs_c (by decide)]; exact h3
      · intro i hi; rw [xs_c (by decide)]; exact r0 i hi
      · intro i hi; rw [xs_c (by decide)]; exact r1 i hi
      · intro i hi; rw [xs_c (by decide)]; exact r2 i hi
      · intro i hi; rw [xs_c (by decide)]; exact r3 i hi
  · have c1' : 1 < k := by omega
    rw [if_pos c1', if_pos c1'] at h; exact h μ (fun _ _ _ => rfl) (fun _ => rfl) hv
theorem X_back_ok {d : Nat} {k : Int} {μ : Mem} {α : Al} {Q : AV → Mem → Prop} (hv : vX μ α) (hw : wf α) (h : ∀ μ', (∀ c j, 37 < c → μ' c j = μ c j) → (∀ j, μ' 12 j = μ 12 j) → vX μ' (t_back α k) → Q (xI (r_back α k)) μ') : GM (d + 2) 66 [xR 0, xI k] μ Q := by
  refine ge_X_back ?_
  unfold r_back t_back at h
  refine wi (fun c0 => ?_) (fun c0 => ?_)
  · rw [if_pos c0, if_pos c0] at h; exact h μ (fun _ _ _ => rfl) (fun _ => rfl) hv
  rw [if_neg c0, if_neg c0] at h
  obtain ⟨kb, q1, q2, q3⟩ := vX_kf hv
  refine wi (fun c1 => ?_) (fun c1 => ?_)
  · have c1' : ¬ 1 < k := by omega
    rw [if_neg c1', if_neg c1'] at h
    obtain ⟨k, rfl⟩ := Int.eq_ofNat_of_zero_le (show 0 ≤ k by omega)
    rw [Int.toNat_natCast] at h
    have hk : k < 2 := by omega
    rw [q2, sp_bit (by omega) (by omega)]
    have hb := wf_kf hw k hk
    by_cases c2 : kb.testBit k = true
    · have q := (q3 k hk).1 c2
      rw [if_pos c2, if_neg (by decide)]
      have c3 : ¬ α.1 14 k = 0 := by omega
      rw [if_neg c3, if_neg c3] at h
      match k, hk, q, h with
      | 0, _, q, h =>
        rw [if_pos (by decide)]
        refine X_copyb0_ok (fun μ' h0 h1 h2 h3 r0 r1 r2 r3 => ?_)
        refine gV_mk ?_
        rw [h1, (vX_kP0 hv q).1]
        exact h _ (fun c j e => h0 c j (by omega) (by omega) (by omega) (by omega) (by omega)) (fun j => h0 12 j (by omega) (by omega) (by omega) (by omega) (by omega)) (vX_back0 hv hw q h0 h1 h2 h3 r0 r1 r2 r3)
      | 1, _, q, h =>
        rw [if_neg (by decide), if_pos (by decide)]
        refine X_copyb1_ok (fun μ' h0 h1 h2 h3 r0 r1 r2 r3 => ?_)
        refine gV_mk ?_
        rw [h1, (vX_kP1 hv q).1]
        exact h _ (fun c j e => h0 c j (by omega) (by omega) (by omega) (by omega) (by omega)) (fun j => h0 12 j (by omega) (by omega) (by omega) (by omega) (by omega)) (vX_back1 hv hw q h0 h1 h2 h3 r0 r1 r2 r3)
    · rw [if_neg c2, if_pos rfl]
      have c3 : α.1 14 k = 0 := by
        have : ¬ α.1 14 k = 1 := fun e => c2 ((q3 k hk).2 e)
        omega
      rw [if_pos c3, if_pos c3] at h
      exact h μ (fun _ _ _ => rfl) (fun _ => rfl) hv
  · have c1' : 1 < k := by omega
    rw [if_pos c1', if_pos c1'] at h; exact h μ (fun _ _ _ => rfl) (fun _ => rfl) hv

