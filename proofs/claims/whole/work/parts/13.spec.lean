/-! THE ABSTRACT STATE: naturals (α.1) and counters that wrap (α.2).
 α.1 0: 0 people, 1 things, 2 nights, 3 bytes, 4 passed, 5 known, 6 seen; 1 kind of one; of things 2 kind, 3 look, 4 keeper, 5 word, 6 power told; 7 night's set; 8 text; 9 lying; 10 power; 11, 12, 13 seen place, word, worked;
 14 kept; 15, 20 kept passed 0, known 1; 16, 21 lying; 17, 22 power. α.2 0 0 changes; 1 worked; 2 changed at; kept 3, 6: changes 0; 4, 7 worked; 5, 8 changed at -/
abbrev Al : Type := (Nat → Nat → Nat) × (Nat → Nat → Int)
def vM (μ : Mem) (α : Al) : Prop :=
  (μ 61 0 = ((α.1 0 0 : Nat) : Int)) ∧
  (μ 61 2 = ((α.1 0 1 : Nat) : Int)) ∧
  (μ 61 4 = ((α.1 0 2 : Nat) : Int)) ∧
  (μ 61 6 = ((α.1 0 3 : Nat) : Int)) ∧
  (μ 67 24 = ((α.1 0 4 : Nat) : Int)) ∧
  (μ 67 26 = ((α.1 0 5 : Nat) : Int)) ∧
  (μ 61 22 = ((α.1 0 6 : Nat) : Int)) ∧
  (∀ i : Nat, i < α.1 0 0 → μ 62 i = ((α.1 1 i : Nat) : Int)) ∧
  (∀ i : Nat, i < α.1 0 1 → μ 63 (5 * i) = ((α.1 2 i : Nat) : Int)) ∧
  (∀ i : Nat, i < α.1 0 1 → μ 63 (5 * i + 1) = ((α.1 3 i : Nat) : Int)) ∧
  (∀ i : Nat, i < α.1 0 1 → μ 63 (5 * i + 2) = ((α.1 4 i : Nat) : Int)) ∧
  (∀ i : Nat, i < α.1 0 1 → μ 63 (5 * i + 3) = ((α.1 5 i : Nat) : Int)) ∧
  (∀ i : Nat, i < α.1 0 1 → μ 63 (5 * i + 4) = ((α.1 6 i : Nat) : Int)) ∧
  (∀ i : Nat, i < α.1 0 2 → μ 64 i = ((α.1 7 i : Nat) : Int)) ∧
  (∀ i : Nat, i < α.1 0 3 → μ 65 i = ((α.1 8 i : Nat) : Int)) ∧
  (∀ i : Nat, i < α.1 0 1 → μ 67 i = ((α.1 9 i : Nat) : Int)) ∧
  (∀ i : Nat, i < α.1 0 1 → μ 67 (6 + i) = ((α.1 10 i : Nat) : Int)) ∧
  (∀ i : Nat, i < α.1 0 6 → μ 70 (3 * i) = ((α.1 11 i : Nat) : Int)) ∧
  (∀ i : Nat, i < α.1 0 6 → μ 70 (3 * i + 1) = ((α.1 12 i : Nat) : Int)) ∧
  (∀ i : Nat, i < α.1 0 6 → μ 70 (3 * i + 2) = ((α.1 13 i : Nat) : Int)) ∧
  (μ 67 25 = α.2 0 0) ∧
  (∀ i : Nat, i < α.1 0 1 → μ 67 (12 + i) = α.2 1 i) ∧
  (∀ i : Nat, i < α.1 0 1 → μ 67 (18 + i) = α.2 2 i) ∧
  (∀ k : Nat, k < 2 → μ 69 k = ((α.1 14 k : Nat) : Int)) ∧
  (α.1 14 0 = 1 → μ 68 24 = ((α.1 15 0 : Nat) : Int) ∧ μ 68 26 = ((α.1 15 1 : Nat) : Int) ∧ μ 68 25 = α.2 3 0) ∧
  (α.1 14 0 = 1 → ∀ i : Nat, i < α.1 0 1 → μ 68 (0 + i) = ((α.1 16 i : Nat) : Int) ∧ μ 68 (6 + i) = ((α.1 17 i : Nat) : Int) ∧ μ 68 (12 + i) = α.2 4 i ∧ μ 68 (18 + i) = α.2 5 i) ∧
  (α.1 14 1 = 1 → μ 68 51 = ((α.1 20 0 : Nat) : Int) ∧ μ 68 53 = ((α.1 20 1 : Nat) : Int) ∧ μ 68 52 = α.2 6 0) ∧
  (α.1 14 1 = 1 → ∀ i : Nat, i < α.1 0 1 → μ 68 (27 + i) = ((α.1 21 i : Nat) : Int) ∧ μ 68 (33 + i) = ((α.1 22 i : Nat) : Int) ∧ μ 68 (39 + i) = α.2 7 i ∧ μ 68 (45 + i) = α.2 8 i)
theorem vM_P {μ : Mem} {α : Al} (h : vM μ α) : μ 61 0 = ((α.1 0 0 : Nat) : Int) := h.1
theorem vM_T {μ : Mem} {α : Al} (h : vM μ α) : μ 61 2 = ((α.1 0 1 : Nat) : Int) := h.2.1
theorem vM_N {μ : Mem} {α : Al} (h : vM μ α) : μ 61 4 = ((α.1 0 2 : Nat) : Int) := h.2.2.1
theorem vM_B {μ : Mem} {α : Al} (h : vM μ α) : μ 61 6 = ((α.1 0 3 : Nat) : Int) := h.2.2.2.1
theorem vM_Ps {μ : Mem} {α : Al} (h : vM μ α) : μ 67 24 = ((α.1 0 4 : Nat) : Int) := h.2.2.2.2.1
theorem vM_Kn {μ : Mem} {α : Al} (h : vM μ α) : μ 67 26 = ((α.1 0 5 : Nat) : Int) := h.2.2.2.2.2.1
theorem vM_S {μ : Mem} {α : Al} (h : vM μ α) : μ 61 22 = ((α.1 0 6 : Nat) : Int) := h.2.2.2.2.2.2.1
theorem vM_one {μ : Mem} {α : Al} (h : vM μ α) : ∀ i : Nat, i < α.1 0 0 → μ 62 i = ((α.1 1 i : Nat) : Int) := h.2.2.2.2.2.2.2.1
theorem vM_kind {μ : Mem} {α : Al} (h : vM μ α) : ∀ i : Nat, i < α.1 0 1 → μ 63 (5 * i) = ((α.1 2 i : Nat) : Int) := h.2.2.2.2.2.2.2.2.1
theorem vM_look {μ : Mem} {α : Al} (h : vM μ α) : ∀ i : Nat, i < α.1 0 1 → μ 63 (5 * i + 1) = ((α.1 3 i : Nat) : Int) := h.2.2.2.2.2.2.2.2.2.1
theorem vM_keep {μ : Mem} {α : Al} (h : vM μ α) : ∀ i : Nat, i < α.1 0 1 → μ 63 (5 * i + 2) = ((α.1 4 i : Nat) : Int) := h.2.2.2.2.2.2.2.2.2.2.1
theorem vM_word {μ : Mem} {α : Al} (h : vM μ α) : ∀ i : Nat, i < α.1 0 1 → μ 63 (5 * i + 3) = ((α.1 5 i : Nat) : Int) := h.2.2.2.2.2.2.2.2.2.2.2.1
theorem vM_pow0 {μ : Mem} {α : Al} (h : vM μ α) : ∀ i : Nat, i < α.1 0 1 → μ 63 (5 * i + 4) = ((α.1 6 i : Nat) : Int) := h.2.2.2.2.2.2.2.2.2.2.2.2.1
theorem vM_night {μ : Mem} {α : Al} (h : vM μ α) : ∀ i : Nat, i < α.1 0 2 → μ 64 i = ((α.1 7 i : Nat) : Int) := h.2.2.2.2.2.2.2.2.2.2.2.2.2.1
theorem vM_text {μ : Mem} {α : Al} (h : vM μ α) : ∀ i : Nat, i < α.1 0 3 → μ 65 i = ((α.1 8 i : Nat) : Int) := h.2.2.2.2.2.2.2.2.2.2.2.2.2.2.1
theorem vM_lie {μ : Mem} {α : Al} (h : vM μ α) : ∀ i : Nat, i < α.1 0 1 → μ 67 i = ((α.1 9 i : Nat) : Int) := h.2.2.2.2.2.2.2.2.2.2.2.2.2.2.2.1
theorem vM_pow {μ : Mem} {α : Al} (h : vM μ α) : ∀ i : Nat, i < α.1 0 1 → μ 67 (6 + i) = ((α.1 10 i : Nat) : Int) := h.2.2.2.2.2.2.2.2.2.2.2.2.2.2.2.2.1
theorem vM_sp {μ : Mem} {α : Al} (h : vM μ α) : ∀ i : Nat, i < α.1 0 6 → μ 70 (3 * i) = ((α.1 11 i : Nat) : Int) := h.2.2.2.2.2.2.2.2.2.2.2.2.2.2.2.2.2.1
theorem vM_sw {μ : Mem} {α : Al} (h : vM μ α) : ∀ i : Nat, i < α.1 0 6 → μ 70 (3 * i + 1) = ((α.1 12 i : Nat) : Int) := h.2.2.2.2.2.2.2.2.2.2.2.2.2.2.2.2.2.2.1
theorem vM_sv {μ : Mem} {α : Al} (h : vM μ α) : ∀ i : Nat, i < α.1 0 6 → μ 70 (3 * i + 2) = ((α.1 13 i : Nat) : Int) := h.2.2.2.2.2.2.2.2.2.2.2.2.2.2.2.2.2.2.2.1
theorem vM_Ch {μ : Mem} {α : Al} (h : vM μ α) : μ 67 25 = α.2 0 0 := h.2.2.2.2.2.2.2.2.2.2.2.2.2.2.2.2.2.2.2.2.1
theorem vM_wk {μ : Mem} {α : Al} (h : vM μ α) : ∀ i : Nat, i < α.1 0 1 → μ 67 (12 + i) = α.2 1 i := h.2.2.2.2.2.2.2.2.2.2.2.2.2.2.2.2.2.2.2.2.2.1
theorem vM_ca {μ : Mem} {α : Al} (h : vM μ α) : ∀ i : Nat, i < α.1 0 1 → μ 67 (18 + i) = α.2 2 i := h.2.2.2.2.2.2.2.2.2.2.2.2.2.2.2.2.2.2.2.2.2.2.1
theorem vM_kf {μ : Mem} {α : Al} (h : vM μ α) : ∀ k : Nat, k < 2 → μ 69 k = ((α.1 14 k : Nat) : Int) := h.2.2.2.2.2.2.2.2.2.2.2.2.2.2.2.2.2.2.2.2.2.2.2.1
theorem vM_kP0 {μ : Mem} {α : Al} (h : vM μ α) : α.1 14 0 = 1 → μ 68 24 = ((α.1 15 0 : Nat) : Int) ∧ μ 68 26 = ((α.1 15 1 : Nat) : Int) ∧ μ 68 25 = α.2 3 0 := h.2.2.2.2.2.2.2.2.2.2.2.2.2.2.2.2.2.2.2.2.2.2.2.2.1
theorem vM_kA0 {μ : Mem} {α : Al} (h : vM μ α) : α.1 14 0 = 1 → ∀ i : Nat, i < α.1 0 1 → μ 68 (0 + i) = ((α.1 16 i : Nat) : Int) ∧ μ 68 (6 + i) = ((α.1 17 i : Nat) : Int) ∧ μ 68 (12 + i) = α.2 4 i ∧ μ 68 (18 + i) = α.2 5 i := h.2.2.2.2.2.2.2.2.2.2.2.2.2.2.2.2.2.2.2.2.2.2.2.2.2.1
theorem vM_kP1 {μ : Mem} {α : Al} (h : vM μ α) : α.1 14 1 = 1 → μ 68 51 = ((α.1 20 0 : Nat) : Int) ∧ μ 68 53 = ((α.1 20 1 : Nat) : Int) ∧ μ 68 52 = α.2 6 0 := h.2.2.2.2.2.2.2.2.2.2.2.2.2.2.2.2.2.2.2.2.2.2.2.2.2.2.1
theorem vM_kA1 {μ : Mem} {α : Al} (h : vM μ α) : α.1 14 1 = 1 → ∀ i : Nat, i < α.1 0 1 → μ 68 (27 + i) = ((α.1 21 i : Nat) : Int) ∧ μ 68 (33 + i) = ((α.1 22 i : Nat) : Int) ∧ μ 68 (39 + i) = α.2 7 i ∧ μ 68 (45 + i) = α.2 8 i := h.2.2.2.2.2.2.2.2.2.2.2.2.2.2.2.2.2.2.2.2.2.2.2.2.2.2.2
def vX (μ : Mem) (α : Al) : Prop :=
  (μ 2 0 = ((α.1 0 0 : Nat) : Int)) ∧
  (μ 2 1 = ((α.1 0 1 : Nat) : Int)) ∧
  (μ 2 2 = ((α.1 0 2 : Nat) : Int)) ∧
  (μ 1 1 = ((α.1 0 3 : Nat) : Int)) ∧
  (μ 3 1 = ((α.1 0 4 : Nat) : Int)) ∧
  (μ 3 3 = ((α.1 0 5 : Nat) : Int)) ∧
  (μ 7 0 = ((α.1 0 6 : Nat) : Int)) ∧
  (∀ i : Nat, i < α.1 0 0 → μ 16 i = ((α.1 1 i : Nat) : Int)) ∧
  (∀ i : Nat, i < α.1 0 1 → μ 17 i = ((α.1 2 i : Nat) : Int)) ∧
  (∀ i : Nat, i < α.1 0 1 → μ 18 i = ((α.1 3 i : Nat) : Int)) ∧
  (∀ i : Nat, i < α.1 0 1 → μ 21 i = ((α.1 4 i : Nat) : Int)) ∧
  (∀ i : Nat, i < α.1 0 1 → μ 19 i = ((α.1 5 i : Nat) : Int)) ∧
  (∀ i : Nat, i < α.1 0 1 → μ 20 i = ((α.1 6 i : Nat) : Int)) ∧
  (∀ i : Nat, i < α.1 0 2 → μ 22 i = ((α.1 7 i : Nat) : Int)) ∧
  (∀ i : Nat, i < α.1 0 3 → μ 13 i = ((α.1 8 i : Nat) : Int)) ∧
  (∀ i : Nat, i < α.1 0 1 → μ 23 i = ((α.1 9 i : Nat) : Int)) ∧
  (∀ i : Nat, i < α.1 0 1 → μ 25 i = ((α.1 10 i : Nat) : Int)) ∧
  (∀ i : Nat, i < α.1 0 6 → μ 35 i = ((α.1 11 i : Nat) : Int)) ∧
  (∀ i : Nat, i < α.1 0 6 → μ 36 i = ((α.1 12 i : Nat) : Int)) ∧
  (∀ i : Nat, i < α.1 0 6 → μ 37 i = ((α.1 13 i : Nat) : Int)) ∧
  (μ 3 2 = α.2 0 0) ∧
  (∀ i : Nat, i < α.1 0 1 → μ 26 i = α.2 1 i) ∧
  (∀ i : Nat, i < α.1 0 1 → μ 24 i = α.2 2 i) ∧
  (∃ kb : Nat, kb < 4 ∧ μ 0 4 = (kb : Int) ∧ ∀ k : Nat, k < 2 → (kb.testBit k = true ↔ α.1 14 k = 1)) ∧
  (α.1 14 0 = 1 → μ 5 1 = ((α.1 15 0 : Nat) : Int) ∧ μ 5 3 = ((α.1 15 1 : Nat) : Int) ∧ μ 5 2 = α.2 3 0) ∧
  (α.1 14 0 = 1 → ∀ i : Nat, i < α.1 0 1 → μ 27 i = ((α.1 16 i : Nat) : Int) ∧ μ 29 i = ((α.1 17 i : Nat) : Int) ∧ μ 30 i = α.2 4 i ∧ μ 28 i = α.2 5 i) ∧
  (α.1 14 1 = 1 → μ 6 1 = ((α.1 20 0 : Nat) : Int) ∧ μ 6 3 = ((α.1 20 1 : Nat) : Int) ∧ μ 6 2 = α.2 6 0) ∧
  (α.1 14 1 = 1 → ∀ i : Nat, i < α.1 0 1 → μ 31 i = ((α.1 21 i : Nat) : Int) ∧ μ 33 i = ((α.1 22 i : Nat) : Int) ∧ μ 34 i = α.2 7 i ∧ μ 32 i = α.2 8 i)
theorem vX_P {μ : Mem} {α : Al} (h : vX μ α) : μ 2 0 = ((α.1 0 0 : Nat) : Int) := h.1
theorem vX_T {μ : Mem} {α : Al} (h : vX μ α) : μ 2 1 = ((α.1 0 1 : Nat) : Int) := h.2.1
theorem vX_N {μ : Mem} {α : Al} (h : vX μ α) : μ 2 2 = ((α.1 0 2 : Nat) : Int) := h.2.2.1
theorem vX_B {μ : Mem} {α : Al} (h : vX μ α) : μ 1 1 = ((α.1 0 3 : Nat) : Int) := h.2.2.2.1
theorem vX_Ps {μ : Mem} {α : Al} (h : vX μ α) : μ 3 1 = ((α.1 0 4 : Nat) : Int) := h.2.2.2.2.1
theorem vX_Kn {μ : Mem} {α : Al} (h : vX μ α) : μ 3 3 = ((α.1 0 5 : Nat) : Int) := h.2.2.2.2.2.1
theorem vX_S {μ : Mem} {α : Al} (h : vX μ α) : μ 7 0 = ((α.1 0 6 : Nat) : Int) := h.2.2.2.2.2.2.1
theorem vX_one {μ : Mem} {α : Al} (h : vX μ α) : ∀ i : Nat, i < α.1 0 0 → μ 16 i = ((α.1 1 i : Nat) : Int) := h.2.2.2.2.2.2.2.1
theorem vX_kind {μ : Mem} {α : Al} (h : vX μ α) : ∀ i : Nat, i < α.1 0 1 → μ 17 i = ((α.1 2 i : Nat) : Int) := h.2.2.2.2.2.2.2.2.1
theorem vX_look {μ : Mem} {α : Al} (h : vX μ α) : ∀ i : Nat, i < α.1 0 1 → μ 18 i = ((α.1 3 i : Nat) : Int) := h.2.2.2.2.2.2.2.2.2.1
theorem vX_keep {μ : Mem} {α : Al} (h : vX μ α) : ∀ i : Nat, i < α.1 0 1 → μ 21 i = ((α.1 4 i : Nat) : Int) := h.2.2.2.2.2.2.2.2.2.2.1
theorem vX_word {μ : Mem} {α : Al} (h : vX μ α) : ∀ i : Nat, i < α.1 0 1 → μ 19 i = ((α.1 5 i : Nat) : Int) := h.2.2.2.2.2.2.2.2.2.2.2.1
theorem vX_pow0 {μ : Mem} {α : Al} (h : vX μ α) : ∀ i : Nat, i < α.1 0 1 → μ 20 i = ((α.1 6 i : Nat) : Int) := h.2.2.2.2.2.2.2.2.2.2.2.2.1
theorem vX_night {μ : Mem} {α : Al} (h : vX μ α) : ∀ i : Nat, i < α.1 0 2 → μ 22 i = ((α.1 7 i : Nat) : Int) := h.2.2.2.2.2.2.2.2.2.2.2.2.2.1
theorem vX_text {μ : Mem} {α : Al} (h : vX μ α) : ∀ i : Nat, i < α.1 0 3 → μ 13 i = ((α.1 8 i : Nat) : Int) := h.2.2.2.2.2.2.2.2.2.2.2.2.2.2.1
theorem vX_lie {μ : Mem} {α : Al} (h : vX μ α) : ∀ i : Nat, i < α.1 0 1 → μ 23 i = ((α.1 9 i : Nat) : Int) := h.2.2.2.2.2.2.2.2.2.2.2.2.2.2.2.1
theorem vX_pow {μ : Mem} {α : Al} (h : vX μ α) : ∀ i : Nat, i < α.1 0 1 → μ 25 i = ((α.1 10 i : Nat) : Int) := h.2.2.2.2.2.2.2.2.2.2.2.2.2.2.2.2.1
theorem vX_sp {μ : Mem} {α : Al} (h : vX μ α) : ∀ i : Nat, i < α.1 0 6 → μ 35 i = ((α.1 11 i : Nat) : Int) := h.2.2.2.2.2.2.2.2.2.2.2.2.2.2.2.2.2.1
theorem vX_sw {μ : Mem} {α : Al} (h : vX μ α) : ∀ i : Nat, i < α.1 0 6 → μ 36 i = ((α.1 12 i : Nat) : Int) := h.2.2.2.2.2.2.2.2.2.2.2.2.2.2.2.2.2.2.1
theorem vX_sv {μ : Mem} {α : Al} (h : vX μ α) : ∀ i : Nat, i < α.1 0 6 → μ 37 i = ((α.1 13 i : Nat) : Int) := h.2.2.2.2.2.2.2.2.2.2.2.2.2.2.2.2.2.2.2.1
theorem vX_Ch {μ : Mem} {α : Al} (h : vX μ α) : μ 3 2 = α.2 0 0 := h.2.2.2.2.2.2.2.2.2.2.2.2.2.2.2.2.2.2.2.2.1
theorem vX_wk {μ : Mem} {α : Al} (h : vX μ α) : ∀ i : Nat, i < α.1 0 1 → μ 26 i = α.2 1 i := h.2.2.2.2.2.2.2.2.2.2.2.2.2.2.2.2.2.2.2.2.2.1
theorem vX_ca {μ : Mem} {α : Al} (h : vX μ α) : ∀ i : Nat, i < α.1 0 1 → μ 24 i = α.2 2 i := h.2.2.2.2.2.2.2.2.2.2.2.2.2.2.2.2.2.2.2.2.2.2.1
theorem vX_kf {μ : Mem} {α : Al} (h : vX μ α) : ∃ kb : Nat, kb < 4 ∧ μ 0 4 = (kb : Int) ∧ ∀ k : Nat, k < 2 → (kb.testBit k = true ↔ α.1 14 k = 1) := h.2.2.2.2.2.2.2.2.2.2.2.2.2.2.2.2.2.2.2.2.2.2.2.1
theorem vX_kP0 {μ : Mem} {α : Al} (h : vX μ α) : α.1 14 0 = 1 → μ 5 1 = ((α.1 15 0 : Nat) : Int) ∧ μ 5 3 = ((α.1 15 1 : Nat) : Int) ∧ μ 5 2 = α.2 3 0 := h.2.2.2.2.2.2.2.2.2.2.2.2.2.2.2.2.2.2.2.2.2.2.2.2.1
theorem vX_kA0 {μ : Mem} {α : Al} (h : vX μ α) : α.1 14 0 = 1 → ∀ i : Nat, i < α.1 0 1 → μ 27 i = ((α.1 16 i : Nat) : Int) ∧ μ 29 i = ((α.1 17 i : Nat) : Int) ∧ μ 30 i = α.2 4 i ∧ μ 28 i = α.2 5 i := h.2.2.2.2.2.2.2.2.2.2.2.2.2.2.2.2.2.2.2.2.2.2.2.2.2.1
theorem vX_kP1 {μ : Mem} {α : Al} (h : vX μ α) : α.1 14 1 = 1 → μ 6 1 = ((α.1 20 0 : Nat) : Int) ∧ μ 6 3 = ((α.1 20 1 : Nat) : Int) ∧ μ 6 2 = α.2 6 0 := h.2.2.2.2.2.2.2.2.2.2.2.2.2.2.2.2.2.2.2.2.2.2.2.2.2.2.1
theorem vX_kA1 {μ : Mem} {α : Al} (h : vX μ α) : α.1 14 1 = 1 → ∀ i : Nat, i < α.1 0 1 → μ 31 i = ((α.1 21 i : Nat) : Int) ∧ μ 33 i = ((α.1 22 i : Nat) : Int) ∧ μ 34 i = α.2 7 i ∧ μ 32 i = α.2 8 i := h.2.2.2.2.2.2.2.2.2.2.2.2.2.2.2.2.2.2.2.2.2.2.2.2.2.2.2
def wf (α : Al) : Prop :=
  (α.1 0 0 ≤ 5) ∧
  (α.1 0 1 ≤ 6) ∧
  (α.1 0 2 ≤ 6) ∧
  (α.1 0 3 ≤ 160) ∧
  (α.1 0 4 ≤ α.1 0 2) ∧
  (α.1 0 5 < 32) ∧
  (α.1 0 6 ≤ 10) ∧
  (∀ i : Nat, i < α.1 0 0 → α.1 1 i < 4) ∧
  (∀ i : Nat, i < α.1 0 1 → α.1 2 i < 4) ∧
  (∀ i : Nat, i < α.1 0 1 → α.1 3 i < 3) ∧
  (∀ i : Nat, i < α.1 0 1 → α.1 4 i < α.1 0 0) ∧
  (∀ i : Nat, i < α.1 0 1 → α.1 5 i < 4) ∧
  (∀ i : Nat, i < α.1 0 1 → α.1 6 i < 10) ∧
  (∀ i : Nat, i < α.1 0 2 → α.1 7 i < 32) ∧
  (∀ i : Nat, i < α.1 0 3 → α.1 8 i < 256) ∧
  (∀ i : Nat, i < α.1 0 1 → α.1 9 i < α.1 0 1 ∧ α.1 3 (α.1 9 i) = α.1 3 i) ∧
  (∀ i j : Nat, i < α.1 0 1 → j < α.1 0 1 → α.1 9 i = α.1 9 j → i = j) ∧
  (∀ i : Nat, i < α.1 0 1 → α.1 10 i < 10) ∧
  (∀ i : Nat, i < α.1 0 6 → α.1 11 i < α.1 0 1) ∧
  (∀ i : Nat, i < α.1 0 6 → α.1 12 i < 4) ∧
  (∀ i : Nat, i < α.1 0 6 → α.1 13 i < 2) ∧
  (∀ k : Nat, k < 2 → α.1 14 k < 2) ∧
  (α.1 14 0 = 1 → α.1 15 0 ≤ α.1 0 2 ∧ α.1 15 1 < 32) ∧
  (α.1 14 0 = 1 → ∀ i : Nat, i < α.1 0 1 → α.1 16 i < α.1 0 1 ∧ α.1 3 (α.1 16 i) = α.1 3 i ∧ α.1 17 i < 10) ∧
  (α.1 14 0 = 1 → ∀ i j : Nat, i < α.1 0 1 → j < α.1 0 1 → α.1 16 i = α.1 16 j → i = j) ∧
  (α.1 14 1 = 1 → α.1 20 0 ≤ α.1 0 2 ∧ α.1 20 1 < 32) ∧
  (α.1 14 1 = 1 → ∀ i : Nat, i < α.1 0 1 → α.1 21 i < α.1 0 1 ∧ α.1 3 (α.1 21 i) = α.1 3 i ∧ α.1 22 i < 10) ∧
  (α.1 14 1 = 1 → ∀ i j : Nat, i < α.1 0 1 → j < α.1 0 1 → α.1 21 i = α.1 21 j → i = j)
theorem wf_P {α : Al} (h : wf α) : α.1 0 0 ≤ 5 := h.1
theorem wf_T {α : Al} (h : wf α) : α.1 0 1 ≤ 6 := h.2.1
theorem wf_N {α : Al} (h : wf α) : α.1 0 2 ≤ 6 := h.2.2.1
theorem wf_B {α : Al} (h : wf α) : α.1 0 3 ≤ 160 := h.2.2.2.1
theorem wf_Ps {α : Al} (h : wf α) : α.1 0 4 ≤ α.1 0 2 := h.2.2.2.2.1
theorem wf_Kn {α : Al} (h : wf α) : α.1 0 5 < 32 := h.2.2.2.2.2.1
theorem wf_S {α : Al} (h : wf α) : α.1 0 6 ≤ 10 := h.2.2.2.2.2.2.1
theorem wf_one {α : Al} (h : wf α) : ∀ i : Nat, i < α.1 0 0 → α.1 1 i < 4 := h.2.2.2.2.2.2.2.1
theorem wf_kind {α : Al} (h : wf α) : ∀ i : Nat, i < α.1 0 1 → α.1 2 i < 4 := h.2.2.2.2.2.2.2.2.1
theorem wf_look {α : Al} (h : wf α) : ∀ i : Nat, i < α.1 0 1 → α.1 3 i < 3 := h.2.2.2.2.2.2.2.2.2.1
theorem wf_keep {α : Al} (h : wf α) : ∀ i : Nat, i < α.1 0 1 → α.1 4 i < α.1 0 0 := h.2.2.2.2.2.2.2.2.2.2.1
theorem wf_word {α : Al} (h : wf α) : ∀ i : Nat, i < α.1 0 1 → α.1 5 i < 4 := h.2.2.2.2.2.2.2.2.2.2.2.1
theorem wf_pow0 {α : Al} (h : wf α) : ∀ i : Nat, i < α.1 0 1 → α.1 6 i < 10 := h.2.2.2.2.2.2.2.2.2.2.2.2.1
theorem wf_night {α : Al} (h : wf α) : ∀ i : Nat, i < α.1 0 2 → α.1 7 i < 32 := h.2.2.2.2.2.2.2.2.2.2.2.2.2.1
theorem wf_text {α : Al} (h : wf α) : ∀ i : Nat, i < α.1 0 3 → α.1 8 i < 256 := h.2.2.2.2.2.2.2.2.2.2.2.2.2.2.1
theorem wf_lie {α : Al} (h : wf α) : ∀ i : Nat, i < α.1 0 1 → α.1 9 i < α.1 0 1 ∧ α.1 3 (α.1 9 i) = α.1 3 i := h.2.2.2.2.2.2.2.2.2.2.2.2.2.2.2.1
theorem wf_inj {α : Al} (h : wf α) : ∀ i j : Nat, i < α.1 0 1 → j < α.1 0 1 → α.1 9 i = α.1 9 j → i = j := h.2.2.2.2.2.2.2.2.2.2.2.2.2.2.2.2.1
theorem wf_pow {α : Al} (h : wf α) : ∀ i : Nat, i < α.1 0 1 → α.1 10 i < 10 := h.2.2.2.2.2.2.2.2.2.2.2.2.2.2.2.2.2.1
theorem wf_sp {α : Al} (h : wf α) : ∀ i : Nat, i < α.1 0 6 → α.1 11 i < α.1 0 1 := h.2.2.2.2.2.2.2.2.2.2.2.2.2.2.2.2.2.2.1
theorem wf_sw {α : Al} (h : wf α) : ∀ i : Nat, i < α.1 0 6 → α.1 12 i < 4 := h.2.2.2.2.2.2.2.2.2.2.2.2.2.2.2.2.2.2.2.1
theorem wf_sv {α : Al} (h : wf α) : ∀ i : Nat, i < α.1 0 6 → α.1 13 i < 2 := h.2.2.2.2.2.2.2.2.2.2.2.2.2.2.2.2.2.2.2.2.1
theorem wf_kf {α : Al} (h : wf α) : ∀ k : Nat, k < 2 → α.1 14 k < 2 := h.2.2.2.2.2.2.2.2.2.2.2.2.2.2.2.2.2.2.2.2.2.1
theorem wf_kS0 {α : Al} (h : wf α) : α.1 14 0 = 1 → α.1 15 0 ≤ α.1 0 2 ∧ α.1 15 1 < 32 := h.2.2.2.2.2.2.2.2.2.2.2.2.2.2.2.2.2.2.2.2.2.2.1
theorem wf_kL0 {α : Al} (h : wf α) : α.1 14 0 = 1 → ∀ i : Nat, i < α.1 0 1 → α.1 16 i < α.1 0 1 ∧ α.1 3 (α.1 16 i) = α.1 3 i ∧ α.1 17 i < 10 := h.2.2.2.2.2.2.2.2.2.2.2.2.2.2.2.2.2.2.2.2.2.2.2.1
theorem wf_kI0 {α : Al} (h : wf α) : α.1 14 0 = 1 → ∀ i j : Nat, i < α.1 0 1 → j < α.1 0 1 → α.1 16 i = α.1 16 j → i = j := h.2.2.2.2.2.2.2.2.2.2.2.2.2.2.2.2.2.2.2.2.2.2.2.2.1
theorem wf_kS1 {α : Al} (h : wf α) : α.1 14 1 = 1 → α.1 20 0 ≤ α.1 0 2 ∧ α.1 20 1 < 32 := h.2.2.2.2.2.2.2.2.2.2.2.2.2.2.2.2.2.2.2.2.2.2.2.2.2.1
theorem wf_kL1 {α : Al} (h : wf α) : α.1 14 1 = 1 → ∀ i : Nat, i < α.1 0 1 → α.1 21 i < α.1 0 1 ∧ α.1 3 (α.1 21 i) = α.1 3 i ∧ α.1 22 i < 10 := h.2.2.2.2.2.2.2.2.2.2.2.2.2.2.2.2.2.2.2.2.2.2.2.2.2.2.1
theorem wf_kI1 {α : Al} (h : wf α) : α.1 14 1 = 1 → ∀ i j : Nat, i < α.1 0 1 → j < α.1 0 1 → α.1 21 i = α.1 21 j → i = j := h.2.2.2.2.2.2.2.2.2.2.2.2.2.2.2.2.2.2.2.2.2.2.2.2.2.2.2
/-! rewriting -/
theorem gI_mk {F : Int → Mem → Prop} {x : Int} {μ : Mem} (h : F x μ) : gI F (xI x) μ := h
theorem gV_mk {F : Mem → Prop} {v : AV} {μ : Mem} (h : F μ) : gV F v μ := h
theorem gR_mk {F : Nat → Mem → Prop} {x : Nat} {μ : Mem} (h : F x μ) : gR F (xR x) μ := h
theorem iw_5 {t c : Nat} (ht : t < 1000) (hc : c < 1000) : iw (iw (5 * (t : Int)) + (c : Int)) = ((5 * t + c : Nat) : Int) := by simp only [iw_def]; omega
theorem iw_50 {t : Nat} (ht : t < 1000) : iw (5 * (t : Int)) = ((5 * t : Nat) : Int) := by simp only [iw_def]; omega
theorem iw_51 {t : Nat} (ht : t < 1000) : iw (iw (5 * (t : Int)) + 1) = ((5 * t + 1 : Nat) : Int) := by simp only [iw_def]; omega
theorem iw_52 {t : Nat} (ht : t < 1000) : iw (iw (5 * (t : Int)) + 2) = ((5 * t + 2 : Nat) : Int) := by simp only [iw_def]; omega
theorem iw_53 {t : Nat} (ht : t < 1000) : iw (iw (5 * (t : Int)) + 3) = ((5 * t + 3 : Nat) : Int) := by simp only [iw_def]; omega
theorem iw_54 {t : Nat} (ht : t < 1000) : iw (iw (5 * (t : Int)) + 4) = ((5 * t + 4 : Nat) : Int) := by simp only [iw_def]; omega
theorem iw_nn {n : Nat} (h : n < 2147483648) : iw (n : Int) = (n : Int) := by simp only [iw_def]; omega
theorem iw_n0 {n : Nat} (h : n < 2147483648) : iw ((n : Int) + 0) = (n : Int) := by simp only [iw_def]; omega
theorem iw_s0 {n : Nat} (h : n < 2147483648) : iw ((n : Int) - 0) = (n : Int) := by simp only [iw_def]; omega
theorem iw_k1 {n : Nat} (h : n < 1000000) : iw ((n : Int) + 1) = ((n + 1 : Nat) : Int) := by simp only [iw_def]; omega
theorem iw_k2 {n : Nat} (h : n < 1000000) : iw ((n : Int) + 2) = ((n + 2 : Nat) : Int) := by simp only [iw_def]; omega
theorem iw_k3 {n : Nat} (h : n < 1000000) : iw ((n : Int) + 3) = ((n + 3 : Nat) : Int) := by simp only [iw_def]; omega
theorem iw_k4 {n : Nat} (h : n < 1000000) : iw ((n : Int) + 4) = ((n + 4 : Nat) : Int) := by simp only [iw_def]; omega
theorem iw_c {t c : Nat} (ht : t < 100000) (hc : c < 100000) : iw ((c : Int) + (t : Int)) = ((c + t : Nat) : Int) := by simp only [iw_def]; omega
theorem iw_6 {t : Nat} (ht : t < 1000) : iw (6 + (t : Int)) = ((6 + t : Nat) : Int) := by simp only [iw_def]; omega
theorem iw_12 {t : Nat} (ht : t < 1000) : iw (12 + (t : Int)) = ((12 + t : Nat) : Int) := by simp only [iw_def]; omega
theorem iw_18 {t : Nat} (ht : t < 1000) : iw (18 + (t : Int)) = ((18 + t : Nat) : Int) := by simp only [iw_def]; omega
theorem iw_1 {t : Nat} (ht : t < 1000000) : iw ((t : Int) + 1) = ((t + 1 : Nat) : Int) := by simp only [iw_def]; omega
theorem iw_m1 {t : Nat} (ht : t < 1000000) : iw ((t : Int) - 1) = (t : Int) - 1 := by simp only [iw_def]; omega
theorem ii_eq {a b : Nat} : ((a : Int) = (b : Int)) = (a = b) := by rw [Int.ofNat_inj]
theorem ii_lt {a b : Nat} : ((a : Int) < (b : Int)) = (a < b) := by rw [Int.ofNat_lt]
theorem ii_0 {a : Nat} : ((a : Int) = 0) = (a = 0) := by apply propext; omega
theorem ii_1 {a : Nat} : ((a : Int) = 1) = (a = 1) := by apply propext; omega
theorem ii_2 {a : Nat} : ((a : Int) = 2) = (a = 2) := by apply propext; omega
theorem ii_3 {a : Nat} : ((a : Int) = 3) = (a = 3) := by apply propext; omega
theorem ii_p {a : Nat} : ((0 : Int) < (a : Int)) = (0 < a) := by apply propext; omega
theorem ii_n {a : Nat} : ((a : Int) < 0) = False := by apply propext; constructor; intro h; omega; intro h; exact h.elim
theorem sp_bit1 {a j : Nat} (ha : a < 2147483648) (hj : j < 32) : (xand (xshr (a : Int) (j : Int)) 1 = 1) = (a.testBit j = true) := by
  rw [sp_bit ha hj]
  apply propext
  cases a.testBit j <;> simp
/-! specifications: words, nights -/
def sp_works (α : Al) (t p : Nat) (w : Int) : Int :=
  if ((α.1 5 t : Nat) : Int) = w then (if α.1 2 t = 1 then 1 else if α.1 2 t = 2 then (if 0 < α.1 10 t then 1 else 0) else if α.1 2 t = 3 then (if α.1 4 p = α.1 4 t then 1 else if α.1 1 (α.1 4 p) = 2 then 1 else 0) else 0) else 0
def sp_open (α : Al) (n p : Nat) : Bool := α.1 1 (α.1 4 p) == 3 || ((α.1 7 n).testBit (α.1 4 p) && !(α.1 1 (α.1 4 p) == 1))
def sp_may (α : Al) (n a b : Nat) : Bool := α.1 3 a == α.1 3 b && sp_open α n a && sp_open α n b
def sp_bits (f : Nat → Bool) : Nat → Nat
  | 0 => 0
  | n + 1 => sp_bits f n + (if f n then 2 ^ n else 0)
theorem sp_bits_lt (f : Nat → Bool) : ∀ n, sp_bits f n < 2 ^ n
  | 0 => Nat.zero_lt_one
  | n + 1 => by
    have := sp_bits_lt f n
    rw [sp_bits, Nat.pow_succ]
    split <;> omega
theorem sp_or_pow {a j : Nat} (h : a < 2 ^ j) : a ||| 2 ^ j = a + 2 ^ j := by
  rw [Nat.or_comm, Nat.add_comm]
  have := Nat.two_pow_add_eq_or_of_lt (i := j) h 1
  simpa using this.symm
theorem sp_bits_or {f : Nat → Bool} {n : Nat} (hn : n < 31) (h : f n = true) : xior ((sp_bits f n : Nat) : Int) (xshl 1 (n : Int)) = ((sp_bits f (n + 1) : Nat) : Int) := by
  have h1 := sp_bits_lt f n
  have h2 : (2 : Nat) ^ n < 2147483648 := Nat.pow_lt_pow_right (by decide) hn
  rw [sp_one hn, xior_nat (by omega) h2, sp_or_pow h1, sp_bits, if_pos h]
theorem sp_bits_no {f : Nat → Bool} {n : Nat} (h : ¬ f n = true) : sp_bits f (n + 1) = sp_bits f n := by rw [sp_bits, if_neg h]; rfl
theorem xior_0 {a : Nat} (h : a < 2147483648) : xior (a : Int) 0 = (a : Int) := by
  have := xior_nat (b := 0) h (by decide)
  simpa using this

