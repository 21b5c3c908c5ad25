/-! ===== what the reference does, as functions on the memory ===== -/
/-- the loans as they must be at any time -/
def Lk (μ : Mm) : Prop := (0 ≤ μ 38 0 11 ∧ μ 38 0 11 ≤ 1000) ∧ ∀ k : Nat, (k : Int) < μ 38 0 11 → (0 ≤ μ 48 0 k ∧ μ 48 0 k ≤ 3) ∧ ((0 ≤ μ 49 0 k ∧ μ 49 0 k ≤ 5) ∨ (10 ≤ μ 49 0 k ∧ μ 49 0 k ≤ 13)) ∧ (0 ≤ μ 50 0 k ∧ μ 50 0 k ≤ 5) ∧ (0 ≤ μ 51 0 k ∧ μ 51 0 k ≤ 500) ∧ (0 ≤ μ 52 0 k ∧ μ 52 0 k ≤ 10000)
def lnG (μ : Mm) (src s : Int) (k : Nat) : Int := if μ 49 0 k = src ∧ μ 48 0 k = s then μ 51 0 k else 0
def lnF (μ : Mm) (src s : Int) (n : Nat) : Int := sm (lnG μ src s) n
def lentF (μ : Mm) (src s : Int) : Int := lnF μ src s (μ 38 0 11).toNat
theorem lnF_rng {μ : Mm} (h : Lk μ) (src s : Int) {n : Nat} (hn : (n : Int) ≤ μ 38 0 11) : 0 ≤ lnF μ src s n ∧ lnF μ src s n ≤ 500000 := by
  have h1 := sm_le (g := lnG μ src s) (c := 500) (n := n) (fun k hk => by
    have := (h.2 k (by omega)).2.2.2.1
    unfold lnG
    split <;> omega)
  have := h.1
  unfold lnF
  omega
theorem lentF_rng {μ : Mm} (h : Lk μ) (src s : Int) : 0 ≤ lentF μ src s ∧ lentF μ src s ≤ 500000 := lnF_rng h src s (by have := h.1; omega)
def partF (μ : Mm) (c s : Int) : Int := if 0 < μ 42 0 (4 * c + s) then μ 42 0 (4 * c + s) - lentF μ c s else 0
/-- positions in their range -/
def Pk (μ : Mm) : Prop := ∀ i : Int, 0 ≤ i → i ≤ 23 → -500 ≤ μ 42 0 i ∧ μ 42 0 i ≤ 500
def nlS (μ : Mm) (s last : Int) : Nat → Int
  | 0 => -1
  | k + 1 => if (last = -1 ∨ μ 46 0 (4 * last + s) < μ 46 0 (4 * (k : Int) + s) ∨ (μ 46 0 (4 * (k : Int) + s) = μ 46 0 (4 * last + s) ∧ last < (k : Int))) ∧ (nlS μ s last k = -1 ∨ μ 46 0 (4 * (k : Int) + s) < μ 46 0 (4 * nlS μ s last k + s)) then (k : Int) else nlS μ s last k
def nlF (μ : Mm) (s last : Int) : Int := nlS μ s last 4
theorem nlS_rng (μ : Mm) (s last : Int) : ∀ k : Nat, -1 ≤ nlS μ s last k ∧ nlS μ s last k < (k : Int)
  | 0 => by simp [nlS]
  | k + 1 => by
    have := nlS_rng μ s last k
    unfold nlS
    split <;> omega
def behF (μ : Mm) (s src : Int) : Int := if src < 5 then src + 1 else if nlF μ s (if src < 10 then -1 else src - 10) = -1 then -1 else 10 + nlF μ s (if src < 10 then -1 else src - 10)
def hasF (μ : Mm) (src b s w : Int) : Int := if src = w ∨ src = b then 0 else if 10 ≤ src then μ 45 0 (4 * (src - 10) + s) else if μ 43 0 src ≠ 0 then partF μ src s else 0

