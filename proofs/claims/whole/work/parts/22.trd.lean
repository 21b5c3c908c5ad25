/-! ===== trading: what it keeps ===== -/
theorem cbL_0 {src s : Int} {j : Nat} {M : Mm} {rest : Int} (h : rest ≤ 0) : cbL src s j M rest = M := by
  cases j with
  | zero => rfl
  | succ j => rw [cbL, if_neg (by omega)]
theorem gbL_o {g : Nat} {t i : Int} (h : g ≠ 51 ∧ g ≠ 45) (c s : Int) : ∀ (f : Nat) (M : Mm) (rest : Int), gbL c s f M rest g t i = M g t i
  | 0, _, _ => rfl
  | f + 1, M, rest => by
    rw [gbL]
    split
    · rw [gbL_o h c s f, backF_o _ _ _ _ h]
    · rfl
theorem giveF_o (M : Mm) (c s many : Int) {g : Nat} {t i : Int} (h : g ≠ 51 ∧ g ≠ 45) : giveF M c s many g t i = M g t i := gbL_o h c s _ M many
theorem giveF_ok {c s many : Int} {M : Mm} (hs : 0 ≤ s ∧ s ≤ 3) (hW : Wk M) (h0 : 0 ≤ many) (h1 : many ≤ toF M c s) : GR c s M (giveF M c s many) many :=
  gbL_ok hs _ M many hW.1 (fun i i0 i1 => (Gk_of hW.1 hW.2.2.2.2 i i0 i1).1.1) h0 (by omega) h1
theorem I4_at {μ : Mm} (h : I4 μ) {c s : Int} (hc : 0 ≤ c ∧ c ≤ 5) (hs : 0 ≤ s ∧ s ≤ 3) : (0 ≤ μ 42 0 (4 * c + s) → toF μ c s = 0) ∧ (μ 42 0 (4 * c + s) < 0 → toF μ c s = -μ 42 0 (4 * c + s)) := by
  have := h c s hc.1 hc.2 hs.1 hs.2
  split at this <;> omega
theorem I5_at {μ : Mm} (hL : Lk μ) (h : I5 μ) {c s : Int} (hc : 0 ≤ c ∧ c ≤ 5) (hs : 0 ≤ s ∧ s ≤ 3) : (μ 42 0 (4 * c + s) ≤ 0 → lentF μ c s = 0) ∧ lentF μ c s ≤ 500 + 500 * 1000 ∧ (0 < μ 42 0 (4 * c + s) → lentF μ c s ≤ μ 42 0 (4 * c + s)) := by
  have := h c s hc.1 hc.2 hs.1 hs.2
  have h2 := lentF_rng hL c s
  split at this <;> omega
theorem part_at {μ : Mm} (hL : Lk μ) (h : I5 μ) {c s : Int} (hc : 0 ≤ c ∧ c ≤ 5) (hs : 0 ≤ s ∧ s ≤ 3) : 0 ≤ partF μ c s ∧ (0 < μ 42 0 (4 * c + s) → partF μ c s = μ 42 0 (4 * c + s) - lentF μ c s) ∧ (μ 42 0 (4 * c + s) ≤ 0 → partF μ c s = 0) := by
  have h1 := I5_at hL h hc hs
  unfold partF
  split <;> omega
/-- a position and a purse are changed -/
theorem trd_o {a : Mm} {i v c w : Int} {g : Nat} {t j : Int} (h1 : g ≠ 42) (h2 : g ≠ 41) : st (st a 42 0 i v) 41 0 c w g t j = a g t j := by
  rw [st_o h2, st_o h1]
theorem trd_p {a : Mm} {i v c w j : Int} : st (st a 42 0 i v) 41 0 c w 42 0 j = if j = i then v else a 42 0 j := by
  rw [st_o (by decide)]
  by_cases h : j = i
  · rw [if_pos h, h]; exact st_s
  · rw [if_neg h]; exact st_i h
theorem trd_ok {a : Mm} {c s v w : Int} (hL : Lk a) (hP : Pk a) (hc : 0 ≤ c ∧ c ≤ 5) (hs : 0 ≤ s ∧ s ≤ 3) (hv : -500 ≤ v ∧ v ≤ 500)
    (h4 : ∀ d t : Int, 0 ≤ d → d ≤ 5 → 0 ≤ t → t ≤ 3 → ¬ (d = c ∧ t = s) → toF a d t = (if a 42 0 (4 * d + t) < 0 then -a 42 0 (4 * d + t) else 0)) (h4' : toF a c s = (if v < 0 then -v else 0))
    (h5 : ∀ d t : Int, 0 ≤ d → d ≤ 5 → 0 ≤ t → t ≤ 3 → ¬ (d = c ∧ t = s) → lentF a d t ≤ (if 0 < a 42 0 (4 * d + t) then a 42 0 (4 * d + t) else 0)) (h5' : lentF a c s ≤ (if 0 < v then v else 0)) (h6 : I6 a) : Wk (st (st a 42 0 (4 * c + s) v) 41 0 c w) := by
  generalize hQ : st (st a 42 0 (4 * c + s) v) 41 0 c w = Q
  have qp : ∀ j, Q 42 0 j = if j = 4 * c + s then v else a 42 0 j := fun j => by rw [← hQ]; exact trd_p
  have qo : ∀ (g : Nat) (t j : Int), g ≠ 42 → g ≠ 41 → Q g t j = a g t j := fun g t j h1 h2 => by rw [← hQ]; exact trd_o h1 h2
  have q5 : ∀ j, Q 48 0 j = a 48 0 j := fun j => qo 48 0 j (by decide) (by decide)
  have ql := lentF_cg (qo 38 0 11 (by decide) (by decide)) q5 (fun j => qo 49 0 j (by decide) (by decide)) (fun j => qo 51 0 j (by decide) (by decide))
  have qt := toF_cg (qo 38 0 11 (by decide) (by decide)) q5 (fun j => qo 50 0 j (by decide) (by decide)) (fun j => qo 51 0 j (by decide) (by decide))
  refine ⟨Lk_cg hL (qo 38 0 11 (by decide) (by decide)) q5 (fun j => qo 49 0 j (by decide) (by decide)) (fun j => qo 50 0 j (by decide) (by decide)) (fun j => qo 51 0 j (by decide) (by decide)) (fun j => qo 52 0 j (by decide) (by decide)), fun i i0 i1 => ?_, fun d t d0 d1 t0 t1 => ?_, fun d t d0 d1 t0 t1 => ?_, fun l t l0 l1 t0 t1 => ?_⟩
  · rw [qp]
    split
    · exact hv
    · exact hP i i0 i1
  · rw [qt, qp]
    by_cases z : d = c ∧ t = s
    · rw [if_pos (show 4 * d + t = 4 * c + s by omega), z.1, z.2]; exact h4'
    · rw [if_neg (show ¬ 4 * d + t = 4 * c + s by omega)]; exact h4 d t d0 d1 t0 t1 z
  · rw [ql, qp]
    by_cases z : d = c ∧ t = s
    · rw [if_pos (show 4 * d + t = 4 * c + s by omega), z.1, z.2]; exact h5'
    · rw [if_neg (show ¬ 4 * d + t = 4 * c + s by omega)]; exact h5 d t d0 d1 t0 t1 z
  · rw [ql, qo 45 _ _ (by decide) (by decide), qo 46 _ _ (by decide) (by decide)]
    exact h6 l t l0 l1 t0 t1
theorem buysF_ok {μ : Mm} {c s n : Int} (hW : Wk μ) (hc : 0 ≤ c ∧ c ≤ 5) (hs : 0 ≤ s ∧ s ≤ 3) (hn : 1 ≤ n ∧ n ≤ 500) (hm : μ 42 0 (4 * c + s) + n ≤ 500) : Wk (buysF μ c s n) := by
  have h4 := I4_at hW.2.2.1 hc hs
  have hp := hW.2.1 (4 * c + s) (by omega) (by omega)
  have h5 := I5_at hW.1 hW.2.2.2.1 hc hs
  unfold buysF
  generalize hv : (if 0 ≤ μ 42 0 (4 * c + s) then (0 : Int) else if -μ 42 0 (4 * c + s) < n then -μ 42 0 (4 * c + s) else n) = v
  have hv2 : 0 ≤ v ∧ v ≤ toF μ c s ∧ toF μ c s - v = (if μ 42 0 (4 * c + s) + n < 0 then -(μ 42 0 (4 * c + s) + n) else 0) := by
    rw [← hv]
    split
    · split <;> omega
    · split <;> split <;> omega
  obtain ⟨g1, g2, g3, g4, g5⟩ := giveF_ok (c := c) hs hW hv2.1 hv2.2.1
  have hgo : ∀ j, giveF μ c s v 42 0 j = μ 42 0 j := fun j => giveF_o μ c s v (by decide)
  generalize giveF μ c s v = a at g1 g2 g3 g4 g5 hgo ⊢
  show Wk (st (st a 42 0 (4 * c + s) (a 42 0 (4 * c + s) + n)) 41 0 c _)
  rw [hgo]
  refine trd_ok g2 (fun i i0 i1 => by rw [hgo]; exact hW.2.1 i i0 i1) hc hs (by omega) (fun d t d0 d1 t0 t1 z => ?_) ?_ (fun d t d0 d1 t0 t1 z => ?_) ?_ (fun l t l0 l1 t0 t1 => ?_)
  · rw [g3, hgo, if_neg (show ¬ (c = d ∧ s = t) by omega), Int.add_zero]
    exact hW.2.2.1 d t d0 d1 t0 t1
  · rw [g3, if_pos ⟨rfl, rfl⟩, ← hv2.2.2]
    omega
  · rw [hgo]
    exact Int.le_trans (g4 d t) (hW.2.2.2.1 d t d0 d1 t0 t1)
  · have := g4 c s
    split <;> omega
  · have q6 := hW.2.2.2.2 l t l0 l1 t0 t1
    have q5 := g5 l t l0 l1 t0 t1
    rw [g1 46 0 _ (by decide)]
    exact ⟨⟨q5.1, by omega⟩, q6.2⟩
theorem sellsF_ok {μ : Mm} {c s n : Int} (hW : Wk μ) (hc : 0 ≤ c ∧ c ≤ 5) (hs : 0 ≤ s ∧ s ≤ 3) (hn : 1 ≤ n ∧ n ≤ μ 42 0 (4 * c + s)) : Wk (sellsF μ c s n) := by
  have h4 := I4_at hW.2.2.1 hc hs
  have hp := hW.2.1 (4 * c + s) (by omega) (by omega)
  have h5 := I5_at hW.1 hW.2.2.2.1 hc hs
  have hpt := part_at hW.1 hW.2.2.2.1 hc hs
  have hln := lentF_rng hW.1 c s
  unfold sellsF
  generalize ha : (if partF μ c s < n then callF μ c s (n - partF μ c s) else μ) = a
  have hA : Wk a ∧ lentF a c s ≤ μ 42 0 (4 * c + s) - n ∧ a 42 0 (4 * c + s) = μ 42 0 (4 * c + s) := by
    rw [← ha]
    split
    · obtain ⟨z1, z2, z3⟩ := callF_ok (src := c) (many := n - partF μ c s) hs hW (by omega) (by omega)
      exact ⟨z1, by omega, z3 (by omega) hc.1⟩
    · exact ⟨hW, by omega, rfl⟩
  obtain ⟨hWa, hla, hpa⟩ := hA
  show Wk (st (st a 42 0 (4 * c + s) (a 42 0 (4 * c + s) - n)) 41 0 c _)
  rw [hpa]
  have h4a := I4_at hWa.2.2.1 hc hs
  refine trd_ok hWa.1 hWa.2.1 hc hs (by omega) (fun d t d0 d1 t0 t1 z => hWa.2.2.1 d t d0 d1 t0 t1) ?_ (fun d t d0 d1 t0 t1 z => hWa.2.2.2.1 d t d0 d1 t0 t1) ?_ hWa.2.2.2.2
  · rw [h4a.1 (by omega), if_neg (by omega)]
  · split <;> omega
theorem closeF_ok {μ : Mm} {c s : Int} (hW : Wk μ) (hc : 0 ≤ c ∧ c ≤ 5) (hs : 0 ≤ s ∧ s ≤ 3) : Wk (closeF μ c s) := by
  have hp := hW.2.1 (4 * c + s) (by omega) (by omega)
  unfold closeF
  split
  · exact sellsF_ok hW hc hs (by omega)
  · split
    · exact buysF_ok hW hc hs (by omega) (by omega)
    · exact hW

