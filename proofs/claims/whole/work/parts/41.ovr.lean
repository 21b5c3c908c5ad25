/-! ===== what the reference's functions do not look at, they leave as it is -/
def ovr (D : Nat → Int → Int → Bool) (a b : Mm) : Mm := fun f r j => if D f r j = true then a f r j else b f r j
def coF (g : Nat) : Bool := decide (g = 39) || decide (g = 41) || decide (g = 42) || decide (g = 43) || decide (g = 45) || decide (g = 46) || decide (g = 48) || decide (g = 49) || decide (g = 50) || decide (g = 51) || decide (g = 52)
def CoD (D : Nat → Int → Int → Bool) : Prop := (∀ (g : Nat) (j : Int), coF g = true → D g 0 j = false) ∧ D 38 0 11 = false ∧ D 38 0 28 = false
section
variable {D : Nat → Int → Int → Bool} {a : Mm}
theorem ov_rd {b : Mm} {f : Nat} {r j : Int} (h : D f r j = false) : ovr D a b f r j = b f r j := by
  unfold ovr; rw [h]; rfl
theorem ov_st {b : Mm} {f : Nat} {r i v : Int} (h : D f r i = false) : st (ovr D a b) f r i v = ovr D a (st b f r i v) := by
  funext g t j
  unfold st ovr
  dsimp only
  by_cases q : g = f ∧ t = r ∧ j = i
  · rw [if_pos q, if_pos q, q.1, q.2.1, q.2.2, h]; rfl
  · rw [if_neg q, if_neg q]
theorem ov_out {b : Mm} {f : Nat} {r i v : Int} (h : D f r i = true) : ovr D a (st b f r i v) = ovr D a b := by
  funext g t j
  unfold st ovr
  dsimp only
  by_cases q : g = f ∧ t = r ∧ j = i
  · rw [q.1, q.2.1, q.2.2, h]; rfl
  · rw [if_neg q]
theorem ov_g (hD : CoD D) {b : Mm} {g : Nat} {j : Int} (h : coF g = true) : ovr D a b g 0 j = b g 0 j := ov_rd (hD.1 g j h)
theorem ov_11 (hD : CoD D) {b : Mm} : ovr D a b 38 0 11 = b 38 0 11 := ov_rd hD.2.1
theorem ov_28 (hD : CoD D) {b : Mm} : ovr D a b 38 0 28 = b 38 0 28 := ov_rd hD.2.2
theorem ov_s (hD : CoD D) {b : Mm} {g : Nat} {j v : Int} (h : coF g = true) : st (ovr D a b) g 0 j v = ovr D a (st b g 0 j v) := ov_st (hD.1 g j h)
theorem ov_s11 (hD : CoD D) {b : Mm} {v : Int} : st (ovr D a b) 38 0 11 v = ovr D a (st b 38 0 11 v) := ov_st hD.2.1
theorem ov_s28 (hD : CoD D) {b : Mm} {v : Int} : st (ovr D a b) 38 0 28 v = ovr D a (st b 38 0 28 v) := ov_st hD.2.2
theorem ov_lentF (hD : CoD D) (b : Mm) (x s : Int) : lentF (ovr D a b) x s = lentF b x s := lentF_cg (M := b) (M' := ovr D a b) (ov_11 hD) (fun _ => ov_g hD (by decide)) (fun _ => ov_g hD (by decide)) (fun _ => ov_g hD (by decide)) x s
theorem ov_partF (hD : CoD D) (b : Mm) (x s : Int) : partF (ovr D a b) x s = partF b x s := by
  unfold partF
  rw [ov_lentF hD, ov_g hD (show coF 42 = true by decide)]
theorem ov_hasF (hD : CoD D) (b : Mm) (x c s w : Int) : hasF (ovr D a b) x c s w = hasF b x c s w := by
  unfold hasF
  rw [ov_partF hD, ov_g hD (show coF 45 = true by decide), ov_g hD (show coF 43 = true by decide)]
theorem ov_srcs (hD : CoD D) (b : Mm) (s : Int) : srcs (ovr D a b) s = srcs b s := by
  unfold srcs
  have : feeF (ovr D a b) s = feeF b s := by
    funext l
    exact ov_g hD (by decide)
  rw [this]
theorem ov_canL (hD : CoD D) (b : Mm) (c s : Int) : ∀ (l : List Int) (left n : Int), canL (ovr D a b) c s l left n = canL b c s l left n
  | [], _, _ => rfl
  | x :: l, left, n => by
    rw [canL, canL, ov_hasF hD]
    split
    · exact ov_canL hD b c s l _ _
    · rfl
theorem ov_canF (hD : CoD D) (b : Mm) (c s : Int) : canF (ovr D a b) c s = canF b c s := by
  unfold canF
  rw [ov_canL hD, ov_srcs hD, ov_11 hD]
theorem ov_mkLn (hD : CoD D) (b : Mm) (s x c own : Int) : mkLn (ovr D a b) s x c own = ovr D a (mkLn b s x c own) := by
  unfold mkLn
  rw [ov_11 hD, ov_g hD (show coF 46 = true by decide), ov_g hD (show coF 45 = true by decide), ov_s hD (by decide), ov_s hD (by decide), ov_s hD (by decide), ov_s hD (by decide), ov_s hD (by decide)]
  dsimp only
  split
  · rw [ov_s11 hD]
  · rw [ov_s hD (by decide), ov_s11 hD]
theorem ov_borL (hD : CoD D) (c s w : Int) : ∀ (l : List Int) (b : Mm) (rest : Int), borL c s w l (ovr D a b) rest = (ovr D a (borL c s w l b rest).1, (borL c s w l b rest).2)
  | [], _, _ => rfl
  | x :: l, b, rest => by
    rw [borL, borL, ov_hasF hD, ov_11 hD]
    split
    · split
      · rw [ov_mkLn hD]
        exact ov_borL hD c s w l _ _
      · exact ov_borL hD c s w l _ _
    · rfl
theorem ov_borF (hD : CoD D) (b : Mm) (c s n w : Int) : borF (ovr D a b) c s n w = (ovr D a (borF b c s n w).1, (borF b c s n w).2) := by
  unfold borF
  rw [ov_srcs hD]
  exact ov_borL hD c s w _ b n
theorem ov_bstF (hD : CoD D) (b : Mm) (c s : Int) : ∀ k : Nat, bstF (ovr D a b) c s k = bstF b c s k
  | 0 => rfl
  | k + 1 => by
    unfold bstF
    rw [ov_bstF hD b c s k, ov_g hD (show coF 50 = true by decide), ov_g hD (show coF 48 = true by decide), ov_g hD (show coF 51 = true by decide), ov_g hD (show coF 52 = true by decide), ov_g hD (show coF 52 = true by decide)]
theorem ov_backF (hD : CoD D) (b : Mm) (k own s : Int) : backF (ovr D a b) k own s = ovr D a (backF b k own s) := by
  unfold backF
  rw [ov_g hD (show coF 51 = true by decide), ov_g hD (show coF 49 = true by decide), ov_g hD (show coF 45 = true by decide), ov_s hD (by decide)]
  dsimp only
  split
  · rfl
  · rw [ov_s hD (by decide)]
theorem ov_gbL (hD : CoD D) (c s : Int) : ∀ (f : Nat) (b : Mm) (rest : Int), gbL c s f (ovr D a b) rest = ovr D a (gbL c s f b rest)
  | 0, _, _ => rfl
  | f + 1, b, rest => by
    rw [gbL, gbL, ov_bstF hD, ov_11 hD, ov_g hD (show coF 51 = true by decide)]
    split
    · rw [ov_backF hD]
      exact ov_gbL hD c s f _ _
    · rfl
theorem ov_giveF (hD : CoD D) (b : Mm) (c s n : Int) : giveF (ovr D a b) c s n = ovr D a (giveF b c s n) := ov_gbL hD c s _ b n
theorem ov_bi3 (hD : CoD D) (b : Mm) (c s n : Int) : bi3 (ovr D a b) c s n = ovr D a (bi3 b c s n) := by
  unfold bi3
  rw [ov_28 hD, ov_g hD (show coF 42 = true by decide), ov_g hD (show coF 41 = true by decide), ov_g hD (show coF 39 = true by decide), ov_s hD (by decide), ov_s hD (by decide), ov_s28 hD]
theorem ov_cbS (hD : CoD D) (b : Mm) (src s k own : Int) : cbS (ovr D a b) src s k own = ovr D a (cbS b src s k own) := by
  rw [cbS_bi, cbS_bi, ov_g hD (show coF 51 = true by decide), ov_g hD (b := b) (show coF 50 = true by decide), ov_s hD (by decide), ov_borF hD]
  dsimp only
  rw [ov_g hD (show coF 50 = true by decide), ov_bi3 hD]
theorem ov_cbL (hD : CoD D) (src s : Int) : ∀ (k : Nat) (b : Mm) (rest : Int), cbL src s k (ovr D a b) rest = ovr D a (cbL src s k b rest)
  | 0, _, _ => rfl
  | k + 1, b, rest => by
    rw [cbL, cbL, ov_g hD (show coF 49 = true by decide), ov_g hD (show coF 48 = true by decide), ov_g hD (show coF 51 = true by decide)]
    split
    · split
      · rw [ov_cbS hD]
        exact ov_cbL hD src s k _ _
      · exact ov_cbL hD src s k _ _
    · rfl
theorem ov_callF (hD : CoD D) (b : Mm) (src s n : Int) : callF (ovr D a b) src s n = ovr D a (callF b src s n) := by
  unfold callF
  rw [ov_11 hD]
  exact ov_cbL hD src s _ b n
theorem ov_buysF (hD : CoD D) (b : Mm) (c s n : Int) : buysF (ovr D a b) c s n = ovr D a (buysF b c s n) := by
  unfold buysF
  rw [ov_g hD (show coF 42 = true by decide), ov_giveF hD]
  dsimp only
  rw [ov_g hD (show coF 42 = true by decide), ov_g hD (show coF 41 = true by decide), ov_g hD (show coF 39 = true by decide), ov_s hD (by decide), ov_s hD (by decide)]
theorem ov_sellsF (hD : CoD D) (b : Mm) (c s n : Int) : sellsF (ovr D a b) c s n = ovr D a (sellsF b c s n) := by
  unfold sellsF
  rw [ov_partF hD, ov_callF hD]
  dsimp only
  have e : (if partF b c s < n then ovr D a (callF b c s (n - partF b c s)) else ovr D a b) = ovr D a (if partF b c s < n then callF b c s (n - partF b c s) else b) := by split <;> rfl
  rw [e, ov_g hD (show coF 42 = true by decide), ov_g hD (show coF 41 = true by decide), ov_g hD (show coF 39 = true by decide), ov_s hD (by decide), ov_s hD (by decide)]
theorem ov_closeF (hD : CoD D) (b : Mm) (c s : Int) : closeF (ovr D a b) c s = ovr D a (closeF b c s) := by
  unfold closeF
  rw [ov_g hD (show coF 42 = true by decide), ov_sellsF hD, ov_buysF hD]
  split
  · rfl
  · split <;> rfl
end
theorem st_ovr (b : Mm) (f : Nat) (r i v : Int) : st b f r i v = ovr (fun g t j => decide (g = f) && (decide (t = r) && decide (j = i))) (fun _ _ _ => v) b := by
  funext g t j
  unfold st ovr
  by_cases q : g = f ∧ t = r ∧ j = i
  · rw [if_pos q, if_pos (by simp [q])]
  · rw [if_neg q, if_neg (by simpa using q)]
theorem callF_30 (b : Mm) (src s n v : Int) : callF (st b 38 0 30 v) src s n = st (callF b src s n) 38 0 30 v := by
  rw [st_ovr, st_ovr]
  refine ov_callF ⟨fun g j h => ?_, by decide, by decide⟩ b src s n
  have : g ≠ 38 := by rintro rfl; exact absurd h (by decide)
  rw [decide_eq_false this]
  rfl
