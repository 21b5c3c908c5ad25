/-! ===== purses stay far from the machine's bounds -/
def Pr (m : Mm) : Prop := ∀ s : Int, 0 ≤ s → s ≤ 3 → 1 ≤ m 39 0 s ∧ m 39 0 s ≤ 100000
def Bp (B : Int) (m : Mm) : Prop := ∀ c : Int, 0 ≤ c → c ≤ 5 → -B ≤ m 41 0 c ∧ m 41 0 c ≤ B
theorem Pr_cg {m m' : Mm} (h : Pr m) (e : ∀ s, m' 39 0 s = m 39 0 s) : Pr m' := fun s s0 s1 => by rw [e]; exact h s s0 s1
theorem Bp_cg {B : Int} {m m' : Mm} (h : Bp B m) (e : ∀ s, m' 41 0 s = m 41 0 s) : Bp B m' := fun s s0 s1 => by rw [e]; exact h s s0 s1
theorem Bp_le {B B' : Int} {m : Mm} (h : Bp B m) (hb : B ≤ B') : Bp B' m := fun c c0 c1 => by have := h c c0 c1; omega
theorem mul_rng {a b A B : Int} (ha : -A ≤ a ∧ a ≤ A) (hb : 0 ≤ b ∧ b ≤ B) (hA : 0 ≤ A) : -(A * B) ≤ a * b ∧ a * b ≤ A * B := by
  have h1 : a * b ≤ A * b := Int.mul_le_mul_of_nonneg_right ha.2 hb.1
  have h2 : A * b ≤ A * B := Int.mul_le_mul_of_nonneg_left hb.2 hA
  have h3 : -A * b ≤ a * b := Int.mul_le_mul_of_nonneg_right ha.1 hb.1
  have h4 : -A * b = -(A * b) := Int.neg_mul A b
  omega
theorem tdiv_rng {x d B : Int} (hd : 0 < d) (h : -B ≤ x ∧ x ≤ B) : -B ≤ x.tdiv d ∧ x.tdiv d ≤ B := by
  by_cases q : 0 ≤ x
  · have h1 := Int.tdiv_nonneg q (Int.le_of_lt hd)
    have h2 : x.tdiv d ≤ x := by
      rw [Int.tdiv_eq_ediv_of_nonneg q]
      exact Int.ediv_le_self d q
    omega
  · have e : x.tdiv d = -((-x).tdiv d) := by rw [Int.neg_tdiv]; omega
    have h1 := Int.tdiv_nonneg (show 0 ≤ -x by omega) (Int.le_of_lt hd)
    have h2 : (-x).tdiv d ≤ -x := by
      rw [Int.tdiv_eq_ediv_of_nonneg (show 0 ≤ -x by omega)]
      exact Int.ediv_le_self d (show 0 ≤ -x by omega)
    omega
/-- a purse moves by d -/
theorem tdiv_rng2 {x d q B : Int} (hd : 0 < d) (h : -B ≤ x ∧ x ≤ B) (hB : B < d * (q + 1)) : -q ≤ x.tdiv d ∧ x.tdiv d ≤ q := by
  have key : ∀ y : Int, 0 ≤ y → y ≤ B → 0 ≤ y.tdiv d ∧ y.tdiv d ≤ q := fun y y0 y1 => by
    rw [Int.tdiv_eq_ediv_of_nonneg y0]
    refine ⟨Int.ediv_nonneg y0 (Int.le_of_lt hd), ?_⟩
    have : y / d < q + 1 := Int.ediv_lt_of_lt_mul hd (by rw [Int.mul_comm]; omega)
    omega
  by_cases z : 0 ≤ x
  · have := key x z h.2; omega
  · have e : x.tdiv d = -((-x).tdiv d) := by rw [Int.neg_tdiv]; omega
    have := key (-x) (by omega) (by omega)
    omega
theorem Bp_st {B d w : Int} {m : Mm} (h : Bp B m) (c : Int) (hw : 0 ≤ c → c ≤ 5 → -(B + d) ≤ w ∧ w ≤ B + d) (hd : 0 ≤ d) : Bp (B + d) (st m 41 0 c w) := fun k k0 k1 => by
  by_cases q : k = c
  · subst q; rw [st_s]; exact hw k0 k1
  · rw [st_i q]
    have := h k k0 k1
    omega
theorem w64_in {x B : Int} (h : -B ≤ x ∧ x ≤ B) (hB : B ≤ 9200000000000000000) : w64 x = x := w64_id (by simp only [in64]; omega)
theorem bi_B {B : Int} {m : Mm} (hB : Bp B m) (hP : Pr m) {b s n : Int} (hb : 0 ≤ b ∧ b ≤ 5) (hs : 0 ≤ s ∧ s ≤ 3) (hn : 0 ≤ n ∧ n ≤ 500) (h0 : 0 ≤ B) (hm : B ≤ 9000000000000000000) : Bp (B + 53000000) (bi3 m b s n) := by
  have hp := hP s hs.1 hs.2
  have hc := hB b hb.1 hb.2
  have h1 := mul_rng (A := 500) (B := 100000) (a := n) (b := m 39 0 s) (by omega) (by omega) (by decide)
  have e1 : w64 (n * m 39 0 s) = n * m 39 0 s := w64_in (B := 50000000) (by omega) (by decide)
  have e2 : w64 (n * m 39 0 s * 105) = n * m 39 0 s * 105 := w64_in (B := 5250000000) (by omega) (by decide)
  have e3 : w64 (n * m 39 0 s * 105 + 99) = n * m 39 0 s * 105 + 99 := w64_in (B := 5250000099) (by omega) (by decide)
  have h2 := tdiv_rng2 (x := n * m 39 0 s * 105 + 99) (d := 100) (q := 52500001) (B := 5250000099) (by decide) (by omega) (by decide)
  have e4 : w64 ((n * m 39 0 s * 105 + 99).tdiv 100) = (n * m 39 0 s * 105 + 99).tdiv 100 := w64_in (B := 52500001) h2 (by decide)
  unfold bi3
  rw [e1, e2, e3, e4, w64_in (x := m 41 0 b - (n * m 39 0 s * 105 + 99).tdiv 100) (B := B + 53000000) (by omega) (by omega)]
  refine Bp_cg (Bp_st (d := 53000000) (Bp_cg hB (fun j => st_o (by decide))) b (fun _ _ => ?_) (by decide)) (fun j => st_o (by decide))
  omega
theorem cbS_B {B : Int} {M : Mm} (hW : Wk M) (hB : Bp B M) (hP : Pr M) {k own src s : Int} (k0 : 0 ≤ k) (k1 : k < M 38 0 11) (hf : M 49 0 k = src) (hst : M 48 0 k = s) (ho : 0 < own ∧ own ≤ M 51 0 k) (h0 : 0 ≤ B) (hm : B ≤ 9000000000000000000) : Bp (B + 53000000) (cbS M src s k own) ∧ Pr (cbS M src s k own) := by
  obtain ⟨-, hrr, hBR, htk, -, -, -⟩ := cbS_ok hW (own := own) k0 k1 hf hst ho
  have hlk := Lk_at hW.1 k0 k1
  rw [cbS_bi]
  generalize (borF (st M 51 0 k (M 51 0 k - own)) (M 50 0 k) s own src) = r at hrr hBR htk ⊢
  have q41 : ∀ j, r.1 41 0 j = M 41 0 j := fun j => (hBR.1 41 0 j (by decide)).trans (st_o (by decide))
  have q39 : ∀ j, r.1 39 0 j = M 39 0 j := fun j => (hBR.1 39 0 j (by decide)).trans (st_o (by decide))
  have hP' : Pr r.1 := Pr_cg hP q39
  rw [htk]
  exact ⟨bi_B (Bp_cg hB q41) hP' hlk.2.2.1 (by omega) (by omega) h0 hm, Pr_cg hP' (fun j => bi_o (by omega))⟩
theorem cbL_B {src s : Int} (hs : 0 ≤ s ∧ s ≤ 3) : ∀ (j : Nat) (M : Mm) (rest B : Int), (j : Int) ≤ M 38 0 11 → Wk M → (0 ≤ rest ∧ rest ≤ 500) → Bp B M → Pr M → 0 ≤ B → B + 53000000 * (j : Int) ≤ 9000000000000000000 → Bp (B + 53000000 * (j : Int)) (cbL src s j M rest) ∧ Pr (cbL src s j M rest)
  | 0, M, rest, B, _, _, _, hB, hP, _, _ => ⟨Bp_le hB (by omega), hP⟩
  | k + 1, M, rest, B, hj, hW, hr, hB, hP, h0, hm => by
    have ek : ((k + 1 : Nat) : Int) = (k : Int) + 1 := by omega
    rw [ek] at hm ⊢
    rw [cbL]
    split
    · split
      · rename_i c1 c2
        have hmi := minI_le (M 51 0 k) rest
        obtain ⟨-, -, hBR, -, hW2, -, -⟩ := cbS_ok hW (own := minI (M 51 0 k) rest) (k := k) (by omega) (by omega) c2.1 c2.2.1 (by omega)
        have hb := cbS_B hW hB hP (own := minI (M 51 0 k) rest) (k := k) (by omega) (by omega) c2.1 c2.2.1 (by omega) h0 (by omega)
        have hl : (k : Int) ≤ cbS M src s k (minI (M 51 0 k) rest) 38 0 11 := by
          have := hBR.2.2.1
          rw [st_o (by decide)] at this
          rw [cbS_bi, bi_o (by omega)]
          omega
        obtain ⟨r1, r2⟩ := cbL_B hs k _ (rest - minI (M 51 0 k) rest) (B + 53000000) hl hW2 (by omega) hb.1 hb.2 (by omega) (by omega)
        exact ⟨Bp_le r1 (by omega), r2⟩
      · obtain ⟨r1, r2⟩ := cbL_B hs k M rest B (by omega) hW hr hB hP h0 (by omega)
        exact ⟨Bp_le r1 (by omega), r2⟩
    · exact ⟨Bp_le hB (by omega), hP⟩
theorem callF_B {src s many B : Int} {M : Mm} (hs : 0 ≤ s ∧ s ≤ 3) (hW : Wk M) (hm : 0 ≤ many ∧ many ≤ 500) (hB : Bp B M) (hP : Pr M) (h0 : 0 ≤ B) (hb : B ≤ 8900000000000000000) : Bp (B + 53000000000) (callF M src s many) ∧ Pr (callF M src s many) := by
  have hl := hW.1.1
  obtain ⟨r1, r2⟩ := cbL_B (src := src) hs (M 38 0 11).toNat M many B (by omega) hW hm hB hP h0 (by omega)
  exact ⟨Bp_le r1 (by omega), r2⟩
theorem sells_B {c s n B : Int} {M : Mm} (hW : Wk M) (hc : 0 ≤ c ∧ c ≤ 5) (hs : 0 ≤ s ∧ s ≤ 3) (hn : 1 ≤ n ∧ n ≤ M 42 0 (4 * c + s)) (hB : Bp B M) (hP : Pr M) (h0 : 0 ≤ B) (hb : B ≤ 8900000000000000000) : Bp (B + 60000000000) (sellsF M c s n) ∧ Pr (sellsF M c s n) := by
  have hp := hW.2.1 (4 * c + s) (by omega) (by omega)
  have hpt := part_at hW.1 hW.2.2.2.1 hc hs
  have ha : Bp (B + 53000000000) (if partF M c s < n then callF M c s (n - partF M c s) else M) ∧ Pr (if partF M c s < n then callF M c s (n - partF M c s) else M) := by
    split
    · exact callF_B hs hW (by omega) hB hP h0 hb
    · exact ⟨Bp_le hB (by omega), hP⟩
  unfold sellsF
  generalize (if partF M c s < n then callF M c s (n - partF M c s) else M) = a at ha ⊢
  show Bp _ (st (st a 42 0 _ _) 41 0 c (w64 (a 41 0 c + w64 (n * a 39 0 s)))) ∧ _
  have hpr := ha.2 s hs.1 hs.2
  have hcc := ha.1 c hc.1 hc.2
  have h1 := mul_rng (A := 500) (B := 100000) (a := n) (b := a 39 0 s) (by omega) (by omega) (by decide)
  rw [w64_in (x := n * a 39 0 s) (B := 50000000) (by omega) (by decide), w64_in (x := a 41 0 c + n * a 39 0 s) (B := B + 60000000000) (by omega) (by omega)]
  refine ⟨Bp_le (Bp_st (d := 50000000) (Bp_cg ha.1 (fun j => st_o (by decide))) c (fun _ _ => by omega) (by decide)) (by omega), Pr_cg ha.2 (fun j => (st_o (by decide)).trans (st_o (by decide)))⟩
theorem buys_B {c s n B : Int} {M : Mm} (hc : 0 ≤ c ∧ c ≤ 5) (hs : 0 ≤ s ∧ s ≤ 3) (hn : 1 ≤ n ∧ n ≤ 500) (hB : Bp B M) (hP : Pr M) (h0 : 0 ≤ B) (hb : B ≤ 8900000000000000000) : Bp (B + 60000000000) (buysF M c s n) ∧ Pr (buysF M c s n) := by
  have ha : ∀ v : Int, Bp B (giveF M c s v) ∧ Pr (giveF M c s v) := fun v => ⟨Bp_cg hB (fun j => giveF_o _ _ _ _ (by decide)), Pr_cg hP (fun j => giveF_o _ _ _ _ (by decide))⟩
  unfold buysF
  generalize (if 0 ≤ M 42 0 (4 * c + s) then (0 : Int) else if -M 42 0 (4 * c + s) < n then -M 42 0 (4 * c + s) else n) = v
  have ha := ha v
  generalize giveF M c s v = a at ha ⊢
  show Bp _ (st (st a 42 0 _ _) 41 0 c (w64 (a 41 0 c - w64 (n * a 39 0 s)))) ∧ _
  have hpr := ha.2 s hs.1 hs.2
  have hcc := ha.1 c hc.1 hc.2
  have h1 := mul_rng (A := 500) (B := 100000) (a := n) (b := a 39 0 s) (by omega) (by omega) (by decide)
  rw [w64_in (x := n * a 39 0 s) (B := 50000000) (by omega) (by decide), w64_in (x := a 41 0 c - n * a 39 0 s) (B := B + 60000000000) (by omega) (by omega)]
  refine ⟨Bp_le (Bp_st (d := 50000000) (Bp_cg ha.1 (fun j => st_o (by decide))) c (fun _ _ => by omega) (by decide)) (by omega), Pr_cg ha.2 (fun j => (st_o (by decide)).trans (st_o (by decide)))⟩
theorem close_B {c s B : Int} {M : Mm} (hW : Wk M) (hc : 0 ≤ c ∧ c ≤ 5) (hs : 0 ≤ s ∧ s ≤ 3) (hB : Bp B M) (hP : Pr M) (h0 : 0 ≤ B) (hb : B ≤ 8900000000000000000) : Bp (B + 60000000000) (closeF M c s) ∧ Pr (closeF M c s) := by
  have hp := hW.2.1 (4 * c + s) (by omega) (by omega)
  unfold closeF
  split
  · exact sells_B hW hc hs (by omega) hB hP h0 hb
  · split
    · exact buys_B hc hs (by omega) hB hP h0 hb
    · exact ⟨Bp_le hB (by omega), hP⟩
theorem liqL_B {c : Int} (hc : 0 ≤ c ∧ c ≤ 5) : ∀ (f : Nat) (M : Mm) (n B : Int), Wk M → Bp B M → Pr M → 0 ≤ B → B + 60000000000 * (f : Int) ≤ 8900000000000000000 → Wk (liqL c f M n).1 ∧ Bp (B + 60000000000 * (f : Int)) (liqL c f M n).1 ∧ Pr (liqL c f M n).1
  | 0, M, n, B, hW, hB, hP, _, _ => ⟨hW, Bp_le hB (by omega), hP⟩
  | f + 1, M, n, B, hW, hB, hP, h0, hm => by
    have ek : ((f + 1 : Nat) : Int) = (f : Int) + 1 := by omega
    rw [ek] at hm ⊢
    have hbt := btL_rng M c 3
    rw [liqL]
    split
    · have hcl := close_B (c := c) (s := btL M c 3) hW hc (by omega) hB hP h0 (by omega)
      obtain ⟨r1, r2, r3⟩ := liqL_B hc f _ (n + 1) (B + 60000000000) (closeF_ok hW hc (by omega)) hcl.1 hcl.2 (by omega) (by omega)
      exact ⟨r1, Bp_le r2 (by omega), r3⟩
    · exact ⟨hW, Bp_le hB (by omega), hP⟩
theorem itC_B {c B : Int} {M : Mm} (hc : 0 ≤ c ∧ c ≤ 5) (hW : Wk M) (hB : Bp B M) (hP : Pr M) (h0 : 0 ≤ B) : ∀ k : Nat, k ≤ 4 → B + 60000000000 * (k : Int) ≤ 8900000000000000000 → Wk (itC c k M) ∧ Bp (B + 60000000000 * (k : Int)) (itC c k M) ∧ Pr (itC c k M)
  | 0, _, _ => ⟨hW, Bp_le hB (by omega), hP⟩
  | k + 1, hk, hm => by
    have ek : ((k + 1 : Nat) : Int) = (k : Int) + 1 := by omega
    rw [ek] at hm ⊢
    obtain ⟨r1, r2, r3⟩ := itC_B hc hW hB hP h0 k (by omega) (by omega)
    have hcl := close_B (c := c) (s := k) r1 hc (by omega) r2 r3 (by omega) (by omega)
    exact ⟨closeF_ok r1 hc (by omega), Bp_le hcl.1 (by omega), hcl.2⟩
theorem chg_B {B : Int} {M : Mm} (hW : Wk M) (hB : Bp B M) (hP : Pr M) (h0 : 0 ≤ B) : ∀ k : Nat, (k : Int) ≤ M 38 0 11 → B + 150000 * (k : Int) ≤ 8900000000000000000 → Bp (B + 150000 * (k : Int)) (chgF M k) ∧ Pr (chgF M k)
  | 0, _, _ => ⟨Bp_le hB (by omega), hP⟩
  | k + 1, hk, hm => by
    have ek : ((k + 1 : Nat) : Int) = (k : Int) + 1 := by omega
    rw [ek] at hm ⊢
    obtain ⟨r2, r3⟩ := chg_B hW hB hP h0 k (by omega) (by omega)
    rw [chgF]
    split
    · have hlk := hW.1.2 k (by omega)
      have q : ∀ (g : Nat) (t j : Int), g ≠ 41 → g ≠ 47 → chgF M k g t j = M g t j := fun g t j q1 q2 => chgF_u q1 q2 k
      have hpr := r3 (chgF M k 48 0 k) (by rw [q 48 _ _ (by decide) (by decide)]; exact hlk.1.1) (by rw [q 48 _ _ (by decide) (by decide)]; exact hlk.1.2)
      have hl := hlk.2.2.2.1
      have hf := hlk.2.2.2.2
      rw [← q 51 0 k (by decide) (by decide)] at hl
      rw [← q 52 0 k (by decide) (by decide)] at hf
      have hto := hlk.2.2.1
      rw [← q 50 0 k (by decide) (by decide)] at hto
      have hco : -(150000) ≤ costF (chgF M k) k ∧ costF (chgF M k) k ≤ 150000 := by
        have h1 := mul_rng (A := 500) (B := 100000) (a := chgF M k 51 0 k) (b := chgF M k 39 0 (chgF M k 48 0 k)) (by omega) (by omega) (by decide)
        unfold costF
        rw [w64_in (x := chgF M k 51 0 k * chgF M k 39 0 (chgF M k 48 0 k)) (B := 50000000) (by omega) (by decide)]
        have h2 := mul_rng (A := 50000000) (B := 10000) (a := chgF M k 51 0 k * chgF M k 39 0 (chgF M k 48 0 k)) (b := chgF M k 52 0 k) (by omega) (by omega) (by decide)
        rw [w64_in (x := chgF M k 51 0 k * chgF M k 39 0 (chgF M k 48 0 k) * chgF M k 52 0 k) (B := 500000000000) (by omega) (by decide)]
        have h3 := tdiv_rng2 (x := chgF M k 51 0 k * chgF M k 39 0 (chgF M k 48 0 k) * chgF M k 52 0 k) (d := 3600000) (q := 150000) (B := 500000000000) (by decide) (by omega) (by decide)
        rw [w64_in h3 (by decide)]
        exact h3
      have hcc := r2 (chgF M k 50 0 k) hto.1 hto.2
      rw [w64_in (x := chgF M k 41 0 (chgF M k 50 0 k) - costF (chgF M k) k) (B := B + 150000 * ((k : Int) + 1)) (by omega) (by omega)]
      refine ⟨Bp_cg (Bp_le (Bp_st (d := 150000) r2 _ (fun _ _ => by omega) (by decide)) (by omega)) (fun j => st_o (by decide)), Pr_cg r3 (fun j => (st_o (by decide)).trans (st_o (by decide)))⟩
    · exact ⟨Bp_le r2 (by omega), r3⟩
theorem met_B {B : Int} {M : Mm} (hW : Wk M) (hX : Xk M) (hB : Bp B (dayF M)) (hP : Pr (dayF M)) (h0 : 0 ≤ B) : ∀ k : Nat, (k : Int) ≤ M 38 0 23 → B + 53000000000 * (k : Int) ≤ 8900000000000000000 → Bp (B + 53000000000 * (k : Int)) (metF M k) ∧ Pr (metF M k)
  | 0, _, _ => ⟨Bp_le hB (by omega), hP⟩
  | k + 1, hk, hm => by
    have ek : ((k + 1 : Nat) : Int) = (k : Int) + 1 := by omega
    rw [ek] at hm ⊢
    obtain ⟨r2, r3⟩ := met_B hW hX hB hP h0 k (by omega) (by omega)
    have hWm := metF_ok hW hX k (by omega)
    rw [metF]
    split
    · have hr := hX.2.2.1.2 k (by omega) (by omega)
      have e1 : ∀ g : Nat, 58 ≤ g → g ≤ 61 → metF M k g 0 k = M g 0 k := fun g g0 g1 => by
        rw [metF_u (by omega) (by omega) (by omega)]
        unfold dayF
        rw [st_u (by omega), chgF_u (by omega) (by omega)]
      have hw := want_ok (k := k) hWm.1 (by rw [e1 60 (by decide) (by decide)]; exact hr.2.2.1)
      have hcb := callF_B (src := 10 + metF M k 58 0 k) (s := metF M k 59 0 k) (many := wantF (metF M k) k) (by rw [e1 59 (by decide) (by decide)]; exact hr.2.1) hWm hw.1 r2 r3 (by omega) (by omega)
      unfold meetF
      exact ⟨Bp_cg (Bp_le hcb.1 (by omega)) (fun j => st_o (by decide)), Pr_cg hcb.2 (fun j => st_o (by decide))⟩
    · exact ⟨Bp_le r2 (by omega), r3⟩
theorem pass_B {B : Int} {M : Mm} (hW : Wk M) (hX : Xk M) (hB : Bp B M) (hP : Pr M) (h0 : 0 ≤ B) (hb : B ≤ 8800000000000000000) : Bp (B + 3000000000000) (passF M) ∧ Pr (passF M) := by
  have hl := hW.1.1
  have hr := hX.2.2.1.1
  obtain ⟨c1, c2⟩ := chg_B hW hB hP h0 (M 38 0 11).toNat (by omega) (by omega)
  have hd : Bp (B + 1000000000) (dayF M) ∧ Pr (dayF M) := by
    unfold dayF
    exact ⟨Bp_cg (Bp_le c1 (by omega)) (fun j => st_o (by decide)), Pr_cg c2 (fun j => st_o (by decide))⟩
  obtain ⟨m1, m2⟩ := met_B hW hX hd.1 hd.2 (by omega) (M 38 0 23).toNat (by omega) (by omega)
  exact ⟨Bp_le m1 (by omega), m2⟩
theorem itP_B {B : Int} {M : Mm} (hW : Wk M) (hX : Xk M) (hB : Bp B M) (hP : Pr M) (h0 : 0 ≤ B) : ∀ n : Nat, M 38 0 1 + (n : Int) ≤ 500 → n ≤ 50 → B + 3000000000000 * (n : Int) ≤ 8800000000000000000 → (Wk (itP n M) ∧ Xk (itP n M) ∧ itP n M 38 0 1 = M 38 0 1 + n) ∧ Bp (B + 3000000000000 * (n : Int)) (itP n M) ∧ Pr (itP n M)
  | 0, _, _, _ => ⟨⟨hW, hX, by show M 38 0 1 = M 38 0 1 + 0; omega⟩, Bp_le hB (by omega), hP⟩
  | n + 1, hd, hn, hm => by
    have ek : ((n + 1 : Nat) : Int) = (n : Int) + 1 := by omega
    rw [ek] at hm hd ⊢
    obtain ⟨⟨r1, r2, r3⟩, r4, r5⟩ := itP_B hW hX hB hP h0 n (by omega) (by omega) (by omega)
    have hp := passF_ok r1 r2 (by omega)
    have hq := pass_B r1 r2 r4 r5 (by omega) (by omega)
    exact ⟨⟨hp.1, hp.2, by rw [itP, passF_day, r3]; omega⟩, Bp_le hq.1 (by omega), hq.2⟩
theorem itA_B {B s v : Int} {M : Mm} (hW : Wk M) (hs : 0 ≤ s ∧ s ≤ 3) (hv : 1 ≤ v ∧ v ≤ 10000) (hB : Bp B M) (h0 : 0 ≤ B) : ∀ k : Nat, k ≤ 6 → B + 5000000 * (k : Int) ≤ 8900000000000000000 → (∀ (g : Nat) (t j : Int), g ≠ 41 → itA s v k M g t j = M g t j) ∧ Bp (B + 5000000 * (k : Int)) (itA s v k M)
  | 0, _, _ => ⟨fun _ _ _ _ => rfl, Bp_le hB (by omega)⟩
  | k + 1, hk, hm => by
    have ek : ((k + 1 : Nat) : Int) = (k : Int) + 1 := by omega
    rw [ek] at hm ⊢
    obtain ⟨r1, r2⟩ := itA_B hW hs hv hB h0 k (by omega) (by omega)
    have hp := hW.2.1 (4 * (k : Int) + s) (by omega) (by omega)
    rw [← r1 42 0 _ (by decide)] at hp
    have hcc := r2 k (by omega) (by omega)
    have h1 := mul_rng (A := 500) (B := 10000) (a := itA s v k M 42 0 (4 * (k : Int) + s)) (b := v) (by omega) (by omega) (by decide)
    rw [itA, w64_in (x := itA s v k M 42 0 (4 * (k : Int) + s) * v) (B := 5000000) (by omega) (by decide), w64_in (x := itA s v k M 41 0 k + itA s v k M 42 0 (4 * (k : Int) + s) * v) (B := B + 5000000 * ((k : Int) + 1)) (by omega) (by omega)]
    exact ⟨fun g t j q => (st_o q).trans (r1 g t j q), Bp_le (Bp_st (d := 5000000) r2 _ (fun _ _ => by omega) (by decide)) (by omega)⟩
theorem itB_u (s v : Int) (M : Mm) {g : Nat} {t j : Int} (h : g ≠ 47) : ∀ k : Nat, (itB s v k M).1 g t j = M g t j
  | 0 => rfl
  | k + 1 => by rw [itB]; exact (st_o h).trans (itB_u s v M h k)
theorem short_B {B k n : Int} {M : Mm} (hW : Wk M) (hc : 0 ≤ M 53 0 k ∧ M 53 0 k ≤ 5) (hs : 0 ≤ M 54 0 k ∧ M 54 0 k ≤ 3) (hn : 1 ≤ n ∧ n ≤ 500) (hB : Bp B M) (hP : Pr M) (h0 : 0 ≤ B) (hb : B ≤ 8900000000000000000) : Bp (B + 50000000) (shortF M k n) ∧ Pr (shortF M k n) := by
  unfold shortF
  rw [shortF_57]
  dsimp only
  obtain ⟨-, hBR⟩ := borF_ok (b := M 53 0 k) (s := M 54 0 k) (want := n) (w := -1) (M := M) hc hs hW.1 hW.2.1 (Gk_of hW.1 hW.2.2.2.2) ⟨by omega, by omega⟩
  generalize borF M (M 53 0 k) (M 54 0 k) n (-1) = r at hBR ⊢
  have q41 : ∀ j, st r.1 57 0 k 1 41 0 j = M 41 0 j := fun j => (st_o (by decide)).trans (hBR.1 41 0 j (by decide))
  have q39 : ∀ j, st r.1 57 0 k 1 39 0 j = M 39 0 j := fun j => (st_o (by decide)).trans (hBR.1 39 0 j (by decide))
  have hpr := hP (M 54 0 k) hs.1 hs.2
  have hcc := hB (M 53 0 k) hc.1 hc.2
  have h1 := mul_rng (A := 500) (B := 100000) (a := n) (b := M 39 0 (M 54 0 k)) (by omega) (by omega) (by decide)
  rw [q41, q39, w64_in (x := n * M 39 0 (M 54 0 k)) (B := 50000000) (by omega) (by decide), w64_in (x := M 41 0 (M 53 0 k) + n * M 39 0 (M 54 0 k)) (B := B + 50000000) (by omega) (by omega)]
  refine ⟨Bp_st (d := 50000000) (Bp_cg (Bp_cg hB q41) (fun j => st_o (by decide))) _ (fun _ _ => by omega) (by decide), Pr_cg (Pr_cg hP q39) (fun j => (st_o (by decide)).trans (st_o (by decide)))⟩
