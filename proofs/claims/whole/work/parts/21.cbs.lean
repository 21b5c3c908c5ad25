/-! ===== calling back, trading: what they keep ===== -/
theorem cbS_ok {M : Mm} (hW : Wk M) {k own src s : Int} (k0 : 0 ≤ k) (k1 : k < M 38 0 11) (hf : M 49 0 k = src) (hst : M 48 0 k = s) (ho : 0 < own ∧ own ≤ M 51 0 k) :
    let r := borF (st M 51 0 k (M 51 0 k - own)) (M 50 0 k) s own src
    (Lk (st M 51 0 k (M 51 0 k - own)) ∧ Pk (st M 51 0 k (M 51 0 k - own)) ∧ Gk (st M 51 0 k (M 51 0 k - own))) ∧ (0 ≤ r.2 ∧ r.2 ≤ own) ∧ BR (M 50 0 k) s src (st M 51 0 k (M 51 0 k - own)) r.1 (own - r.2) ∧ r.1 50 0 k = M 50 0 k ∧ Wk (cbS M src s k own) ∧ lentF (cbS M src s k own) src s = lentF M src s - own ∧ M 42 0 (4 * M 50 0 k + s) ≤ -own := by
  obtain ⟨hL, hP, h4, h5, h6⟩ := hW
  have hl := Lk_at hL k0 k1
  have hG := Gk_of hL h6
  generalize hM1 : st M 51 0 k (M 51 0 k - own) = M1
  intro r
  have m4 : ∀ j, M1 51 0 j = if j = k then M 51 0 k + -own else M 51 0 j := fun j => by
    rw [← hM1]
    by_cases c : j = k
    · rw [if_pos c, c]; simp only [st]; simp; omega
    · rw [if_neg c]; simp [st, c]
  have mo : ∀ (g : Nat) (t j : Int), g ≠ 51 → M1 g t j = M g t j := fun g t j q => by
    rw [← hM1]; exact st_o q
  have hL1 : Lk M1 := by
    refine ⟨by rw [mo 38 _ _ (by decide)]; exact hL.1, fun i hi => ?_⟩
    rw [mo 38 _ _ (by decide)] at hi
    have := hL.2 i hi
    rw [mo 48 _ _ (by decide), mo 49 _ _ (by decide), mo 50 _ _ (by decide), mo 52 _ _ (by decide), m4]
    refine ⟨this.1, this.2.1, this.2.2.1, ?_, this.2.2.2.2⟩
    split <;> omega
  have hP1 : Pk M1 := fun i h0 h1 => by rw [mo 42 _ _ (by decide)]; exact hP i h0 h1
  have hG1 : Gk M1 := fun i h0 h1 => by rw [mo 45 _ _ (by decide), mo 46 _ _ (by decide)]; exact hG i h0 h1
  have hto : ∀ c t : Int, toF M1 c t = toF M c t + (if M 50 0 k = c ∧ M 48 0 k = t then -own else 0) := toF_up k0 k1 (mo 38 _ _ (by decide)) (fun j => mo 48 _ _ (by decide)) (fun j => mo 50 _ _ (by decide)) m4
  have hle : ∀ a t : Int, lentF M1 a t = lentF M a t + (if M 49 0 k = a ∧ M 48 0 k = t then -own else 0) := lentF_up k0 k1 (mo 38 _ _ (by decide)) (fun j => mo 48 _ _ (by decide)) (fun j => mo 49 _ _ (by decide)) m4
  obtain ⟨hr, hB⟩ := borF_ok (b := M 50 0 k) (s := s) (w := src) hl.2.2.1 (by rw [← hst]; exact hl.1) hL1 hP1 hG1 (want := own) ⟨by omega, by omega⟩
  change (0 ≤ r.2 ∧ r.2 ≤ own) at hr
  change BR _ _ _ _ r.1 (own - r.2) at hB
  obtain ⟨b1, b2, b3, b4, b5, b6, b7, b8, b9, b10⟩ := hB
  have hk4 := b4 k (by rw [mo 38 _ _ (by decide)]; exact k1)
  have htk : r.1 50 0 k = M 50 0 k := by rw [hk4.2.2.1, mo 50 _ _ (by decide)]
  refine ⟨⟨hL1, hP1, hG1⟩, hr, ⟨b1, b2, b3, b4, b5, b6, b7, b8, b9, b10⟩, htk, ?_⟩
  have hpos : ∀ j, r.1 42 0 j = M 42 0 j := fun j => (b1 42 0 j (by decide)).trans (mo 42 _ _ (by decide))
  generalize hQ : cbS M src s k own = Q
  have q42 : ∀ j, Q 42 0 j = if j = 4 * M 50 0 k + s then M 42 0 j + r.2 else M 42 0 j := fun j => by
    rw [← hQ]
    unfold cbS
    rw [hM1]
    show (st (st (st r.1 42 0 (4 * r.1 50 0 k + s) (r.1 42 0 (4 * r.1 50 0 k + s) + r.2)) 41 0 (r.1 50 0 k) _) 38 0 28 _) 42 0 j = _
    rw [st_o (by decide), st_o (by decide), htk, hpos]
    by_cases c : j = 4 * M 50 0 k + s
    · rw [if_pos c, c]; exact st_s
    · rw [if_neg c, st_i c, hpos]
  have qo : ∀ (g : Nat) (t j : Int), g ≠ 42 → g ≠ 41 → ¬ (g = 38 ∧ j = 28) → Q g t j = r.1 g t j := fun g t j e1 e2 e3 => by
    rw [← hQ]
    unfold cbS
    rw [hM1]
    show (st (st (st r.1 42 0 (4 * r.1 50 0 k + s) (r.1 42 0 (4 * r.1 50 0 k + s) + r.2)) 41 0 (r.1 50 0 k) _) 38 0 28 _) g t j = _
    have : ∀ (m : Mm) (v : Int), st m 38 0 28 v g t j = m g t j := fun m v => by
      unfold st; rw [if_neg]; exact fun z => e3 ⟨z.1, z.2.2⟩
    rw [this, st_o e2, st_o e1]
  have qn := qo 38 0 11 (by decide) (by decide) (by omega)
  have qL : Lk Q := Lk_cg b8 qn (fun j => qo 48 0 j (by decide) (by decide) (by omega)) (fun j => qo 49 0 j (by decide) (by decide) (by omega)) (fun j => qo 50 0 j (by decide) (by decide) (by omega)) (fun j => qo 51 0 j (by decide) (by decide) (by omega)) (fun j => qo 52 0 j (by decide) (by decide) (by omega))
  have ql : ∀ a t, lentF Q a t = lentF r.1 a t := lentF_cg qn (fun j => qo 48 0 j (by decide) (by decide) (by omega)) (fun j => qo 49 0 j (by decide) (by decide) (by omega)) (fun j => qo 51 0 j (by decide) (by decide) (by omega))
  have qt : ∀ a t, toF Q a t = toF r.1 a t := toF_cg qn (fun j => qo 48 0 j (by decide) (by decide) (by omega)) (fun j => qo 50 0 j (by decide) (by decide) (by omega)) (fun j => qo 51 0 j (by decide) (by decide) (by omega))
  have e4 := h4 (M 50 0 k) s hl.2.2.1.1 hl.2.2.1.2 (by omega) (by omega)
  have e1 := hto (M 50 0 k) s
  rw [if_pos ⟨rfl, hst⟩] at e1
  have e0 := toF_nn hL1 (M 50 0 k) s
  have hneg : M 42 0 (4 * M 50 0 k + s) ≤ -own := by split at e4 <;> omega
  refine ⟨⟨qL, fun i i0 i1 => ?_, fun c t c0 c1 t0 t1 => ?_, fun c t c0 c1 t0 t1 => ?_, fun l t l0 l1 t0 t1 => ?_⟩, ?_⟩
  · rw [q42]
    have := hP i i0 i1
    split
    · rename_i z; rw [z] at this ⊢; omega
    · exact this
  · rw [qt, b5, hto, q42, h4 c t c0 c1 t0 t1]
    by_cases z : M 50 0 k = c ∧ s = t
    · obtain ⟨z1, z2⟩ := z
      subst z1 z2
      rw [if_pos (show M 50 0 k = M 50 0 k ∧ s = s from ⟨rfl, rfl⟩), if_pos (show M 50 0 k = M 50 0 k ∧ M 48 0 k = s from ⟨rfl, hst⟩), if_pos (show 4 * M 50 0 k + s = 4 * M 50 0 k + s from rfl), if_pos (show M 42 0 (4 * M 50 0 k + s) < 0 by omega)]
      split <;> omega
    · rw [if_neg z, if_neg (show ¬ (M 50 0 k = c ∧ M 48 0 k = t) by rw [hst]; exact z), if_neg (show ¬ 4 * c + t = 4 * M 50 0 k + s by omega)]
      omega
  · rw [ql, q42]
    have i5 : I5 M1 := fun c t c0 c1 t0 t1 => by
      rw [hle, mo 42 _ _ (by decide)]
      have := h5 c t c0 c1 t0 t1
      split <;> omega
    have := b10 i5 c t c0 c1 t0 t1
    rw [hpos] at this
    by_cases z : 4 * c + t = 4 * M 50 0 k + s
    · rw [if_pos z]
      rw [z] at this ⊢
      rw [if_neg (show ¬ 0 < M 42 0 (4 * M 50 0 k + s) by omega)] at this
      rw [if_neg (show ¬ 0 < M 42 0 (4 * M 50 0 k + s) + r.2 by omega)]
      exact this
    · rw [if_neg z]
      exact this
  · rw [ql, qo 45 0 _ (by decide) (by decide) (by omega), qo 46 0 _ (by decide) (by decide) (by omega), b1 46 _ _ (by decide), mo 46 _ _ (by decide)]
    have e7 := b7 l t l0 l1 t0 t1
    rw [mo 45 _ _ (by decide), hle] at e7
    have e6 := h6 l t l0 l1 t0 t1
    have e9 := b9 (4 * l + t) (by omega) (by omega)
    refine ⟨⟨by omega, ?_⟩, e6.2⟩
    split at e7 <;> omega
  · rw [ql, b6, hle, if_pos ⟨hf, hst⟩]
    omega
theorem cbS_o (M : Mm) (src s k own : Int) {g : Nat} {t j : Int} (e1 : g ≠ 42) (e2 : g ≠ 41) (e3 : ¬ (g = 38 ∧ j = 28)) : cbS M src s k own g t j = (borF (st M 51 0 k (M 51 0 k - own)) (M 50 0 k) s own src).1 g t j := by
  unfold cbS
  have : ∀ (m : Mm) (v : Int), st m 38 0 28 v g t j = m g t j := fun m v => by
    unfold st; rw [if_neg]; exact fun z => e3 ⟨z.1, z.2.2⟩
  show (st (st (st _ 42 0 _ _) 41 0 _ _) 38 0 28 _) g t j = _
  rw [this, st_o e2, st_o e1]
theorem cbS_p (M : Mm) (src s k own : Int) {j : Int} (h : (borF (st M 51 0 k (M 51 0 k - own)) (M 50 0 k) s own src).1 50 0 k = M 50 0 k) (e : j ≠ 4 * M 50 0 k + s) : cbS M src s k own 42 0 j = (borF (st M 51 0 k (M 51 0 k - own)) (M 50 0 k) s own src).1 42 0 j := by
  unfold cbS
  show (st (st (st _ 42 0 _ _) 41 0 _ _) 38 0 28 _) 42 0 j = _
  rw [st_o (by decide), st_o (by decide), h, st_i e]
theorem lnF_nn {M : Mm} (h : Lk M) (a s : Int) {n : Nat} (hn : (n : Int) ≤ M 38 0 11) : 0 ≤ lnF M a s n := (lnF_rng h a s hn).1
theorem cbL_ok {src s : Int} (hs : 0 ≤ s ∧ s ≤ 3) : ∀ (j : Nat) (M : Mm) (rest : Int), (j : Int) ≤ M 38 0 11 → Wk M → (0 ≤ rest ∧ rest ≤ 500) → rest ≤ lnF M src s j → Wk (cbL src s j M rest) ∧ lentF (cbL src s j M rest) src s = lentF M src s - rest ∧ (0 < M 42 0 (4 * src + s) → 0 ≤ src → cbL src s j M rest 42 0 (4 * src + s) = M 42 0 (4 * src + s))
  | 0, M, rest, _, hW, hr, hl => by
    have : rest = 0 := by
      have : lnF M src s 0 = 0 := rfl
      omega
    subst this
    exact ⟨hW, by simp [cbL], fun _ _ => rfl⟩
  | k + 1, M, rest, hj, hW, hr, hl => by
    by_cases c1 : 0 < rest
    · have hln : lnF M src s (k + 1) = lnF M src s k + lnG M src s k := rfl
      by_cases c2 : M 49 0 k = src ∧ M 48 0 k = s ∧ 0 < M 51 0 k
      · have hmi := minI_le (M 51 0 k) rest
        rw [cbL, if_pos c1, if_pos c2]
        have hk1 : (k : Int) < M 38 0 11 := by omega
        obtain ⟨⟨z1, z2, z3⟩, hrr, hB, htk, hW2, hle, hng⟩ := cbS_ok hW (own := minI (M 51 0 k) rest) (k := k) (by omega) hk1 c2.1 c2.2.1 (by omega)
        have hfr : ∀ g t j, g ≠ 42 → g ≠ 41 → ¬ (g = 38 ∧ j = 28) → cbS M src s k (minI (M 51 0 k) rest) g t j = _ := fun g t j => cbS_o M src s k (minI (M 51 0 k) rest) (g := g) (t := t) (j := j)
        have hcp := fun j => cbS_p M src s k (minI (M 51 0 k) rest) (j := j) htk
        generalize (borF (st M 51 0 k (M 51 0 k - minI (M 51 0 k) rest)) (M 50 0 k) s (minI (M 51 0 k) rest) src) = r at hrr hB htk hfr hcp
        generalize cbS M src s k (minI (M 51 0 k) rest) = Q at hW2 hle hfr hcp ⊢
        obtain ⟨b1, b2, b3, b4, b5, b6, b7, b8, b9, b10⟩ := hB
        rw [st_o (by decide)] at b3
        have hQn : Q 38 0 11 = r.1 38 0 11 := hfr 38 0 11 (by decide) (by decide) (by decide)
        have hlQ : lnF Q src s k = lnF M src s k := by
          refine sm_cg (fun i hi => ?_)
          unfold lnG
          rw [hfr 48 0 i (by decide) (by decide) (by omega), hfr 49 0 i (by decide) (by decide) (by omega), hfr 51 0 i (by decide) (by decide) (by omega)]
          have := b4 i (by rw [st_o (by decide)]; omega)
          rw [this.1, this.2.1, this.2.2.2.1, st_o (by decide), st_o (by decide), st_i (by omega)]
        have hlg : lnG M src s k = M 51 0 k := if_pos ⟨c2.1, c2.2.1⟩
        have hnn := lnF_nn hW.1 src s (n := k) (by omega)
        have ih := cbL_ok hs k Q (rest - minI (M 51 0 k) rest) (by omega) hW2 (by omega) (by rw [hlQ]; omega)
        refine ⟨ih.1, by rw [ih.2.1, hle]; omega, fun h1 h2 => ?_⟩
        have hne : 4 * src + s ≠ 4 * M 50 0 k + s := fun q => by rw [← q] at hng; omega
        have e1 : Q 42 0 (4 * src + s) = M 42 0 (4 * src + s) := by
          rw [hcp _ hne, b1 42 _ _ (by decide), st_o (by decide)]
        rw [ih.2.2 (by rw [e1]; exact h1) h2, e1]
      · rw [cbL, if_pos c1, if_neg c2]
        have hlg : lnG M src s k ≤ 0 := by
          have h5 := (hW.1.2 k (by omega)).2.2.2.1
          unfold lnG
          split
          · omega
          · omega
        exact cbL_ok hs k M rest (by omega) hW hr (by omega)
    · rw [cbL, if_neg c1]
      have : rest = 0 := by omega
      subst this
      exact ⟨hW, by omega, fun _ _ => rfl⟩
theorem callF_ok {src s many : Int} {M : Mm} (hs : 0 ≤ s ∧ s ≤ 3) (hW : Wk M) (hm : 0 ≤ many ∧ many ≤ 500) (hl : many ≤ lentF M src s) : Wk (callF M src s many) ∧ lentF (callF M src s many) src s = lentF M src s - many ∧ (0 < M 42 0 (4 * src + s) → 0 ≤ src → callF M src s many 42 0 (4 * src + s) = M 42 0 (4 * src + s)) := cbL_ok hs _ M many (by have := hW.1.1; omega) hW hm hl
/-- the memory behind a giving back -/
def GR (c s : Int) (M M' : Mm) (d : Int) : Prop := (∀ (g : Nat) (t j : Int), (g ≠ 51 ∧ g ≠ 45) → M' g t j = M g t j) ∧ Lk M' ∧ (∀ a t : Int, toF M' a t = toF M a t + (if c = a ∧ s = t then -d else 0)) ∧ (∀ a t : Int, lentF M' a t ≤ lentF M a t) ∧ (∀ l t : Int, 0 ≤ l → l ≤ 3 → 0 ≤ t → t ≤ 3 → 0 ≤ M' 45 0 (4 * l + t) ∧ M' 45 0 (4 * l + t) + lentF M' (10 + l) t = M 45 0 (4 * l + t) + lentF M (10 + l) t)
theorem gbL_ok {c s : Int} (hs : 0 ≤ s ∧ s ≤ 3) : ∀ (f : Nat) (M : Mm) (rest : Int), Lk M → (∀ i : Int, 0 ≤ i → i ≤ 15 → 0 ≤ M 45 0 i) → 0 ≤ rest → rest ≤ (f : Int) → rest ≤ toF M c s → GR c s M (gbL c s f M rest) rest
  | 0, M, rest, hL, hG, h0, hf, ht => by
    have : rest = 0 := by omega
    subst this
    exact ⟨fun _ _ _ _ => rfl, hL, fun a t => by simp [gbL], fun _ _ => Int.le_refl _, fun l t l0 l1 t0 t1 => ⟨hG _ (by omega) (by omega), rfl⟩⟩
  | f + 1, M, rest, hL, hG, h0, hf, ht => by
    by_cases c1 : 0 < rest
    · have hbn := bst_ne c s (μ := M) (by omega)
      have hbr := bst_rng M c s (M 38 0 11).toNat
      have hbc := hbr.2.2 hbn
      rw [gbL, if_pos c1]
      generalize bstF M c s (M 38 0 11).toNat = x at hbn hbr hbc ⊢
      have hl0 := hL.1
      have hx0 : 0 ≤ x := by omega
      have hx1 : x < M 38 0 11 := by omega
      have hlk := Lk_at hL hx0 hx1
      have hmi := minI_le (M 51 0 x) rest
      generalize minI (M 51 0 x) rest = own at hmi ⊢
      have m4 : ∀ j, backF M x own s 51 0 j = if j = x then M 51 0 x + -own else M 51 0 j := fun j => by rw [backF_4]; split <;> omega
      have mo : ∀ (g : Nat) (t j : Int), g ≠ 51 ∧ g ≠ 45 → backF M x own s g t j = M g t j := fun g t j q => backF_o M x own s q
      have hto := toF_up hx0 hx1 (mo 38 0 11 (by decide)) (fun j => mo 48 0 j (by decide)) (fun j => mo 50 0 j (by decide)) m4
      have hle := lentF_up hx0 hx1 (mo 38 0 11 (by decide)) (fun j => mo 48 0 j (by decide)) (fun j => mo 49 0 j (by decide)) m4
      have m6 := backF_6 M x own s
      have hL2 : Lk (backF M x own s) := by
        refine ⟨by rw [mo 38 _ _ (by decide)]; exact hL.1, fun i hi => ?_⟩
        rw [mo 38 _ _ (by decide)] at hi
        have := hL.2 i hi
        rw [mo 48 _ _ (by decide), mo 49 _ _ (by decide), mo 50 _ _ (by decide), mo 52 _ _ (by decide), m4]
        refine ⟨this.1, this.2.1, this.2.2.1, ?_, this.2.2.2.2⟩
        split <;> omega
      generalize backF M x own s = Q at m4 mo hto hle m6 hL2 ⊢
      have ht2 := hto c s
      rw [if_pos ⟨hbc.1, hbc.2.1⟩] at ht2
      obtain ⟨g1, g2, g3, g4, g5⟩ := gbL_ok hs f Q (rest - own) (c := c) hL2 (fun i i0 i1 => by rw [m6]; have := hG i i0 i1; split <;> omega) (by omega) (by omega) (by omega)
      refine ⟨fun g t j q => (g1 g t j q).trans (mo g t j q), g2, fun a t => ?_, fun a t => ?_, fun l t l0 l1 t0 t1 => ?_⟩
      · rw [g3, hto, hbc.1, hbc.2.1]
        split <;> omega
      · have := g4 a t
        have := hle a t
        split at this <;> omega
      · refine ⟨(g5 l t l0 l1 t0 t1).1, ?_⟩
        rw [(g5 l t l0 l1 t0 t1).2, m6, hle, hbc.2.1]
        split <;> split <;> omega
    · have : rest = 0 := by omega
      subst this
      rw [gbL, if_neg c1]
      exact ⟨fun _ _ _ _ => rfl, hL, fun a t => by simp, fun _ _ => Int.le_refl _, fun l t l0 l1 t0 t1 => ⟨hG _ (by omega) (by omega), rfl⟩⟩

