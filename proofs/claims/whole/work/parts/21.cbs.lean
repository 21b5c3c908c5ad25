/-! ===== calling back, trading: what they keep ===== -/
theorem cbS_ok {M : Mm} (hW : Wk M) {k own src s : Int} (k0 : 0 ≤ k) (k1 : k < M 38 0 11) (hf : M 49 0 k = src) (hst : M 48 0 k = s) (ho : 0 < own ∧ own ≤ M 51 0 k) :
    let r := borF (st M 51 0 k (M 51 0 k - own)) (M 50 0 k) s own src
    (Lk (st M 51 0 k (M 51 0 k - own)) ∧ Pk (st M 51 0 k (M 51 0 k - own)) ∧ Gk (st M 51 0 k (M 51 0 k - own))) ∧ (0 ≤ r.2 ∧ r.2 ≤ own) ∧ BR (M 50 0 k) s src (st M 51 0 k (M 51 0 k - own)) r.1 (own - r.2) ∧ r.1 50 0 k = M 50 0 k ∧ Wk (cbS M src s k own) ∧ lentF (cbS M src s k own) src s = lentF M src s - own := by
  obtain ⟨hL, hP, h4, h5, h6⟩ := hW
  have hl := Lk_at hL k0 k1
  have hG := Gk_of hL h6
  generalize hM1 : st M 51 0 k (M 51 0 k - own) = M1
  intro r
  have m4 : ∀ j, M1 51 0 j = if j = k then M 51 0 k + -own else M 51 0 j := fun j => by
    rw [← hM1]
    by_cases c : j = k
    · rw [if_pos c, c]; simp only [st]; simp; omega
    · rw [if_neg c]; simp [st, c]
  have mo : ∀ (g : Nat) (t j : Int), g ≠ 51 → M1 g t j = M g t j := fun g t j q => by
    rw [← hM1]; exact st_o q
  have hL1 : Lk M1 := by
    refine ⟨by rw [mo 38 _ _ (by decide)]; exact hL.1, fun i hi => ?_⟩
    rw [mo 38 _ _ (by decide)] at hi
    have := hL.2 i hi
    rw [mo 48 _ _ (by decide), mo 49 _ _ (by decide), mo 50 _ _ (by decide), mo 52 _ _ (by decide), m4]
    refine ⟨this.1, this.2.1, this.2.2.1, ?_, this.2.2.2.2⟩
    split <;> omega
  have hP1 : Pk M1 := fun i h0 h1 => by rw [mo 42 _ _ (by decide)]; exact hP i h0 h1
  have hG1 : Gk M1 := fun i h0 h1 => by rw [mo 45 _ _ (by decide), mo 46 _ _ (by decide)]; exact hG i h0 h1
  have hto : ∀ c t : Int, toF M1 c t = toF M c t + (if M 50 0 k = c ∧ M 48 0 k = t then -own else 0) := toF_up k0 k1 (mo 38 _ _ (by decide)) (fun j => mo 48 _ _ (by decide)) (fun j => mo 50 _ _ (by decide)) m4
  have hle : ∀ a t : Int, lentF M1 a t = lentF M a t + (if M 49 0 k = a ∧ M 48 0 k = t then -own else 0) := lentF_up k0 k1 (mo 38 _ _ (by decide)) (fun j => mo 48 _ _ (by decide)) (fun j => mo 49 _ _ (by decide)) m4
  obtain ⟨hr, hB⟩ := borF_ok (b := M 50 0 k) (s := s) (w := src) hl.2.2.1 (by rw [← hst]; exact hl.1) hL1 hP1 hG1 (want := own) ⟨by omega, by omega⟩
  change (0 ≤ r.2 ∧ r.2 ≤ own) at hr
  change BR _ _ _ _ r.1 (own - r.2) at hB
  obtain ⟨b1, b2, b3, b4, b5, b6, b7, b8, b9, b10⟩ := hB
  have hk4 := b4 k (by rw [mo 38 _ _ (by decide)]; exact k1)
  have htk : r.1 50 0 k = M 50 0 k := by rw [hk4.2.2.1, mo 50 _ _ (by decide)]
  refine ⟨⟨hL1, hP1, hG1⟩, hr, ⟨b1, b2, b3, b4, b5, b6, b7, b8, b9, b10⟩, htk, ?_⟩
  have hpos : ∀ j, r.1 42 0 j = M 42 0 j := fun j => (b1 42 0 j (by decide)).trans (mo 42 _ _ (by decide))
  generalize hQ : cbS M src s k own = Q
  have q42 : ∀ j, Q 42 0 j = if j = 4 * M 50 0 k + s then M 42 0 j + r.2 else M 42 0 j := fun j => by
    rw [← hQ]
    unfold cbS
    rw [hM1]
    show (st (st (st r.1 42 0 (4 * r.1 50 0 k + s) (r.1 42 0 (4 * r.1 50 0 k + s) + r.2)) 41 0 (r.1 50 0 k) _) 38 0 28 _) 42 0 j = _
    rw [st_o (by decide), st_o (by decide), htk, hpos]
    by_cases c : j = 4 * M 50 0 k + s
    · rw [if_pos c, c]; exact st_s
    · rw [if_neg c, st_i c, hpos]
  have qo : ∀ (g : Nat) (t j : Int), g ≠ 42 → g ≠ 41 → ¬ (g = 38 ∧ j = 28) → Q g t j = r.1 g t j := fun g t j e1 e2 e3 => by
    rw [← hQ]
    unfold cbS
    rw [hM1]
    show (st (st (st r.1 42 0 (4 * r.1 50 0 k + s) (r.1 42 0 (4 * r.1 50 0 k + s) + r.2)) 41 0 (r.1 50 0 k) _) 38 0 28 _) g t j = _
    have : ∀ (m : Mm) (v : Int), st m 38 0 28 v g t j = m g t j := fun m v => by
      unfold st; rw [if_neg]; exact fun z => e3 ⟨z.1, z.2.2⟩
    rw [this, st_o e2, st_o e1]
  have qn := qo 38 0 11 (by decide) (by decide) (by omega)
  have qL : Lk Q := Lk_cg b8 qn (fun j => qo 48 0 j (by decide) (by decide) (by omega)) (fun j => qo 49 0 j (by decide) (by decide) (by omega)) (fun j => qo 50 0 j (by decide) (by decide) (by omega)) (fun j => qo 51 0 j (by decide) (by decide) (by omega)) (fun j => qo 52 0 j (by decide) (by decide) (by omega))
  have ql : ∀ a t, lentF Q a t = lentF r.1 a t := lentF_cg qn (fun j => qo 48 0 j (by decide) (by decide) (by omega)) (fun j => qo 49 0 j (by decide) (by decide) (by omega)) (fun j => qo 51 0 j (by decide) (by decide) (by omega))
  have qt : ∀ a t, toF Q a t = toF r.1 a t := toF_cg qn (fun j => qo 48 0 j (by decide) (by decide) (by omega)) (fun j => qo 50 0 j (by decide) (by decide) (by omega)) (fun j => qo 51 0 j (by decide) (by decide) (by omega))
  have e4 := h4 (M 50 0 k) s hl.2.2.1.1 hl.2.2.1.2 (by omega) (by omega)
  have e1 := hto (M 50 0 k) s
  rw [if_pos ⟨rfl, hst⟩] at e1
  have e0 := toF_nn hL1 (M 50 0 k) s
  have hneg : M 42 0 (4 * M 50 0 k + s) ≤ -own := by split at e4 <;> omega
  refine ⟨⟨qL, fun i i0 i1 => ?_, fun c t c0 c1 t0 t1 => ?_, fun c t c0 c1 t0 t1 => ?_, fun l t l0 l1 t0 t1 => ?_⟩, ?_⟩
  · rw [q42]
    have := hP i i0 i1
    split
    · rename_i z; rw [z] at this ⊢; omega
    · exact this
  · rw [qt, b5, hto, q42, h4 c t c0 c1 t0 t1]
    by_cases z : M 50 0 k = c ∧ s = t
    · obtain ⟨z1, z2⟩ := z
      subst z1 z2
      rw [if_pos (show M 50 0 k = M 50 0 k ∧ s = s from ⟨rfl, rfl⟩), if_pos (show M 50 0 k = M 50 0 k ∧ M 48 0 k = s from ⟨rfl, hst⟩), if_pos (show 4 * M 50 0 k + s = 4 * M 50 0 k + s from rfl), if_pos (show M 42 0 (4 * M 50 0 k + s) < 0 by omega)]
      split <;> omega
    · rw [if_neg z, if_neg (show ¬ (M 50 0 k = c ∧ M 48 0 k = t) by rw [hst]; exact z), if_neg (show ¬ 4 * c + t = 4 * M 50 0 k + s by omega)]
      omega
  · rw [ql, q42]
    have i5 : I5 M1 := fun c t c0 c1 t0 t1 => by
      rw [hle, mo 42 _ _ (by decide)]
      have := h5 c t c0 c1 t0 t1
      split <;> omega
    have := b10 i5 c t c0 c1 t0 t1
    rw [hpos] at this
    by_cases z : 4 * c + t = 4 * M 50 0 k + s
    · rw [if_pos z]
      rw [z] at this ⊢
      rw [if_neg (show ¬ 0 < M 42 0 (4 * M 50 0 k + s) by omega)] at this
      rw [if_neg (show ¬ 0 < M 42 0 (4 * M 50 0 k + s) + r.2 by omega)]
      exact this
    · rw [if_neg z]
      exact this
  · rw [ql, qo 45 0 _ (by decide) (by decide) (by omega), qo 46 0 _ (by decide) (by decide) (by omega), b1 46 _ _ (by decide), mo 46 _ _ (by decide)]
    have e7 := b7 l t l0 l1 t0 t1
    rw [mo 45 _ _ (by decide), hle] at e7
    have e6 := h6 l t l0 l1 t0 t1
    have e9 := b9 (4 * l + t) (by omega) (by omega)
    refine ⟨⟨by omega, ?_⟩, e6.2⟩
    split at e7 <;> omega
  · rw [ql, b6, hle, if_pos ⟨hf, hst⟩]
    omega

