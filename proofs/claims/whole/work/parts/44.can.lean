/-! ===== what can be borrowed is borrowed; what the reference's calls keep -/
theorem canL_ad (m : Mm) (b s : Int) : ∀ (l : List Int) (left n : Int), canL m b s l left n = n + canL m b s l left 0
  | [], _, n => by show n = n + 0; omega
  | x :: l, left, n => by
    rw [canL, canL]
    split
    · rw [canL_ad m b s l _ (n + _), canL_ad m b s l _ (0 + _)]; omega
    · omega
theorem canL_nn {m : Mm} {b s : Int} : ∀ {l : List Int} {left : Int}, (∀ y ∈ l, 0 ≤ hasF m y b s (-1)) → 0 ≤ canL m b s l left 0
  | [], _, _ => Int.le_refl 0
  | x :: l, left, h => by
    rw [canL]
    split
    · rw [canL_ad]
      have h1 := h x List.mem_cons_self
      have h2 := canL_nn (m := m) (b := b) (s := s) (l := l) (left := if 0 < hasF m x b s (-1) then left - 1 else left) (fun y hy => h y (List.mem_cons_of_mem _ hy))
      omega
    · omega
theorem canL_cg {m m' : Mm} {b s : Int} : ∀ {l : List Int} {left n : Int}, (∀ y ∈ l, hasF m' y b s (-1) = hasF m y b s (-1)) → canL m' b s l left n = canL m b s l left n
  | [], _, _, _ => rfl
  | x :: l, left, n, h => by
    rw [canL, canL, h x List.mem_cons_self]
    split
    · exact canL_cg (fun y hy => h y (List.mem_cons_of_mem _ hy))
    · rfl
theorem has_mk {m : Mm} (hL : Lk m) {s x y b own : Int} (hxy : y ≠ x) (hy : srcR y) (hs : 0 ≤ s ∧ s ≤ 3) : hasF (mkLn m s x b own) y b s (-1) = hasF m y b s (-1) := by
  unfold hasF
  split
  · rfl
  · unfold srcR at hy
    split
    · rw [mkLn_6, if_neg (by omega)]
    · have e : partF (mkLn m s x b own) y s = partF m y s := by
        unfold partF
        rw [mkLn_lent hL, mkLn_o _ _ _ _ _ (by decide), if_neg (show ¬ (x = y ∧ s = s) from fun q => hxy q.1.symm), Int.add_zero]
      rw [e, mkLn_o _ _ _ _ _ (show (43 : Nat) ≠ 48 ∧ _ by decide)]
theorem bor_all {b s : Int} (hb : 0 ≤ b ∧ b ≤ 5) (hs : 0 ≤ s ∧ s ≤ 3) : ∀ (l : List Int) (m : Mm) (rest : Int), (∀ x ∈ l, srcR x) → l.Pairwise (· ≠ ·) → Lk m → Gk m → (∀ y ∈ l, 0 ≤ hasF m y b s (-1)) → (0 ≤ rest ∧ rest ≤ 500) → rest ≤ canL m b s l (1000 - m 38 0 11) 0 → (borL b s (-1) l m rest).2 = 0
  | [], m, rest, _, _, _, _, _, h0, h => by
    have h : rest ≤ 0 := h
    show rest = 0
    omega
  | x :: l, m, rest, hr, hp, hL, hG, hn, h0, h => by
    by_cases c : 0 < rest ∧ m 38 0 11 < 1000
    · have hp2 := List.pairwise_cons.mp hp
      have hx := hr x List.mem_cons_self
      have hnx := hn x List.mem_cons_self
      have hl0 := hL.1
      rw [canL, if_pos (by omega), canL_ad] at h
      rw [borL, if_pos c]
      have hmi := minI_le (hasF m x b s (-1)) rest
      by_cases d : 0 < minI (hasF m x b s (-1)) rest
      · rw [if_pos d]
        rw [if_pos (by omega)] at h
        have hth := has_th (m := m) (x := x) (b := b) (s := s) (w := -1) (by omega)
        have hpl : 10 ≤ x → minI (hasF m x b s (-1)) rest ≤ m 45 0 (4 * (x - 10) + s) := fun q => by
          have := hth.1
          unfold thF at this
          rw [if_neg (by omega)] at this
          omega
        have hok := mkLn_ok hL hG c.2 hx hb hs (own := minI (hasF m x b s (-1)) rest) ⟨d, by omega⟩ hpl
        have hcg : ∀ y ∈ l, hasF (mkLn m s x b (minI (hasF m x b s (-1)) rest)) y b s (-1) = hasF m y b s (-1) := fun y hy => has_mk hL (Ne.symm (hp2.1 y hy)) (hr y (List.mem_cons_of_mem _ hy)) hs
        have hnn := canL_nn (m := m) (b := b) (s := s) (l := l) (left := 1000 - m 38 0 11 - 1) (fun y hy => hn y (List.mem_cons_of_mem _ hy))
        refine bor_all hb hs l _ _ (fun y hy => hr y (List.mem_cons_of_mem _ hy)) hp2.2 hok.1 hok.2 (fun y hy => by rw [hcg y hy]; exact hn y (List.mem_cons_of_mem _ hy)) (by omega) ?_
        rw [canL_cg hcg, mkLn_n, show 1000 - (m 38 0 11 + 1) = 1000 - m 38 0 11 - 1 by omega]
        omega
      · rw [if_neg d]
        rw [if_neg (by omega)] at h
        exact bor_all hb hs l m rest (fun y hy => hr y (List.mem_cons_of_mem _ hy)) hp2.2 hL hG (fun y hy => hn y (List.mem_cons_of_mem _ hy)) h0 (by omega)
    · rw [borL_nc c]
      show rest = 0
      by_cases q : 0 < rest
      · rw [canL_nc (by omega)] at h
        omega
      · omega
theorem srcs_nd (m : Mm) (s : Int) : (srcs m s).Pairwise (· ≠ ·) := by
  have h := srcs_pw m s
  have hm : ∀ x ∈ srcs m s, srcR x := fun x hx => srcs_mem.mp hx
  generalize srcs m s = l at h hm
  induction l with
  | nil => exact List.Pairwise.nil
  | cons x l ih =>
    have h2 := List.pairwise_cons.mp h
    refine List.pairwise_cons.mpr ⟨fun y hy q => ?_, ih h2.2 (fun y hy => hm y (List.mem_cons_of_mem _ hy))⟩
    have := h2.1 y hy
    rw [← q] at this
    exact bef_ir (hm x List.mem_cons_self) this
theorem bor_can {m : Mm} (hV : VB m) {b s n : Int} (hb : 0 ≤ b ∧ b ≤ 5) (hs : 0 ≤ s ∧ s ≤ 3) (hn : 0 ≤ n ∧ n ≤ 500) (h : n ≤ canF m b s) : (borF m b s n (-1)).2 = 0 :=
  bor_all hb hs _ m n (fun x hx => srcs_mem.mp hx) (srcs_nd m s) hV.1 (Gk_of hV.1 hV.2.2.2) (fun y hy => (hasF_nn hV (srcs_mem.mp hy) hs).1) hn h
theorem shortF_57 {m : Mm} {b s n w k v : Int} : borF (st m 57 0 k v) b s n w = (st (borF m b s n w).1 57 0 k v, (borF m b s n w).2) := by
  rw [st_ovr, st_ovr]
  refine ov_borF ⟨fun g j h => ?_, by simp, by simp⟩ m b s n w
  have : g ≠ 57 := by rintro rfl; exact absurd h (by decide)
  simp [this]
theorem shortF_ok {m : Mm} (hW : Wk m) {k n : Int} (hc : 0 ≤ m 53 0 k ∧ m 53 0 k ≤ 5) (hs : 0 ≤ m 54 0 k ∧ m 54 0 k ≤ 3) (hn : 1 ≤ n ∧ n ≤ 500) (hp : m 42 0 (4 * m 53 0 k + m 54 0 k) ≤ 0 ∧ -500 ≤ m 42 0 (4 * m 53 0 k + m 54 0 k) - n) (hcan : n ≤ canF m (m 53 0 k) (m 54 0 k)) : Wk (shortF m k n) := by
  unfold shortF
  generalize m 53 0 k = c at *
  generalize m 54 0 k = s at *
  rw [shortF_57]
  dsimp only
  have h0 := bor_can (VB_of hW) hc hs ⟨by omega, hn.2⟩ hcan
  obtain ⟨hL, hP, h4, h5, h6⟩ := hW
  obtain ⟨-, hB⟩ := borF_ok (b := c) (s := s) (want := n) (w := -1) (M := m) hc hs hL hP (Gk_of hL h6) ⟨by omega, hn.2⟩
  rw [h0, Int.sub_zero] at hB
  generalize borF m c s n (-1) = r at hB h0 ⊢
  obtain ⟨b1, b2, b3, b4, b5, b6, b7, b8, b9, b10⟩ := hB
  have hI5 := b10 h5
  have bp : ∀ j, r.1 42 0 j = m 42 0 j := fun j => b1 42 0 j (by decide)
  have hR : ∀ (g : Nat) (t j : Int), g ≠ 57 → st r.1 57 0 k 1 g t j = r.1 g t j := fun g t j q => st_o q
  have hln : ∀ a t, lentF (st r.1 57 0 k 1) a t = lentF r.1 a t := lentF_cg (hR 38 0 11 (by decide)) (fun j => hR 48 0 j (by decide)) (fun j => hR 49 0 j (by decide)) (fun j => hR 51 0 j (by decide))
  have hto : ∀ a t, toF (st r.1 57 0 k 1) a t = toF r.1 a t := toF_cg (hR 38 0 11 (by decide)) (fun j => hR 48 0 j (by decide)) (fun j => hR 50 0 j (by decide)) (fun j => hR 51 0 j (by decide))
  rw [hR 42 0 _ (by decide), bp]
  have h4c := I4_at h4 hc hs
  have h5c := I5_at hL h5 hc hs
  refine trd_ok (Lk_st b8 (by decide)) (fun i i0 i1 => by rw [hR 42 0 i (by decide), bp]; exact hP i i0 i1) hc hs (by omega) (fun d t d0 d1 t0 t1 q => ?_) ?_ (fun d t d0 d1 t0 t1 q => ?_) ?_ (fun l t l0 l1 t0 t1 => ?_)
  · rw [hto, b5, hR 42 0 _ (by decide), bp, if_neg (fun z => q ⟨z.1.symm, z.2.symm⟩), Int.add_zero]
    exact h4 d t d0 d1 t0 t1
  · rw [hto, b5, if_pos ⟨rfl, rfl⟩]
    split
    · by_cases z : m 42 0 (4 * c + s) < 0
      · have := h4c.2 z; omega
      · have := h4c.1 (by omega); omega
    · omega
  · rw [hln, hR 42 0 _ (by decide)]
    exact hI5 d t d0 d1 t0 t1
  · rw [hln]
    have := hI5 c s hc.1 hc.2 hs.1 hs.2
    rw [bp, if_neg (by omega)] at this
    rw [if_neg (by omega)]
    exact this
  · rw [hln, hR 45 0 _ (by decide), hR 46 0 _ (by decide), b1 46 0 _ (by decide)]
    have q6 := h6 l t l0 l1 t0 t1
    have q7 := b7 l t l0 l1 t0 t1
    have q9 := b9 (4 * l + t) (by omega) (by omega)
    exact ⟨⟨q9.1.1, by omega⟩, q6.2⟩
/-- what trades leave alone -/
theorem sellsF_u (m : Mm) (c s n : Int) {g : Nat} {t j : Int} (h : g ≠ 48 ∧ g ≠ 49 ∧ g ≠ 50 ∧ g ≠ 51 ∧ g ≠ 52 ∧ g ≠ 45) (h1 : g ≠ 42 ∧ g ≠ 41) (h2 : ¬ (g = 38 ∧ (j = 11 ∨ j = 28))) : sellsF m c s n g t j = m g t j := by
  unfold sellsF
  show st (st _ 42 0 _ _) 41 0 _ _ g t j = _
  rw [st_o h1.2, st_o h1.1]
  split
  · exact callF_u _ _ _ _ h h1 h2
  · rfl
theorem buysF_u (m : Mm) (c s n : Int) {g : Nat} {t j : Int} (h : g ≠ 51 ∧ g ≠ 45) (h1 : g ≠ 42 ∧ g ≠ 41) : buysF m c s n g t j = m g t j := by
  unfold buysF
  show st (st _ 42 0 _ _) 41 0 _ _ g t j = _
  rw [st_o h1.2, st_o h1.1]
  exact giveF_o _ _ _ _ h
theorem closeF_u (m : Mm) (c s : Int) {g : Nat} {t j : Int} (h : g ≠ 48 ∧ g ≠ 49 ∧ g ≠ 50 ∧ g ≠ 51 ∧ g ≠ 52 ∧ g ≠ 45) (h1 : g ≠ 42 ∧ g ≠ 41) (h2 : ¬ (g = 38 ∧ (j = 11 ∨ j = 28))) : closeF m c s g t j = m g t j := by
  unfold closeF
  split
  · exact sellsF_u m c s _ h h1 h2
  · split
    · exact buysF_u m c s _ ⟨h.2.2.2.1, h.2.2.2.2.2⟩ h1
    · rfl
theorem failL_u (m : Mm) (c : Int) {g : Nat} {t j : Int} (h : g ≠ 48 ∧ g ≠ 49 ∧ g ≠ 50 ∧ g ≠ 51 ∧ g ≠ 52 ∧ g ≠ 45) (h1 : g ≠ 42 ∧ g ≠ 41) (h2 : ¬ (g = 38 ∧ (j = 0 ∨ j = 11 ∨ j = 28))) : ∀ k : Nat, failL m c k g t j = m g t j
  | 0 => by rw [failL]; exact st_u (by omega)
  | k + 1 => by rw [failL, closeF_u _ _ _ h h1 (by omega)]; exact failL_u m c h h1 h2 k
theorem failL_z {m : Mm} (hW : Wk m) {c : Int} (hc : 0 ≤ c ∧ c ≤ 5) : ∀ k : Nat, k ≤ 4 → ∀ s : Nat, s < k → failL m c k 42 0 (4 * c + s) = 0
  | 0, _, s, h => absurd h (Nat.not_lt_zero _)
  | k + 1, hk, s, h => by
    rw [failL]
    by_cases q : s = k
    · rw [q]; exact closeF_z (failL_ok hW hc k (by omega)) hc (by omega)
    · rw [closeF_q _ (by omega)]; exact failL_z hW hc k (by omega) s (by omega)
/-! ===== the class's memory read as the reference's: locates, recalls, who has failed -/
theorem al_s25 {M : Mm} {i v : Int} (h : M 21 0 5 ≤ i) : al (st M 25 0 i v) = al M := by
  funext f t j
  unfold al mtF st
  split <;> first | rfl | (simp; done) | skip
  simp
  by_cases q : j = i
  · subst q
    rw [if_neg (show ¬ (0 ≤ j ∧ j < M 21 0 5) by omega), if_neg (show ¬ (0 ≤ j ∧ j < M 21 0 5) by omega)]
  · simp [q]
theorem al_f21 {M : Mm} (h : 0 ≤ M 21 0 5) : al (st M 21 0 5 (M 21 0 5 + 1)) = st (st (al M) 38 0 17 (M 21 0 5 + 1)) 56 0 (M 21 0 5) (M 25 0 (M 21 0 5) - 1) := by
  funext f t j
  unfold al mtF st
  split <;> first | rfl | (simp; done) | (simp_all; done) | skip
  · simp
    by_cases q0 : t = 0
    · by_cases q : j = M 21 0 5
      · subst q; simp [q0]; omega
      · have e : (0 ≤ j ∧ j < M 21 0 5 + 1) ↔ (0 ≤ j ∧ j < M 21 0 5) := by omega
        simp [q, q0, e]
    · simp [q0]
  · simp
    by_cases q0 : t = 0
    · by_cases q : j = 17
      · subst q; simp [q0]
      · simp [q, q0]
    · simp [q0]
theorem al_f27 {M : Mm} (h : 0 ≤ M 27 0 5) (hz : M 32 0 (M 27 0 5) = 0) : al (st M 27 0 5 (M 27 0 5 + 1)) = st (al M) 38 0 23 (M 27 0 5 + 1) := by
  have hm : mtF (st M 27 0 5 (M 27 0 5 + 1)) = mtF M := by
    unfold mtF
    rw [st_s, show (M 27 0 5 + 1).toNat = (M 27 0 5).toNat + 1 by omega]
    show sm _ _ + (if _ ≠ 0 then (1 : Int) else 0) = _
    rw [st_o (by decide), show (((M 27 0 5).toNat : Nat) : Int) = M 27 0 5 by omega, hz, if_neg (by decide), Int.add_zero]
    exact sm_cg (fun k _ => by rw [st_o (by decide)])
  funext f t j
  unfold al
  simp only [hm]
  unfold st
  split <;> first | rfl | (simp; done) | (simp_all; done) | skip
  simp
  by_cases q0 : t = 0
  · by_cases q : j = 23
    · subst q; simp [q0]
    · simp [q, q0]
  · simp [q0]
theorem al_s5 {M : Mm} {c v : Int} (hv : v ≠ 0) : al (st M 5 0 c v) = st (st (al M) 44 0 c v) 43 0 c 0 := by
  funext f t j
  unfold al mtF st
  split <;> first | rfl | (simp; done) | (simp_all; done) | skip
  simp
  by_cases q0 : t = 0
  · by_cases q : j = c
    · subst q; simp [q0, hv]
    · simp [q, q0]
  · simp [q0]
