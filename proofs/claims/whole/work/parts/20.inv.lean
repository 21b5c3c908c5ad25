/-! ===== what holds at any time of the reference's books, and how borrowing keeps it ===== -/
def I4 (μ : Mm) : Prop := ∀ c s : Int, 0 ≤ c → c ≤ 5 → 0 ≤ s → s ≤ 3 → toF μ c s = (if μ 42 0 (4 * c + s) < 0 then -μ 42 0 (4 * c + s) else 0)
def I5 (μ : Mm) : Prop := ∀ c s : Int, 0 ≤ c → c ≤ 5 → 0 ≤ s → s ≤ 3 → lentF μ c s ≤ (if 0 < μ 42 0 (4 * c + s) then μ 42 0 (4 * c + s) else 0)
def I6 (μ : Mm) : Prop := ∀ l s : Int, 0 ≤ l → l ≤ 3 → 0 ≤ s → s ≤ 3 → (0 ≤ μ 45 0 (4 * l + s) ∧ μ 45 0 (4 * l + s) + lentF μ (10 + l) s ≤ 502000) ∧ 0 ≤ μ 46 0 (4 * l + s) ∧ μ 46 0 (4 * l + s) ≤ 10000
def Wk (μ : Mm) : Prop := Lk μ ∧ Pk μ ∧ I4 μ ∧ I5 μ ∧ I6 μ
theorem Gk_of {μ : Mm} (hL : Lk μ) (h : I6 μ) : Gk μ := fun i h0 h1 => by
  have h2 := h (i / 4) (i % 4) (by omega) (by omega) (by omega) (by omega)
  rw [show 4 * (i / 4) + i % 4 = i by omega] at h2
  have h3 := lentF_rng hL (10 + i / 4) (i % 4)
  omega
theorem toF_nn {μ : Mm} (h : Lk μ) (c s : Int) : 0 ≤ toF μ c s := by
  have h1 := sm_le (g := toG μ c s) (c := 500) (n := (μ 38 0 11).toNat) (fun k hk => by
    have := h.1
    have := (h.2 k (by omega)).2.2.2.1
    unfold toG
    split <;> omega)
  exact h1.1
theorem lentF_cg {M M' : Mm} (h1 : M' 38 0 11 = M 38 0 11) (h2 : ∀ j, M' 48 0 j = M 48 0 j) (h3 : ∀ j, M' 49 0 j = M 49 0 j) (h4 : ∀ j, M' 51 0 j = M 51 0 j) (a t : Int) : lentF M' a t = lentF M a t := by
  unfold lentF lnF
  rw [h1]
  exact sm_cg (fun k _ => by unfold lnG; rw [h2, h3, h4])
theorem toF_cg {M M' : Mm} (h1 : M' 38 0 11 = M 38 0 11) (h2 : ∀ j, M' 48 0 j = M 48 0 j) (h3 : ∀ j, M' 50 0 j = M 50 0 j) (h4 : ∀ j, M' 51 0 j = M 51 0 j) (a t : Int) : toF M' a t = toF M a t := by
  unfold toF
  rw [h1]
  exact sm_cg (fun k _ => by unfold toG; rw [h2, h3, h4])
theorem Lk_cg {M M' : Mm} (h : Lk M) (h1 : M' 38 0 11 = M 38 0 11) (h2 : ∀ j, M' 48 0 j = M 48 0 j) (h3 : ∀ j, M' 49 0 j = M 49 0 j) (h4 : ∀ j, M' 50 0 j = M 50 0 j) (h5 : ∀ j, M' 51 0 j = M 51 0 j) (h6 : ∀ j, M' 52 0 j = M 52 0 j) : Lk M' := by
  refine ⟨by rw [h1]; exact h.1, fun k hk => ?_⟩
  rw [h2, h3, h4, h5, h6]
  exact h.2 k (by rw [h1] at hk; exact hk)
theorem lentF_up {M M' : Mm} {k d : Int} (k0 : 0 ≤ k) (k1 : k < M 38 0 11) (h1 : M' 38 0 11 = M 38 0 11) (h2 : ∀ j, M' 48 0 j = M 48 0 j) (h3 : ∀ j, M' 49 0 j = M 49 0 j) (h4 : ∀ j, M' 51 0 j = if j = k then M 51 0 k + d else M 51 0 j) (a t : Int) : lentF M' a t = lentF M a t + (if M 49 0 k = a ∧ M 48 0 k = t then d else 0) := by
  unfold lentF lnF
  rw [h1]
  refine sm_upd (k0 := k.toNat) (by omega) ?_ (fun i hi hne => ?_)
  · unfold lnG
    rw [h2, h3, h4, show ((k.toNat : Nat) : Int) = k by omega, if_pos rfl]
    split <;> omega
  · unfold lnG
    rw [h2, h3, h4, if_neg (show ¬ (i : Int) = k by omega)]
theorem toF_up {M M' : Mm} {k d : Int} (k0 : 0 ≤ k) (k1 : k < M 38 0 11) (h1 : M' 38 0 11 = M 38 0 11) (h2 : ∀ j, M' 48 0 j = M 48 0 j) (h3 : ∀ j, M' 50 0 j = M 50 0 j) (h4 : ∀ j, M' 51 0 j = if j = k then M 51 0 k + d else M 51 0 j) (a t : Int) : toF M' a t = toF M a t + (if M 50 0 k = a ∧ M 48 0 k = t then d else 0) := by
  unfold toF
  rw [h1]
  refine sm_upd (k0 := k.toNat) (by omega) ?_ (fun i hi hne => ?_)
  · unfold toG
    rw [h2, h3, h4, show ((k.toNat : Nat) : Int) = k by omega, if_pos rfl]
    split <;> omega
  · unfold toG
    rw [h2, h3, h4, if_neg (show ¬ (i : Int) = k by omega)]
theorem mkLn_lent {M : Mm} (hL : Lk M) (s x b own a t : Int) : lentF (mkLn M s x b own) a t = lentF M a t + (if x = a ∧ s = t then own else 0) := by
  have h0 := hL.1
  unfold lentF lnF
  rw [mkLn_n, show (M 38 0 11 + 1).toNat = (M 38 0 11).toNat + 1 by omega]
  show sm _ (M 38 0 11).toNat + lnG _ a t (M 38 0 11).toNat = _
  rw [sm_cg (g := lnG M a t) (fun k hk => by unfold lnG; rw [mkLn_1, mkLn_2, mkLn_4, if_neg (show ¬ (k : Int) = M 38 0 11 by omega), if_neg (show ¬ (k : Int) = M 38 0 11 by omega), if_neg (show ¬ (k : Int) = M 38 0 11 by omega)])]
  congr 1
  unfold lnG
  rw [mkLn_1, mkLn_2, mkLn_4, show (((M 38 0 11).toNat : Nat) : Int) = M 38 0 11 by omega, if_pos rfl, if_pos rfl, if_pos rfl]
theorem mkLn_to {M : Mm} (hL : Lk M) (s x b own a t : Int) : toF (mkLn M s x b own) a t = toF M a t + (if b = a ∧ s = t then own else 0) := by
  have h0 := hL.1
  unfold toF
  rw [mkLn_n, show (M 38 0 11 + 1).toNat = (M 38 0 11).toNat + 1 by omega]
  show sm _ (M 38 0 11).toNat + toG _ a t (M 38 0 11).toNat = _
  rw [sm_cg (g := toG M a t) (fun k hk => by unfold toG; rw [mkLn_1, mkLn_3, mkLn_4, if_neg (show ¬ (k : Int) = M 38 0 11 by omega), if_neg (show ¬ (k : Int) = M 38 0 11 by omega), if_neg (show ¬ (k : Int) = M 38 0 11 by omega)])]
  congr 1
  unfold toG
  rw [mkLn_1, mkLn_3, mkLn_4, show (((M 38 0 11).toNat : Nat) : Int) = M 38 0 11 by omega, if_pos rfl, if_pos rfl, if_pos rfl]
theorem has_ne {M : Mm} {x b s w : Int} (h : 0 < hasF M x b s w) : x ≠ w ∧ x ≠ b := by
  unfold hasF at h
  split at h
  · omega
  · omega
theorem has_c {M : Mm} {x b s w : Int} (hx : x ≤ 5) (h : 0 < hasF M x b s w) : 0 < M 42 0 (4 * x + s) ∧ hasF M x b s w = M 42 0 (4 * x + s) - lentF M x s := by
  unfold hasF at *
  split at h
  · omega
  · rename_i c
    rw [if_neg (show ¬ 10 ≤ x by omega)] at h
    rw [if_neg c, if_neg (show ¬ 10 ≤ x by omega)]
    split at h
    · rename_i d
      rw [if_pos d]
      unfold partF at *
      split at h
      · rename_i e
        rw [if_pos e]
        exact ⟨e, rfl⟩
      · omega
    · omega
/-- the memory behind a borrowing of d shares, by b, of s, not from w -/
def BR (b s w : Int) (M M' : Mm) (d : Int) : Prop := (∀ (g : Nat) (t j : Int), (g ≠ 48 ∧ g ≠ 49 ∧ g ≠ 50 ∧ g ≠ 51 ∧ g ≠ 52 ∧ g ≠ 45 ∧ g ≠ 38) → M' g t j = M g t j) ∧ (∀ j : Int, j ≠ 11 → M' 38 0 j = M 38 0 j) ∧ M 38 0 11 ≤ M' 38 0 11 ∧ (∀ k : Int, k < M 38 0 11 → M' 48 0 k = M 48 0 k ∧ M' 49 0 k = M 49 0 k ∧ M' 50 0 k = M 50 0 k ∧ M' 51 0 k = M 51 0 k ∧ M' 52 0 k = M 52 0 k) ∧ (∀ c t : Int, toF M' c t = toF M c t + (if b = c ∧ s = t then d else 0)) ∧ (∀ t : Int, lentF M' w t = lentF M w t) ∧ (∀ l t : Int, 0 ≤ l → l ≤ 3 → 0 ≤ t → t ≤ 3 → M' 45 0 (4 * l + t) + lentF M' (10 + l) t = M 45 0 (4 * l + t) + lentF M (10 + l) t) ∧ Lk M' ∧ Gk M' ∧ (I5 M → I5 M')
theorem BR_0 {b s w : Int} {M : Mm} (hL : Lk M) (hG : Gk M) : BR b s w M M 0 := ⟨fun _ _ _ _ => rfl, fun _ _ => rfl, Int.le_refl _, fun _ _ => ⟨rfl, rfl, rfl, rfl, rfl⟩, fun c t => by split <;> omega, fun _ => rfl, fun _ _ _ _ _ _ => rfl, hL, hG, id⟩
theorem BR_s {b s w x own d : Int} {M M' : Mm} (hL : Lk M) (hG : Gk M) (hx : (0 ≤ x ∧ x ≤ 5) ∨ (10 ≤ x ∧ x ≤ 13)) (hs : 0 ≤ s ∧ s ≤ 3) (ho : 0 < own ∧ own ≤ hasF M x b s w) (h : BR b s w (mkLn M s x b own) M' d) : BR b s w M M' (d + own) := by
  obtain ⟨h1, h2, h3, h4, h5, h6, h7, h8, h9, h10⟩ := h
  have hne := has_ne (M := M) (x := x) (b := b) (s := s) (w := w) (by omega)
  refine ⟨fun g t j q => (h1 g t j q).trans (mkLn_o M s x b own q), fun j q => (h2 j q).trans (mkLn_n' M s x b own q), by rw [mkLn_n] at h3; omega, fun k hk => ?_, fun c t => ?_, fun t => ?_, fun l t l0 l1 t0 t1 => ?_, h8, h9, fun q => h10 (fun c t c0 c1 t0 t1 => ?_)⟩
  · obtain ⟨g1, g2, g3, g4, g5⟩ := h4 k (by rw [mkLn_n]; omega)
    rw [g1, g2, g3, g4, g5, mkLn_1, mkLn_2, mkLn_3, mkLn_4, mkLn_5]
    have hk2 : ¬ k = M 38 0 11 := by omega
    simp only [if_neg hk2]
    exact ⟨trivial, trivial, trivial, trivial, trivial⟩
  · rw [h5, mkLn_to hL]
    split <;> omega
  · rw [h6, mkLn_lent hL, if_neg (fun q => hne.1 q.1)]
    omega
  · rw [h7 l t l0 l1 t0 t1, mkLn_6, mkLn_lent hL]
    split <;> split <;> omega
  · have q5 := q c t c0 c1 t0 t1
    rw [mkLn_lent hL, mkLn_o M s x b own (by decide)]
    split
    · rename_i z
      obtain ⟨z1, z2⟩ := z
      subst z1 z2
      have := has_c (M := M) (x := x) (b := b) (s := s) (w := w) c1 (by omega)
      rw [if_pos this.1]
      omega
    · omega
theorem borL_ok {b s w : Int} (hb : 0 ≤ b ∧ b ≤ 5) (hs : 0 ≤ s ∧ s ≤ 3) : ∀ (l : List Int) (M : Mm) (rest : Int), (∀ x ∈ l, (0 ≤ x ∧ x ≤ 5) ∨ (10 ≤ x ∧ x ≤ 13)) → Lk M → Pk M → Gk M → (0 ≤ rest ∧ rest ≤ 500) → (0 ≤ (borL b s w l M rest).2 ∧ (borL b s w l M rest).2 ≤ rest) ∧ BR b s w M (borL b s w l M rest).1 (rest - (borL b s w l M rest).2)
  | [], M, rest, _, hL, _, hG, hr => ⟨by simp only [borL]; omega, by simp only [borL]; rw [Int.sub_self]; exact BR_0 hL hG⟩
  | x :: l, M, rest, hx, hL, hP, hG, hr => by
    have hx0 := hx x List.mem_cons_self
    have hxl : ∀ y ∈ l, (0 ≤ y ∧ y ≤ 5) ∨ (10 ≤ y ∧ y ≤ 13) := fun y hy => hx y (List.mem_cons_of_mem _ hy)
    by_cases c1 : 0 < rest ∧ M 38 0 11 < 1000
    · by_cases c2 : 0 < minI (hasF M x b s w) rest
      · have hmi := minI_le (hasF M x b s w) rest
        have hhr := hasF_rng hL hP hG hx0 hs b w
        obtain ⟨k1, k2⟩ := mkLn_ok hL hG c1.2 hx0 hb hs (own := minI (hasF M x b s w) rest) ⟨by omega, by omega⟩ (fun q => by have := hhr.2.2 q; omega)
        have ih := borL_ok hb hs l (mkLn M s x b (minI (hasF M x b s w) rest)) (rest - minI (hasF M x b s w) rest) (w := w) hxl k1 (mkLn_Pk hP _ _ _ _) k2 (by omega)
        rw [borL, if_pos c1, if_pos c2]
        refine ⟨by omega, ?_⟩
        have := BR_s hL hG hx0 hs (own := minI (hasF M x b s w) rest) ⟨c2, hmi.1⟩ ih.2
        rw [show rest - minI (hasF M x b s w) rest - (borL b s w l (mkLn M s x b (minI (hasF M x b s w) rest)) (rest - minI (hasF M x b s w) rest)).2 + minI (hasF M x b s w) rest = rest - (borL b s w l (mkLn M s x b (minI (hasF M x b s w) rest)) (rest - minI (hasF M x b s w) rest)).2 by omega] at this
        exact this
      · rw [borL, if_pos c1, if_neg c2]
        exact borL_ok hb hs l M rest hxl hL hP hG hr
    · rw [borL, if_neg c1]
      exact ⟨by show 0 ≤ rest ∧ rest ≤ rest; omega, by show BR b s w M M (rest - rest); rw [Int.sub_self]; exact BR_0 hL hG⟩
theorem srcs_rng (μ : Mm) (s : Int) : ∀ x ∈ srcs μ s, (0 ≤ x ∧ x ≤ 5) ∨ (10 ≤ x ∧ x ≤ 13) := fun x hx => by
  obtain ⟨pre, l, h⟩ := List.append_of_mem hx
  exact (beh_next h).2
theorem borF_ok {b s w want : Int} {M : Mm} (hb : 0 ≤ b ∧ b ≤ 5) (hs : 0 ≤ s ∧ s ≤ 3) (hL : Lk M) (hP : Pk M) (hG : Gk M) (hw : 0 ≤ want ∧ want ≤ 500) : (0 ≤ (borF M b s want w).2 ∧ (borF M b s want w).2 ≤ want) ∧ BR b s w M (borF M b s want w).1 (want - (borF M b s want w).2) := borL_ok hb hs _ M want (srcs_rng M s) hL hP hG hw

