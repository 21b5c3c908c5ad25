/-! ===== the class: a loan is made, a loan comes back -/
theorem st_cm {m : Mm} {f g : Nat} {r i v t j w : Int} (h : f ≠ g) : st (st m f r i v) g t j w = st (st m g t j w) f r i v := by
  funext a b c
  unfold st
  by_cases h1 : a = f
  · by_cases h2 : a = g
    · exact absurd (h1.symm.trans h2) h
    · simp [h2]
  · simp [h1]
theorem minI_cm (a b : Int) : minI a b = minI b a := by unfold minI; split <;> split <;> omega
theorem mkLn_ft {M : Mm} (hL : Lk M) (s x b own c d t : Int) : ftF (mkLn M s x b own) c d t = ftF M c d t + (if x = c ∧ b = d ∧ s = t then own else 0) := by
  have h0 := hL.1
  unfold ftF
  rw [mkLn_n, show (M 38 0 11 + 1).toNat = (M 38 0 11).toNat + 1 by omega]
  show sm _ (M 38 0 11).toNat + ftG _ c d t (M 38 0 11).toNat = _
  rw [sm_cg (g := ftG M c d t) (fun k hk => by unfold ftG; rw [mkLn_1, mkLn_2, mkLn_3, mkLn_4, if_neg (show ¬ (k : Int) = M 38 0 11 by omega), if_neg (show ¬ (k : Int) = M 38 0 11 by omega), if_neg (show ¬ (k : Int) = M 38 0 11 by omega), if_neg (show ¬ (k : Int) = M 38 0 11 by omega)])]
  congr 1
  unfold ftG
  rw [mkLn_1, mkLn_2, mkLn_3, mkLn_4, show (((M 38 0 11).toNat : Nat) : Int) = M 38 0 11 by omega, if_pos rfl, if_pos rfl, if_pos rfl, if_pos rfl]
theorem ftF_up {M M' : Mm} {k d : Int} (k0 : 0 ≤ k) (k1 : k < M 38 0 11) (h1 : M' 38 0 11 = M 38 0 11) (h2 : ∀ j, M' 48 0 j = M 48 0 j) (h3 : ∀ j, M' 49 0 j = M 49 0 j) (h5 : ∀ j, M' 50 0 j = M 50 0 j) (h4 : ∀ j, M' 51 0 j = if j = k then M 51 0 k + d else M 51 0 j) (a b t : Int) : ftF M' a b t = ftF M a b t + (if M 49 0 k = a ∧ M 50 0 k = b ∧ M 48 0 k = t then d else 0) := by
  unfold ftF
  rw [h1]
  refine sm_upd (k0 := k.toNat) (by omega) ?_ (fun i hi hne => ?_)
  · unfold ftG
    rw [h2, h3, h4, h5, show ((k.toNat : Nat) : Int) = k by omega, if_pos rfl]
    split <;> omega
  · unfold ftG
    rw [h2, h3, h4, h5, if_neg (show ¬ (i : Int) = k by omega)]
theorem ftF_cg {M M' : Mm} (h1 : M' 38 0 11 = M 38 0 11) (h2 : ∀ j, M' 48 0 j = M 48 0 j) (h3 : ∀ j, M' 49 0 j = M 49 0 j) (h5 : ∀ j, M' 50 0 j = M 50 0 j) (h4 : ∀ j, M' 51 0 j = M 51 0 j) (a b t : Int) : ftF M' a b t = ftF M a b t := by
  unfold ftF
  rw [h1]
  exact sm_cg (fun k _ => by unfold ftG; rw [h2, h3, h4, h5])
theorem longF_cg {M M' : Mm} (h : ∀ j, M' 42 0 j = M 42 0 j) (s : Int) : longF M' s = longF M s := sm_cg (fun k _ => by unfold lgG; rw [h])
theorem ln_ge {M : Mm} (hL : Lk M) {k : Int} (k0 : 0 ≤ k) (k1 : k < M 38 0 11) : M 51 0 k ≤ lentF M (M 49 0 k) (M 48 0 k) ∧ M 51 0 k ≤ ftF M (M 49 0 k) (M 50 0 k) (M 48 0 k) ∧ M 51 0 k ≤ toF M (M 50 0 k) (M 48 0 k) := by
  have h0 := hL.1
  have hk : ((k.toNat : Nat) : Int) = k := by omega
  refine ⟨?_, ?_, ?_⟩
  · have := sm_ge (g := lnG M (M 49 0 k) (M 48 0 k)) (i := k.toNat) (n := (M 38 0 11).toNat) (fun i hi => by
      have := (hL.2 i (by omega)).2.2.2.1
      unfold lnG; split <;> omega) (by omega)
    unfold lnG at this
    rw [hk, if_pos ⟨rfl, rfl⟩] at this
    exact this
  · have := sm_ge (g := ftG M (M 49 0 k) (M 50 0 k) (M 48 0 k)) (i := k.toNat) (n := (M 38 0 11).toNat) (fun i hi => by
      have := (hL.2 i (by omega)).2.2.2.1
      unfold ftG; split <;> omega) (by omega)
    unfold ftG at this
    rw [hk, if_pos ⟨rfl, rfl, rfl⟩] at this
    exact this
  · have := sm_ge (g := toG M (M 50 0 k) (M 48 0 k)) (i := k.toNat) (n := (M 38 0 11).toNat) (fun i hi => by
      have := (hL.2 i (by omega)).2.2.2.1
      unfold toG; split <;> omega) (by omega)
    unfold toG at this
    rw [hk, if_pos ⟨rfl, rfl⟩] at this
    exact this
theorem pH_v (h c x y : Int) : (pH h c x y = true) ↔ x = h ∧ y = c := by unfold pH; simp
theorem pO_v (x y : Int) : (pO x y = true) ↔ x = 0 := by unfold pO; simp
theorem cnP_pA {μ : Mm} {s g c : Int} (hg : g ≠ 0) : cnP μ s (pA g c) 3000 = cnP μ s (pH g c) 3000 := by
  have : pA g c = pH g c := by
    funext x y
    unfold pA pH
    rw [decide_eq_false hg]
    rfl
  rw [this]
theorem cnP_0 {μ : Mm} {s c : Int} : cnP μ s (pA 0 c) 3000 = cnP μ s pO 3000 := by
  have : pA 0 c = pO := by
    funext x y
    unfold pA pO
    simp
  rw [this]
/-- hands: what one change of a lent counter does to the counts -/
theorem chd_of {μ μ' : Mm} (h : CHd μ) (hl : ∀ s, longF (al μ') s = longF (al μ) s) {x b s0 n : Int} (hp : ∀ c s : Int, 0 ≤ c → c ≤ 5 → 0 ≤ s → s ≤ 3 → partF (al μ') c s = partF (al μ) c s - (if x = c ∧ s0 = s then n else 0)) (hf : ∀ c d s : Int, ftF (al μ') c d s = ftF (al μ) c d s + (if x = c ∧ b = d ∧ s0 = s then n else 0)) (hb : 0 ≤ b ∧ b ≤ 5)
    (hcn : ∀ s, 0 ≤ s → s ≤ 3 → ∀ P : Int → Int → Bool, nb P → cnP μ' s P 3000 = cnP μ s P 3000 + (if s = s0 ∧ x < 10 then (if P (2 + b) x = true then n else 0) - (if P 1 x = true then n else 0) else 0)) : CHd μ' := fun s s1 s2 => by
  obtain ⟨h1, h2⟩ := h s s1 s2
  refine ⟨?_, fun c c0 c1 => ⟨?_, fun d d0 d1 => ?_⟩⟩
  · rw [hcn s s1 s2 pO nb_O, hl, h1]
    simp only [pO_v]
    rw [if_neg (show ¬ 2 + b = 0 by omega), if_neg (show ¬ (1 : Int) = 0 by omega)]
    split <;> omega
  · rw [hcn s s1 s2 (pH 1 c) (nb_H (by decide)), hp c s c0 c1 s1 s2, (h2 c c0 c1).1]
    simp only [pH_v, true_and]
    rw [if_neg (show ¬ (2 + b = 1 ∧ x = c) by omega)]
    (repeat' split) <;> omega
  · rw [hcn s s1 s2 (pH (2 + d) c) (nb_H (by omega)), hf, (h2 c c0 c1).2 d d0 d1]
    simp only [pH_v, true_and]
    rw [if_neg (show ¬ ((1 : Int) = 2 + d ∧ x = c) by omega)]
    (repeat' split) <;> omega
theorem ki_lend {μ μ' : Mm} (hK : KI μ) {s x b n : Int} (hs : 0 ≤ s ∧ s ≤ 3) (hx : srcR x) (hb : 0 ≤ b ∧ b ≤ 5) (hn : 1 ≤ n ∧ n ≤ 500) (ht : n ≤ thF (al μ) x s) (hm : al μ 38 0 11 < 1000) (ha : al μ' = mkLn (al μ) s x b n) (h14 : ∀ a t, μ' 14 a t = st μ 14 x s (μ 14 x s + n) 14 a t)
    (hcn : ∀ t, 0 ≤ t → t ≤ 3 → ∀ P : Int → Int → Bool, nb P → cnP μ' t P 3000 = cnP μ t P 3000 + (if t = s ∧ x < 10 then (if P (2 + b) x = true then n else 0) - (if P 1 x = true then n else 0) else 0)) : KI μ' := by
  obtain ⟨⟨hL, hP, h5, h6⟩, hC, hH, hF⟩ := hK
  have hG := Gk_of hL h6
  have hth : (x ≤ 5 → n ≤ partF (al μ) x s) ∧ (10 ≤ x → n ≤ al μ 45 0 (4 * (x - 10) + s)) := by
    unfold thF at ht
    split at ht
    · exact ⟨fun _ => ht, fun _ => by omega⟩
    · exact ⟨fun _ => by omega, fun _ => ht⟩
  have hpx : x ≤ 5 → 0 < al μ 42 0 (4 * x + s) ∧ lentF (al μ) x s + n ≤ al μ 42 0 (4 * x + s) := fun q => by
    have := hth.1 q
    unfold partF at this
    split at this <;> omega
  have hln := mkLn_lent hL s x b n
  have hok := mkLn_ok hL hG hm hx hb hs (own := n) ⟨by omega, by omega⟩ hth.2
  have hpo : ∀ j, mkLn (al μ) s x b n 42 0 j = al μ 42 0 j := fun j => mkLn_o _ _ _ _ _ (by decide)
  have hfo : ∀ j, mkLn (al μ) s x b n 44 0 j = al μ 44 0 j := fun j => mkLn_o _ _ _ _ _ (by decide)
  have hfe : ∀ j, mkLn (al μ) s x b n 46 0 j = al μ 46 0 j := fun j => mkLn_o _ _ _ _ _ (by decide)
  have hp6 := mkLn_6 (al μ) s x b n
  have hft := mkLn_ft hL s x b n
  have hx2 := hx
  unfold srcR at hx2
  refine ⟨?_, fun a t hA t0 t1 => ?_, ?_, ?_⟩
  · rw [ha]
    refine ⟨hok.1, mkLn_Pk hP _ _ _ _, fun c t c0 c1 t0 t1 => ?_, fun l t l0 l1 t0 t1 => ?_⟩
    · rw [hln, hpo]
      have q5 := h5 c t c0 c1 t0 t1
      by_cases q : x = c ∧ s = t
      · rw [if_pos q]
        have := hpx (by omega)
        rw [q.1, q.2] at this
        rw [if_pos this.1]
        omega
      · rw [if_neg q]; omega
    · have q6 := h6 l t l0 l1 t0 t1
      rw [hln, hfe, hp6]
      by_cases q : x = 10 + l ∧ s = t
      · have := hth.2 (by omega)
        rw [show 4 * (x - 10) + s = 4 * l + t by omega] at this
        rw [if_pos q, if_pos (by omega)]
        omega
      · rw [if_neg q, if_neg (by omega)]
        omega
  · rw [h14, ha, hln]
    have := hC a t hA t0 t1
    unfold st
    by_cases q : x = a ∧ s = t
    · rw [if_pos (show 14 = 14 ∧ a = x ∧ t = s from ⟨rfl, q.1.symm, q.2.symm⟩), if_pos q, q.1, q.2]; omega
    · rw [if_neg (fun z : 14 = 14 ∧ a = x ∧ t = s => q ⟨z.2.1.symm, z.2.2.symm⟩), if_neg q]; omega
  · refine chd_of hH (fun t => by rw [ha]; exact longF_cg hpo t) (x := x) (b := b) (s0 := s) (n := n) (fun c t c0 c1 t0 t1 => ?_) (fun c d t => by rw [ha]; exact hft c d t) hb hcn
    rw [ha]
    unfold partF
    rw [hpo, hln]
    by_cases q : x = c ∧ s = t
    · have := hpx (by omega)
      rw [q.1, q.2] at this
      rw [if_pos q, if_pos this.1, if_pos this.1]
      omega
    · rw [if_neg q]
      split <;> omega
  · rw [ha]
    intro c t c0 c1 t0 t1 q
    rw [hfo] at q
    rw [hpo]
    exact hF c t c0 c1 t0 t1 q
theorem ki_back {μ μ' : Mm} (hK : KI μ) {k n : Int} (k0 : 0 ≤ k) (k1 : k < al μ 38 0 11) (hn : 0 ≤ n ∧ n ≤ al μ 51 0 k) (ha : al μ' = backF (al μ) k n (al μ 48 0 k)) (h14 : ∀ a t, μ' 14 a t = st μ 14 (al μ 49 0 k) (al μ 48 0 k) (μ 14 (al μ 49 0 k) (al μ 48 0 k) - n) 14 a t)
    (hcn : ∀ t, 0 ≤ t → t ≤ 3 → ∀ P : Int → Int → Bool, nb P → cnP μ' t P 3000 = cnP μ t P 3000 + (if t = al μ 48 0 k ∧ al μ 49 0 k < 10 then (if P 1 (al μ 49 0 k) = true then n else 0) - (if P (2 + al μ 50 0 k) (al μ 49 0 k) = true then n else 0) else 0)) : KI μ' := by
  obtain ⟨⟨hL, hP, h5, h6⟩, hC, hH, hF⟩ := hK
  have hlk := Lk_at hL k0 k1
  have hge := ln_ge hL k0 k1
  have mo : ∀ (g : Nat) (t j : Int), g ≠ 51 ∧ g ≠ 45 → backF (al μ) k n (al μ 48 0 k) g t j = al μ g t j := fun g t j q => backF_o _ _ _ _ q
  have m4 : ∀ j, backF (al μ) k n (al μ 48 0 k) 51 0 j = if j = k then al μ 51 0 k + -n else al μ 51 0 j := fun j => by rw [backF_4]; split <;> omega
  have hln := lentF_up k0 k1 (mo 38 0 11 (by decide)) (fun j => mo 48 0 j (by decide)) (fun j => mo 49 0 j (by decide)) m4
  have hft := ftF_up k0 k1 (mo 38 0 11 (by decide)) (fun j => mo 48 0 j (by decide)) (fun j => mo 49 0 j (by decide)) (fun j => mo 50 0 j (by decide)) m4
  have m6 := backF_6 (al μ) k n (al μ 48 0 k)
  have hok := (backF_ok (B := 1000000) hL (Gk_of hL h6) (al μ 48 0 k) k0 k1 hn).1
  have hpo : ∀ j, backF (al μ) k n (al μ 48 0 k) 42 0 j = al μ 42 0 j := fun j => mo 42 0 j (by decide)
  have hfo : ∀ j, backF (al μ) k n (al μ 48 0 k) 44 0 j = al μ 44 0 j := fun j => mo 44 0 j (by decide)
  have hfe : ∀ j, backF (al μ) k n (al μ 48 0 k) 46 0 j = al μ 46 0 j := fun j => mo 46 0 j (by decide)
  generalize backF (al μ) k n (al μ 48 0 k) = Q at *
  generalize al μ 49 0 k = x at *
  generalize al μ 48 0 k = s at *
  generalize al μ 50 0 k = b at *
  refine ⟨?_, fun a t hA t0 t1 => ?_, ?_, ?_⟩
  · rw [ha]
    refine ⟨hok, fun i i0 i1 => by rw [hpo]; exact hP i i0 i1, fun c t c0 c1 t0 t1 => ?_, fun l t l0 l1 t0 t1 => ?_⟩
    · rw [hln, hpo]
      have q5 := h5 c t c0 c1 t0 t1
      split <;> omega
    · have q6 := h6 l t l0 l1 t0 t1
      rw [hln, hfe, m6]
      by_cases q : x = 10 + l ∧ s = t
      · rw [if_pos q, if_pos (by omega)]
        omega
      · rw [if_neg q, if_neg (by omega)]
        omega
  · rw [h14, ha, hln]
    have := hC a t hA t0 t1
    unfold st
    by_cases q : x = a ∧ s = t
    · rw [if_pos (show 14 = 14 ∧ a = x ∧ t = s from ⟨rfl, q.1.symm, q.2.symm⟩), if_pos q, q.1, q.2]; omega
    · rw [if_neg (fun z : 14 = 14 ∧ a = x ∧ t = s => q ⟨z.2.1.symm, z.2.2.symm⟩), if_neg q]; omega
  · refine chd_of hH (fun t => by rw [ha]; exact longF_cg hpo t) (x := x) (b := b) (s0 := s) (n := -n) (fun c t c0 c1 t0 t1 => ?_) (fun c d t => by rw [ha]; exact hft c d t) hlk.2.2.1 (fun t t0 t1 P hP => ?_)
    · rw [ha]
      unfold partF
      rw [hpo, hln]
      have q5 := h5 c t c0 c1 t0 t1
      by_cases q : x = c ∧ s = t
      · rw [if_pos q]
        rw [q.1, q.2] at hge
        split
        · omega
        · rename_i z
          rw [if_neg z] at q5
          omega
      · rw [if_neg q]
        split <;> omega
    · rw [hcn t t0 t1 P hP]
      split
      · split <;> split <;> omega
      · rfl
  · rw [ha]
    intro c t c0 c1 t0 t1 q
    rw [hfo] at q
    rw [hpo]
    exact hF c t c0 c1 t0 t1 q
/-! ### Primeborrow.lend -/
def cl_X4_lend : Cl := (5, 0, fun σ as μ => as = [vR 0 0, vI (iaI as 1), vI (iaI as 2), vI (iaI as 3), vI (iaI as 4)] ∧ (KI μ ∧ (0 ≤ (iaI as 1) ∧ (iaI as 1) ≤ 3) ∧ srcR (iaI as 2) ∧ (0 ≤ (iaI as 3) ∧ (iaI as 3) ≤ 5) ∧ (1 ≤ (iaI as 4) ∧ (iaI as 4) ≤ 500) ∧ (iaI as 4) ≤ thF (al μ) (iaI as 2) (iaI as 1) ∧ μ 15 0 5 < 1000), fun σ as μ ov μ' => ov = none ∧ al μ' = mkLn (al μ) (iaI as 1) (iaI as 2) (iaI as 3) (iaI as 4) ∧ KI μ' ∧ Fr μ μ', fun σ as μ k => False)
def cd_X4_lend : Cd := mkcd k_X4_lend co_X4 fl_X4 [(284, cl_X1_add), (264, cl_X0_handOver)] [] [] [] 5 0 0
set_option maxHeartbeats 4000000 in
set_option maxRecDepth 20000 in
theorem run_X4_lend {ER : Option AV → Mm → Prop} {ET : Nat → Mm → Prop} (σ μ : Mm) (s x b n : Int) (hM : MR fam0 μ) (h_s : in32 s) (h_x : in32 x) (h_b : in32 b) (h_n : in32 n) (hP : KI μ ∧ (0 ≤ s ∧ s ≤ 3) ∧ srcR x ∧ (0 ≤ b ∧ b ≤ 5) ∧ (1 ≤ n ∧ n ≤ 500) ∧ n ≤ thF (al μ) x s ∧ μ 15 0 5 < 1000) (hER : ∀ ov μ', (ov = none ∧ al μ' = mkLn (al μ) s x b n ∧ KI μ' ∧ Fr μ μ') → ER ov μ') : Run fam0 none cd_X4_lend ER ET 0 0 [some (vR 0 0), some (vI s), some (vI x), some (vI b), some (vI n)] [] μ := by
  obtain ⟨hK, hs, hx, hb, hn, ht, hm⟩ := hP
  have hx2 := hx
  unfold srcR at hx2
  have hm0 : 0 ≤ μ 15 0 5 := hK.1.1.1.1
  have k1 : x ≤ 5 → _ := fun q => ki_held hK (c := x) (s := s) (by omega) hs
  have k2 : 10 ≤ x → _ := fun q => ki_len hK (l := x - 10) (s := s) (by omega) hs
  have e14 : 10 + (x - 10) = x := by omega
  rw [e14] at k2
  have hth : (x ≤ 5 → n ≤ partF (al μ) x s) ∧ (10 ≤ x → n ≤ μ 9 (x - 10) s) := by
    have ht2 := ht
    unfold thF at ht2
    split at ht2
    · exact ⟨fun _ => ht2, fun _ => by omega⟩
    · rw [al_45 hs] at ht2; exact ⟨fun _ => by omega, fun _ => ht2⟩
  have hav : x ≤ 5 → n ≤ cnP μ s (pA 1 x) 3000 := fun q => by
    rw [cnP_pA (by decide), ((hK.2.2.1 s hs.1 hs.2).2 x (by omega) q).1]
    exact hth.1 q
  have hcr := cn_rng μ s (pA 1 x) 3000
  refine run_k 13 ?_
  show (0 ≤ x ∧ x < 14) ∧ ((0 ≤ s ∧ s < 4) ∧ ((0 ≤ s ∧ s < 4) ∧ ((10 ≤ x → Run fam0 none cd_X4_lend ER ET 50 0 [some (vR 0 0), some (vI s), some (vI x), some (vI b), some (vI n)] [] (st μ 14 x s (w32 ((μ 14 x s) + n)))) ∧ (x < 10 → Run fam0 none cd_X4_lend ER ET 19 0 [some (vR 0 0), some (vI s), some (vI x), some (vI b), some (vI n)] [] (st μ 14 x s (w32 ((μ 14 x s) + n)))))))
  rw [show w32 ((μ 14 x s) + n) = (μ 14 x s) + n from w32_id (by simp only [in32]; omega)]
  refine ⟨by omega, ?_⟩
  refine ⟨by omega, ?_⟩
  refine ⟨by omega, ?_⟩
  refine ⟨fun c1 => ?_, fun c1 => ?_⟩
  · refine run_k 15 ?_
    show (0 ≤ (w32 (x - 10)) ∧ (w32 (x - 10)) < 4) ∧ ((0 ≤ s ∧ s < 4) ∧ (∃ σ : Mm, cl_X1_add.2.2.1 σ [vR 15 0, vI s, vI x, vI b, vI n, vI (μ 11 (w32 (x - 10)) s)] (st μ 14 x s ((μ 14 x s) + n)) ∧ (∀ ov μ', cl_X1_add.2.2.2.1 σ [vR 15 0, vI s, vI x, vI b, vI n, vI (μ 11 (w32 (x - 10)) s)] (st μ 14 x s ((μ 14 x s) + n)) ov μ' → Run fam0 none cd_X4_lend ER ET 73 0 [some (vR 0 0), some (vI s), some (vI x), some (vI b), some (vI n)] (ov.toList ++ []) μ') ∧ ∀ kx, cl_X1_add.2.2.2.2 σ [vR 15 0, vI s, vI x, vI b, vI n, vI (μ 11 (w32 (x - 10)) s)] (st μ 14 x s ((μ 14 x s) + n)) kx → thr cd_X4_lend ET (Run fam0 none cd_X4_lend ER ET) 70 0 [some (vR 0 0), some (vI s), some (vI x), some (vI b), some (vI n)] (st μ 14 x s ((μ 14 x s) + n)) kx))
    rw [show w32 (x - 10) = x - 10 from w32_id (by simp only [in32]; omega)]
    refine ⟨by omega, ?_⟩
    refine ⟨by omega, ?_⟩
    refine ⟨μ, ⟨rfl, show 0 ≤ (st μ 14 x s ((μ 14 x s) + n)) 15 0 5 ∧ (st μ 14 x s ((μ 14 x s) + n)) 15 0 5 < 1000 from (show 0 ≤ μ 15 0 5 ∧ μ 15 0 5 < 1000 from by omega)⟩, fun ov μ' hq => ?_, fun k hk => hk.elim⟩
    obtain ⟨hov, hmu⟩ : ov = none ∧ μ' = st (st (st (st (st (st (st μ 14 x s ((μ 14 x s) + n)) 16 0 (μ 15 0 5) s) 17 0 (μ 15 0 5) x) 18 0 (μ 15 0 5) b) 19 0 (μ 15 0 5) n) 20 0 (μ 15 0 5) (μ 11 (x - 10) s)) 15 0 5 ((μ 15 0 5) + 1) := hq
    rw [hov, hmu]
    show Run fam0 none cd_X4_lend ER ET 73 0 [some (vR 0 0), some (vI s), some (vI x), some (vI b), some (vI n)] [] (st (st (st (st (st (st (st μ 14 x s ((μ 14 x s) + n)) 16 0 (μ 15 0 5) s) 17 0 (μ 15 0 5) x) 18 0 (μ 15 0 5) b) 19 0 (μ 15 0 5) n) 20 0 (μ 15 0 5) (μ 11 (x - 10) s)) 15 0 5 ((μ 15 0 5) + 1))
    refine run_k 13 ?_
    show (0 ≤ (w32 (x - 10)) ∧ (w32 (x - 10)) < 4) ∧ ((0 ≤ s ∧ s < 4) ∧ ((0 ≤ s ∧ s < 4) ∧ (ER none (st (st (st (st (st (st (st (st μ 14 x s ((μ 14 x s) + n)) 16 0 (μ 15 0 5) s) 17 0 (μ 15 0 5) x) 18 0 (μ 15 0 5) b) 19 0 (μ 15 0 5) n) 20 0 (μ 15 0 5) (μ 11 (x - 10) s)) 15 0 5 ((μ 15 0 5) + 1)) 9 (w32 (x - 10)) s (w32 ((μ 9 (w32 (x - 10)) s) - n))))))
    rw [show w32 (x - 10) = x - 10 from w32_id (by simp only [in32]; omega)]
    rw [show w32 ((μ 9 (x - 10) s) - n) = (μ 9 (x - 10) s) - n from w32_id (by simp only [in32]; omega)]
    refine ⟨by omega, ?_⟩
    refine ⟨by omega, ?_⟩
    refine ⟨by omega, ?_⟩
    have hal : al (st (st (st (st (st (st (st (st μ 14 x s ((μ 14 x s) + n)) 16 0 (μ 15 0 5) s) 17 0 (μ 15 0 5) x) 18 0 (μ 15 0 5) b) 19 0 (μ 15 0 5) n) 20 0 (μ 15 0 5) (μ 11 (x - 10) s)) 15 0 5 ((μ 15 0 5) + 1)) 9 (x - 10) s ((μ 9 (x - 10) s) - n)) = mkLn (al μ) s x b n := by
      rw [al_s9 _ _ _ _ hs, al_f5, al_s20, al_s19, al_s18, al_s17, al_s16, al_o (Or.inl rfl), st_cm (by decide)]
      simp only [mkLn, if_neg (show ¬ x < 10 by omega)]
      rw [al_45 hs, al_46 hs]
      rfl
    exact hER _ _ ⟨rfl, hal, ki_lend hK hs hx hb hn ht hm hal (fun a t => rfl) (fun t t0 t1 P hP => by rw [if_neg (by omega)]; exact (cnP_cg (fun _ _ => ⟨rfl, rfl⟩)).trans (Int.add_zero _).symm), fun g r j q => ((st_o (by omega)).trans ((st_o (by omega)).trans ((st_o (by omega)).trans ((st_o (by omega)).trans ((st_o (by omega)).trans ((st_o (by omega)).trans ((st_o (by omega)).trans ((st_o (by omega)).trans rfl))))))))⟩
  · replace hav := hav (by omega)
    refine run_k 8 ?_
    show ∃ σ : Mm, cl_X1_add.2.2.1 σ [vR 15 0, vI s, vI x, vI b, vI n, vI 0] (st μ 14 x s ((μ 14 x s) + n)) ∧ (∀ ov μ', cl_X1_add.2.2.2.1 σ [vR 15 0, vI s, vI x, vI b, vI n, vI 0] (st μ 14 x s ((μ 14 x s) + n)) ov μ' → Run fam0 none cd_X4_lend ER ET 32 0 [some (vR 0 0), some (vI s), some (vI x), some (vI b), some (vI n)] (ov.toList ++ []) μ') ∧ ∀ kx, cl_X1_add.2.2.2.2 σ [vR 15 0, vI s, vI x, vI b, vI n, vI 0] (st μ 14 x s ((μ 14 x s) + n)) kx → thr cd_X4_lend ET (Run fam0 none cd_X4_lend ER ET) 29 0 [some (vR 0 0), some (vI s), some (vI x), some (vI b), some (vI n)] (st μ 14 x s ((μ 14 x s) + n)) kx
    refine ⟨μ, ⟨rfl, show 0 ≤ (st μ 14 x s ((μ 14 x s) + n)) 15 0 5 ∧ (st μ 14 x s ((μ 14 x s) + n)) 15 0 5 < 1000 from (show 0 ≤ μ 15 0 5 ∧ μ 15 0 5 < 1000 from by omega)⟩, fun ov μ' hq => ?_, fun k hk => hk.elim⟩
    obtain ⟨hov, hmu⟩ : ov = none ∧ μ' = st (st (st (st (st (st (st μ 14 x s ((μ 14 x s) + n)) 16 0 (μ 15 0 5) s) 17 0 (μ 15 0 5) x) 18 0 (μ 15 0 5) b) 19 0 (μ 15 0 5) n) 20 0 (μ 15 0 5) 0) 15 0 5 ((μ 15 0 5) + 1) := hq
    rw [hov, hmu]
    show Run fam0 none cd_X4_lend ER ET 32 0 [some (vR 0 0), some (vI s), some (vI x), some (vI b), some (vI n)] [] (st (st (st (st (st (st (st μ 14 x s ((μ 14 x s) + n)) 16 0 (μ 15 0 5) s) 17 0 (μ 15 0 5) x) 18 0 (μ 15 0 5) b) 19 0 (μ 15 0 5) n) 20 0 (μ 15 0 5) 0) 15 0 5 ((μ 15 0 5) + 1))
    refine run_k 10 ?_
    show ∃ σ : Mm, cl_X0_handOver.2.2.1 σ [vR 33 0, vI s, vI x, vI 1, vI (w32 (2 + b)), vI n] (st (st (st (st (st (st (st μ 14 x s ((μ 14 x s) + n)) 16 0 (μ 15 0 5) s) 17 0 (μ 15 0 5) x) 18 0 (μ 15 0 5) b) 19 0 (μ 15 0 5) n) 20 0 (μ 15 0 5) 0) 15 0 5 ((μ 15 0 5) + 1)) ∧ (∀ ov μ', cl_X0_handOver.2.2.2.1 σ [vR 33 0, vI s, vI x, vI 1, vI (w32 (2 + b)), vI n] (st (st (st (st (st (st (st μ 14 x s ((μ 14 x s) + n)) 16 0 (μ 15 0 5) s) 17 0 (μ 15 0 5) x) 18 0 (μ 15 0 5) b) 19 0 (μ 15 0 5) n) 20 0 (μ 15 0 5) 0) 15 0 5 ((μ 15 0 5) + 1)) ov μ' → Run fam0 none cd_X4_lend ER ET 47 0 [some (vR 0 0), some (vI s), some (vI x), some (vI b), some (vI n)] (ov.toList ++ []) μ') ∧ ∀ kx, cl_X0_handOver.2.2.2.2 σ [vR 33 0, vI s, vI x, vI 1, vI (w32 (2 + b)), vI n] (st (st (st (st (st (st (st μ 14 x s ((μ 14 x s) + n)) 16 0 (μ 15 0 5) s) 17 0 (μ 15 0 5) x) 18 0 (μ 15 0 5) b) 19 0 (μ 15 0 5) n) 20 0 (μ 15 0 5) 0) 15 0 5 ((μ 15 0 5) + 1)) kx → thr cd_X4_lend ET (Run fam0 none cd_X4_lend ER ET) 44 0 [some (vR 0 0), some (vI s), some (vI x), some (vI b), some (vI n)] (st (st (st (st (st (st (st μ 14 x s ((μ 14 x s) + n)) 16 0 (μ 15 0 5) s) 17 0 (μ 15 0 5) x) 18 0 (μ 15 0 5) b) 19 0 (μ 15 0 5) n) 20 0 (μ 15 0 5) 0) 15 0 5 ((μ 15 0 5) + 1)) kx
    rw [show w32 (2 + b) = 2 + b from w32_id (by simp only [in32]; omega)]
    refine ⟨μ, ⟨rfl, show (0 ≤ s ∧ s ≤ 3) ∧ 0 ≤ n ∧ n ≤ cnP (st (st (st (st (st (st (st μ 14 x s ((μ 14 x s) + n)) 16 0 (μ 15 0 5) s) 17 0 (μ 15 0 5) x) 18 0 (μ 15 0 5) b) 19 0 (μ 15 0 5) n) 20 0 (μ 15 0 5) 0) 15 0 5 ((μ 15 0 5) + 1)) s (pA 1 x) 3000 from ⟨by omega, by omega, Int.le_trans hav (Int.le_of_eq (cnP_cg (fun _ _ => ⟨rfl, rfl⟩)).symm)⟩⟩, fun ov μ' hq => ?_, fun k hk => hk.elim⟩
    obtain ⟨hov, hho5⟩ : ov = none ∧ HO (st (st (st (st (st (st (st μ 14 x s ((μ 14 x s) + n)) 16 0 (μ 15 0 5) s) 17 0 (μ 15 0 5) x) 18 0 (μ 15 0 5) b) 19 0 (μ 15 0 5) n) 20 0 (μ 15 0 5) 0) 15 0 5 ((μ 15 0 5) + 1)) μ' s x 1 (2 + b) n := hq
    rw [hov]
    clear hov
    rename Mm => M5
    show Run fam0 none cd_X4_lend ER ET 47 0 [some (vR 0 0), some (vI s), some (vI x), some (vI b), some (vI n)] [] M5
    refine run_k 2 ?_
    show ER none M5
    have hal : al M5 = mkLn (al μ) s x b n := by
      rw [al_cg (fun g r j h1 h2 => hho5.1 g r j (Or.inl (by omega))), al_f5, al_s20, al_s19, al_s18, al_s17, al_s16, al_o (Or.inl rfl)]
      simp only [mkLn, if_pos (show x < 10 by omega)]
      rfl
    refine hER _ _ ⟨rfl, hal, ki_lend hK hs hx hb hn ht hm hal (fun a t => hho5.1 14 a t (Or.inl (by decide))) (fun t t0 t1 P hP => ?_), fun g r j q => (hho5.1 g r j (Or.inl (by omega))).trans ?_⟩
    · by_cases q : t = s
      · rw [q, hho5.2 P hP, if_pos (show s = s ∧ x < 10 from ⟨rfl, by omega⟩)]
        have e := cnP_cg (M := st (st (st (st (st (st (st μ 14 x s ((μ 14 x s) + n)) 16 0 (μ 15 0 5) s) 17 0 (μ 15 0 5) x) 18 0 (μ 15 0 5) b) 19 0 (μ 15 0 5) n) 20 0 (μ 15 0 5) 0) 15 0 5 ((μ 15 0 5) + 1)) (μ := μ) (s := s) (P := P) (n := 3000) (fun _ _ => ⟨rfl, rfl⟩)
        rw [e]
        omega
      · rw [if_neg (fun z => q z.1)]
        rw [cnP_cg (fun i _ => ⟨hho5.1 37 t i (Or.inr q), hho5.1 35 t i (Or.inr q)⟩)]
        exact (cnP_cg (fun _ _ => ⟨rfl, rfl⟩)).trans (Int.add_zero _).symm
    · exact ((st_o (by omega)).trans ((st_o (by omega)).trans ((st_o (by omega)).trans ((st_o (by omega)).trans ((st_o (by omega)).trans ((st_o (by omega)).trans ((st_o (by omega)).trans rfl)))))))
theorem vw_X4_264 : ∀ w ∈ ([.methodLink RX4 264 yX0_handOver, .instanceMethod yX0_handOver, .selects RX0 yX0_handOver yX0_handOver, .initialized RX0, .code yX0_handOver cX0_handOver 8 none] : List Cond), w ∈ wm := wm_ps _ [453, 454, 455, 54, 456] (by decide +kernel)
theorem vw_X4_284 : ∀ w ∈ ([.methodLink RX4 284 yX1_add, .instanceMethod yX1_add, .selects RX1 yX1_add yX1_add, .initialized RX1, .code yX1_add cX1_add 6 none] : List Cond), w ∈ wm := wm_ps _ [484, 485, 486, 51, 487] (by decide +kernel)
set_option maxRecDepth 20000 in
theorem con_X4_lend (l : Launch) (htr : l.stackTraces = false) (σ : Mm) : CON fam0 63 l yX4_lend (Cond.code yX4_lend cX4_lend 5 none :: wm) 1 27 0 (cl_X4_lend.2.2.1 σ) (cl_X4_lend.2.2.2.1 σ) (cl_X4_lend.2.2.2.2 σ) :=
  con_of (cd := cd_X4_lend) (own := RX4) (rk := 0) (sc_of htr (by decide) k_X4_lend_ok (by decide +kernel) co_X4_ok fl_X4_ok (all_cons ⟨RX1, yX1_add, cX1_add, 6, none, 0, 0, 5, con_X1_add l htr, rfl, vw_X4_284, ⟨rfl, by decide, by decide, by decide +kernel⟩, ⟨by decide, by decide⟩, fun σ as μ h => ⟨15, 0, _, h.1, rfl, TX1, 6, rfl⟩⟩ (all_cons ⟨RX0, yX0_handOver, cX0_handOver, 8, none, 0, 0, 5, con_X0_handOver l htr, rfl, vw_X4_264, ⟨rfl, by decide, by decide, by decide +kernel⟩, ⟨by decide, by decide⟩, fun σ as μ h => ⟨33, 0, _, h.1, rfl, TX0, 2, rfl⟩⟩ all_nil)) all_nil all_nil) rfl (by decide +kernel) rfl rfl rfl rfl (fun as μ hs => by rw [hs.1]; exact Nat.le_of_ble_eq_true rfl)
    (fun as μ hs hM hrg => by
      have hs1 := hs.1
      have hmem : ∀ v, v ∈ ([vR 0 0, vI (iaI as 1), vI (iaI as 2), vI (iaI as 3), vI (iaI as 4)] : List AV) → rg fam0 v := by rw [← hs1]; exact hrg
      have key := run_X4_lend (ER := cl_X4_lend.2.2.2.1 σ as μ) (ET := fun k μ' => cl_X4_lend.2.2.2.2 σ as μ k ∧ μ' = μ) σ μ (iaI as 1) (iaI as 2) (iaI as 3) (iaI as 4) hM (hmem (vI (iaI as 1)) (by simp)) (hmem (vI (iaI as 2)) (by simp)) (hmem (vI (iaI as 3)) (by simp)) (hmem (vI (iaI as 4)) (by simp)) hs.2 (fun ov μ' h => h)
      have e : entL as 5 = [some (vR 0 0), some (vI (iaI as 1)), some (vI (iaI as 2)), some (vI (iaI as 3)), some (vI (iaI as 4))] := by rw [hs1]; rfl
      rw [e]; exact key)
/-! ### Primeborrow.comeBack -/
def cl_X4_comeBack : Cl := (3, 0, fun σ as μ => as = [vR 0 0, vI (iaI as 1), vI (iaI as 2)] ∧ (KI μ ∧ (0 ≤ (iaI as 1) ∧ (iaI as 1) < μ 15 0 5) ∧ (0 ≤ (iaI as 2) ∧ (iaI as 2) ≤ μ 19 0 (iaI as 1))), fun σ as μ ov μ' => ov = none ∧ al μ' = backF (al μ) (iaI as 1) (iaI as 2) (μ 16 0 (iaI as 1)) ∧ KI μ' ∧ Fr μ μ', fun σ as μ k => False)
def cd_X4_comeBack : Cd := mkcd k_X4_comeBack co_X4 fl_X4 [(264, cl_X0_handOver)] [] [] [] 5 0 0
set_option maxHeartbeats 4000000 in
set_option maxRecDepth 20000 in
theorem run_X4_comeBack {ER : Option AV → Mm → Prop} {ET : Nat → Mm → Prop} (σ μ : Mm) (k n : Int) (hM : MR fam0 μ) (h_k : in32 k) (h_n : in32 n) (hP : KI μ ∧ (0 ≤ k ∧ k < μ 15 0 5) ∧ (0 ≤ n ∧ n ≤ μ 19 0 k)) (hER : ∀ ov μ', (ov = none ∧ al μ' = backF (al μ) k n (μ 16 0 k) ∧ KI μ' ∧ Fr μ μ') → ER ov μ') : Run fam0 none cd_X4_comeBack ER ET 0 0 [some (vR 0 0), some (vI k), some (vI n), none, none] [] μ := by
  obtain ⟨hK, hk, hn⟩ := hP
  have hl0 : 0 ≤ μ 15 0 5 ∧ μ 15 0 5 ≤ 1000 := hK.1.1.1
  have hlk : (0 ≤ μ 16 0 k ∧ μ 16 0 k ≤ 3) ∧ ((0 ≤ μ 17 0 k ∧ μ 17 0 k ≤ 5) ∨ (10 ≤ μ 17 0 k ∧ μ 17 0 k ≤ 13)) ∧ (0 ≤ μ 18 0 k ∧ μ 18 0 k ≤ 5) ∧ (0 ≤ μ 19 0 k ∧ μ 19 0 k ≤ 500) ∧ (0 ≤ μ 20 0 k ∧ μ 20 0 k ≤ 10000) := Lk_at hK.1.1 hk.1 hk.2
  have hge : μ 19 0 k ≤ lentF (al μ) (μ 17 0 k) (μ 16 0 k) ∧ μ 19 0 k ≤ ftF (al μ) (μ 17 0 k) (μ 18 0 k) (μ 16 0 k) ∧ μ 19 0 k ≤ toF (al μ) (μ 18 0 k) (μ 16 0 k) := ln_ge hK.1.1 hk.1 hk.2
  have h14 := hK.2.1 (μ 17 0 k) (μ 16 0 k) hlk.2.1 hlk.1.1 hlk.1.2
  have hln := lentF_rng hK.1.1 (μ 17 0 k) (μ 16 0 k)
  have k2 : 10 ≤ μ 17 0 k → _ := fun q => ki_len hK (l := μ 17 0 k - 10) (s := μ 16 0 k) (by omega) hlk.1
  have hav : μ 17 0 k ≤ 5 → n ≤ cnP μ (μ 16 0 k) (pA (2 + μ 18 0 k) (μ 17 0 k)) 3000 := fun q => by
    rw [cnP_pA (by omega), ((hK.2.2.1 _ hlk.1.1 hlk.1.2).2 (μ 17 0 k) (by omega) q).2 _ hlk.2.2.1.1 hlk.2.2.1.2]
    omega
  have hcr := cn_rng μ (μ 16 0 k) (pA (2 + μ 18 0 k) (μ 17 0 k)) 3000
  refine run_k 34 ?_
  show (0 ≤ k ∧ k < 1000) ∧ ((0 ≤ k ∧ k < 1000) ∧ ((0 ≤ k ∧ k < 1000) ∧ ((0 ≤ k ∧ k < 1000) ∧ ((0 ≤ (μ 17 0 k) ∧ (μ 17 0 k) < 14) ∧ ((0 ≤ (μ 16 0 k) ∧ (μ 16 0 k) < 4) ∧ ((0 ≤ (μ 16 0 k) ∧ (μ 16 0 k) < 4) ∧ ((10 ≤ (μ 17 0 k) → Run fam0 none cd_X4_comeBack ER ET 80 0 [some (vR 0 0), some (vI k), some (vI n), some (vI (μ 16 0 k)), some (vI (μ 17 0 k))] [] (st (st μ 19 0 k (w32 ((μ 19 0 k) - n))) 14 (μ 17 0 k) (μ 16 0 k) (w32 ((μ 14 (μ 17 0 k) (μ 16 0 k)) - n)))) ∧ ((μ 17 0 k) < 10 → Run fam0 none cd_X4_comeBack ER ET 54 0 [some (vR 0 0), some (vI k), some (vI n), some (vI (μ 16 0 k)), some (vI (μ 17 0 k))] [] (st (st μ 19 0 k (w32 ((μ 19 0 k) - n))) 14 (μ 17 0 k) (μ 16 0 k) (w32 ((μ 14 (μ 17 0 k) (μ 16 0 k)) - n)))))))))))
  rw [show w32 ((μ 19 0 k) - n) = (μ 19 0 k) - n from w32_id (by simp only [in32]; omega)]
  rw [show w32 ((μ 14 (μ 17 0 k) (μ 16 0 k)) - n) = (μ 14 (μ 17 0 k) (μ 16 0 k)) - n from w32_id (by simp only [in32]; omega)]
  refine ⟨by omega, ?_⟩
  refine ⟨by omega, ?_⟩
  refine ⟨by omega, ?_⟩
  refine ⟨by omega, ?_⟩
  refine ⟨by omega, ?_⟩
  refine ⟨by omega, ?_⟩
  refine ⟨by omega, ?_⟩
  refine ⟨fun c1 => ?_, fun c1 => ?_⟩
  · refine run_k 13 ?_
    show (0 ≤ (w32 ((μ 17 0 k) - 10)) ∧ (w32 ((μ 17 0 k) - 10)) < 4) ∧ ((0 ≤ (μ 16 0 k) ∧ (μ 16 0 k) < 4) ∧ ((0 ≤ (μ 16 0 k) ∧ (μ 16 0 k) < 4) ∧ (ER none (st (st (st μ 19 0 k ((μ 19 0 k) - n)) 14 (μ 17 0 k) (μ 16 0 k) ((μ 14 (μ 17 0 k) (μ 16 0 k)) - n)) 9 (w32 ((μ 17 0 k) - 10)) (μ 16 0 k) (w32 ((μ 9 (w32 ((μ 17 0 k) - 10)) (μ 16 0 k)) + n))))))
    rw [show w32 ((μ 17 0 k) - 10) = (μ 17 0 k) - 10 from w32_id (by simp only [in32]; omega)]
    rw [show w32 ((μ 9 ((μ 17 0 k) - 10) (μ 16 0 k)) + n) = (μ 9 ((μ 17 0 k) - 10) (μ 16 0 k)) + n from w32_id (by simp only [in32]; omega)]
    refine ⟨by omega, ?_⟩
    refine ⟨by omega, ?_⟩
    refine ⟨by omega, ?_⟩
    have hal : al (st (st (st μ 19 0 k ((μ 19 0 k) - n)) 14 (μ 17 0 k) (μ 16 0 k) ((μ 14 (μ 17 0 k) (μ 16 0 k)) - n)) 9 ((μ 17 0 k) - 10) (μ 16 0 k) ((μ 9 ((μ 17 0 k) - 10) (μ 16 0 k)) + n)) = backF (al μ) k n (μ 16 0 k) := by
      rw [al_s9 _ _ _ _ (by omega), al_o (Or.inl rfl), al_s19]
      unfold backF
      rw [if_neg (show ¬ al μ 49 0 k < 10 from by have := al_r49 μ k; omega)]
      show _ = st (st (al μ) 51 0 k (al μ 51 0 k - n)) 45 0 (4 * (μ 17 0 k - 10) + μ 16 0 k) (al μ 45 0 (4 * (μ 17 0 k - 10) + μ 16 0 k) + n)
      rw [al_45 (by omega)]
      rfl
    exact hER _ _ ⟨rfl, hal, ki_back hK hk.1 hk.2 hn hal (fun a t => rfl) (fun t t0 t1 P hP => by
      show _ = cnP μ t P 3000 + (if t = μ 16 0 k ∧ μ 17 0 k < 10 then _ else 0)
      rw [if_neg (by omega)]; exact (cnP_cg (fun _ _ => ⟨rfl, rfl⟩)).trans (Int.add_zero _).symm), fun g r j q => ((st_o (by omega)).trans ((st_o (by omega)).trans ((st_o (by omega)).trans rfl)))⟩
  · replace hav := hav (by omega)
    refine run_k 14 ?_
    show (0 ≤ k ∧ k < 1000) ∧ (∃ σ : Mm, cl_X0_handOver.2.2.1 σ [vR 33 0, vI (μ 16 0 k), vI (μ 17 0 k), vI (w32 (2 + (μ 18 0 k))), vI 1, vI n] (st (st μ 19 0 k ((μ 19 0 k) - n)) 14 (μ 17 0 k) (μ 16 0 k) ((μ 14 (μ 17 0 k) (μ 16 0 k)) - n)) ∧ (∀ ov μ', cl_X0_handOver.2.2.2.1 σ [vR 33 0, vI (μ 16 0 k), vI (μ 17 0 k), vI (w32 (2 + (μ 18 0 k))), vI 1, vI n] (st (st μ 19 0 k ((μ 19 0 k) - n)) 14 (μ 17 0 k) (μ 16 0 k) ((μ 14 (μ 17 0 k) (μ 16 0 k)) - n)) ov μ' → Run fam0 none cd_X4_comeBack ER ET 77 0 [some (vR 0 0), some (vI k), some (vI n), some (vI (μ 16 0 k)), some (vI (μ 17 0 k))] (ov.toList ++ []) μ') ∧ ∀ kx, cl_X0_handOver.2.2.2.2 σ [vR 33 0, vI (μ 16 0 k), vI (μ 17 0 k), vI (w32 (2 + (μ 18 0 k))), vI 1, vI n] (st (st μ 19 0 k ((μ 19 0 k) - n)) 14 (μ 17 0 k) (μ 16 0 k) ((μ 14 (μ 17 0 k) (μ 16 0 k)) - n)) kx → thr cd_X4_comeBack ET (Run fam0 none cd_X4_comeBack ER ET) 74 0 [some (vR 0 0), some (vI k), some (vI n), some (vI (μ 16 0 k)), some (vI (μ 17 0 k))] (st (st μ 19 0 k ((μ 19 0 k) - n)) 14 (μ 17 0 k) (μ 16 0 k) ((μ 14 (μ 17 0 k) (μ 16 0 k)) - n)) kx)
    rw [show w32 (2 + (μ 18 0 k)) = 2 + (μ 18 0 k) from w32_id (by simp only [in32]; omega)]
    refine ⟨by omega, ?_⟩
    refine ⟨μ, ⟨rfl, show (0 ≤ (μ 16 0 k) ∧ (μ 16 0 k) ≤ 3) ∧ 0 ≤ n ∧ n ≤ cnP (st (st μ 19 0 k ((μ 19 0 k) - n)) 14 (μ 17 0 k) (μ 16 0 k) ((μ 14 (μ 17 0 k) (μ 16 0 k)) - n)) (μ 16 0 k) (pA ((2 + (μ 18 0 k))) (μ 17 0 k)) 3000 from ⟨by omega, by omega, Int.le_trans hav (Int.le_of_eq (cnP_cg (fun _ _ => ⟨rfl, rfl⟩)).symm)⟩⟩, fun ov μ' hq => ?_, fun k hk => hk.elim⟩
    obtain ⟨hov, hho3⟩ : ov = none ∧ HO (st (st μ 19 0 k ((μ 19 0 k) - n)) 14 (μ 17 0 k) (μ 16 0 k) ((μ 14 (μ 17 0 k) (μ 16 0 k)) - n)) μ' (μ 16 0 k) (μ 17 0 k) (2 + (μ 18 0 k)) 1 n := hq
    rw [hov]
    clear hov
    rename Mm => M3
    show Run fam0 none cd_X4_comeBack ER ET 77 0 [some (vR 0 0), some (vI k), some (vI n), some (vI (μ 16 0 k)), some (vI (μ 17 0 k))] [] M3
    refine run_k 2 ?_
    show ER none M3
    have hal : al M3 = backF (al μ) k n (μ 16 0 k) := by
      rw [al_cg (fun g r j h1 h2 => hho3.1 g r j (Or.inl (by omega))), al_o (Or.inl rfl), al_s19]
      unfold backF
      rw [if_pos (show al μ 49 0 k < 10 from by have := al_r49 μ k; omega)]
      rfl
    refine hER _ _ ⟨rfl, hal, ki_back hK hk.1 hk.2 hn hal (fun a t => hho3.1 14 a t (Or.inl (by decide))) (fun t t0 t1 P hP => ?_), fun g r j q => (hho3.1 g r j (Or.inl (by omega))).trans ?_⟩
    · show cnP M3 t P 3000 = cnP μ t P 3000 + (if t = μ 16 0 k ∧ μ 17 0 k < 10 then (if P 1 (μ 17 0 k) = true then n else 0) - (if P (2 + μ 18 0 k) (μ 17 0 k) = true then n else 0) else 0)
      by_cases q : t = μ 16 0 k
      · rw [q, hho3.2 P hP, if_pos (show μ 16 0 k = μ 16 0 k ∧ μ 17 0 k < 10 from ⟨rfl, by omega⟩)]
        have e := cnP_cg (M := st (st μ 19 0 k ((μ 19 0 k) - n)) 14 (μ 17 0 k) (μ 16 0 k) ((μ 14 (μ 17 0 k) (μ 16 0 k)) - n)) (μ := μ) (s := μ 16 0 k) (P := P) (n := 3000) (fun _ _ => ⟨rfl, rfl⟩)
        rw [e]
        omega
      · rw [if_neg (fun z => q z.1)]
        rw [cnP_cg (fun i _ => ⟨hho3.1 37 t i (Or.inr q), hho3.1 35 t i (Or.inr q)⟩)]
        exact (cnP_cg (fun _ _ => ⟨rfl, rfl⟩)).trans (Int.add_zero _).symm
    · exact ((st_o (by omega)).trans ((st_o (by omega)).trans rfl))
set_option maxRecDepth 20000 in
theorem con_X4_comeBack (l : Launch) (htr : l.stackTraces = false) (σ : Mm) : CON fam0 63 l yX4_comeBack (Cond.code yX4_comeBack cX4_comeBack 5 none :: wm) 1 27 0 (cl_X4_comeBack.2.2.1 σ) (cl_X4_comeBack.2.2.2.1 σ) (cl_X4_comeBack.2.2.2.2 σ) :=
  con_of (cd := cd_X4_comeBack) (own := RX4) (rk := 0) (sc_of htr (by decide) k_X4_comeBack_ok (by decide +kernel) co_X4_ok fl_X4_ok (all_cons ⟨RX0, yX0_handOver, cX0_handOver, 8, none, 0, 0, 5, con_X0_handOver l htr, rfl, vw_X4_264, ⟨rfl, by decide, by decide, by decide +kernel⟩, ⟨by decide, by decide⟩, fun σ as μ h => ⟨33, 0, _, h.1, rfl, TX0, 2, rfl⟩⟩ all_nil) all_nil all_nil) rfl (by decide +kernel) rfl rfl rfl rfl (fun as μ hs => by rw [hs.1]; exact Nat.le_of_ble_eq_true rfl)
    (fun as μ hs hM hrg => by
      have hs1 := hs.1
      have hmem : ∀ v, v ∈ ([vR 0 0, vI (iaI as 1), vI (iaI as 2)] : List AV) → rg fam0 v := by rw [← hs1]; exact hrg
      have key := run_X4_comeBack (ER := cl_X4_comeBack.2.2.2.1 σ as μ) (ET := fun k μ' => cl_X4_comeBack.2.2.2.2 σ as μ k ∧ μ' = μ) σ μ (iaI as 1) (iaI as 2) hM (hmem (vI (iaI as 1)) (by simp)) (hmem (vI (iaI as 2)) (by simp)) hs.2 (fun ov μ' h => h)
      have e : entL as 5 = [some (vR 0 0), some (vI (iaI as 1)), some (vI (iaI as 2)), none, none] := by rw [hs1]; rfl
      rw [e]; exact key)
