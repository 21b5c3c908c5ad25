/-! ===== the class: calling back, trades -/
/-- the pool of a lender who calls back, as the class keeps it on the way -/
def ap (x s d : Int) (N : Mm) : Mm := if x < 10 then N else st N 45 0 (4 * (x - 10) + s) (N 45 0 (4 * (x - 10) + s) + d)
theorem ap_o (x s d : Int) (N : Mm) {g : Nat} {t j : Int} (h : g ≠ 45) : ap x s d N g t j = N g t j := by
  unfold ap; split
  · rfl
  · exact st_o h
theorem ap_0 (x s : Int) (N : Mm) : ap x s 0 N = N := by
  unfold ap; split
  · rfl
  · rw [Int.add_zero]; exact st_self
theorem ap_c {x s d : Int} {N : Mm} (h : x < 10) : ap x s d N = N := if_pos h
theorem ap_45 {x s d : Int} {N : Mm} (h : 10 ≤ x) (j : Int) : ap x s d N 45 0 j = if j = 4 * (x - 10) + s then N 45 0 j + d else N 45 0 j := by
  unfold ap; rw [if_neg (by omega)]
  by_cases q : j = 4 * (x - 10) + s
  · rw [if_pos q, q]; exact st_s
  · rw [if_neg q]; exact st_i q
theorem st_ov {m : Mm} {f : Nat} {r i v w : Int} : st (st m f r i v) f r i w = st m f r i w := by
  funext a b c
  unfold st
  split <;> rfl
theorem st_ci {m : Mm} {f : Nat} {r i v j w : Int} (h : i ≠ j) : st (st m f r i v) f r j w = st (st m f r j w) f r i v := by
  funext a b c
  unfold st
  by_cases h1 : a = f ∧ b = r ∧ c = j
  · rw [if_pos h1, if_neg (fun z : a = f ∧ b = r ∧ c = i => h (z.2.2.symm.trans h1.2.2)), if_pos h1]
  · rw [if_neg h1]
    split
    · rfl
    · first | rfl | rw [if_neg h1]
theorem ap_st (x s d : Int) (N : Mm) {f : Nat} {r i v : Int} (h : f ≠ 45) : ap x s d (st N f r i v) = st (ap x s d N) f r i v := by
  unfold ap
  split
  · rfl
  · rw [st_cm h, st_o (Ne.symm h)]
theorem ap_back {x s d : Int} {N : Mm} {i own : Int} (h : N 49 0 i = x) : backF (ap x s d N) i own s = ap x s (d + own) (st N 51 0 i (N 51 0 i - own)) := by
  unfold backF
  rw [ap_o _ _ _ _ (by decide), ap_o _ _ _ _ (by decide), h]
  unfold ap
  by_cases c : x < 10
  · simp only [if_pos c]
  · simp only [if_neg c]
    rw [st_s, st_cm (f := 45) (g := 51) (by decide), st_ov, st_o (by decide)]
    congr 1
    omega
theorem ap_mk {x s d y b own : Int} {N : Mm} (h : y ≠ x) : mkLn (ap x s d N) s y b own = ap x s d (mkLn N s y b own) := by
  by_cases c : x < 10
  · rw [ap_c c, ap_c c]
  · have hv : mkLn N s y b own 45 0 (4 * (x - 10) + s) = N 45 0 (4 * (x - 10) + s) := by rw [mkLn_6, if_neg (by omega)]
    have e : ∀ m : Mm, ap x s d m = st m 45 0 (4 * (x - 10) + s) (m 45 0 (4 * (x - 10) + s) + d) := fun m => if_neg c
    rw [e, e, hv]
    generalize N 45 0 (4 * (x - 10) + s) + d = v
    unfold mkLn
    rw [st_o (show (38 : Nat) ≠ 45 by decide), st_o (show (46 : Nat) ≠ 45 by decide), st_i (show 4 * (y - 10) + s ≠ 4 * (x - 10) + s by omega)]
    split
    · simp only [st_cm (show (45 : Nat) ≠ 48 by decide), st_cm (show (45 : Nat) ≠ 49 by decide), st_cm (show (45 : Nat) ≠ 50 by decide), st_cm (show (45 : Nat) ≠ 51 by decide), st_cm (show (45 : Nat) ≠ 52 by decide), st_cm (show (45 : Nat) ≠ 38 by decide)]
    · simp only [st_cm (show (45 : Nat) ≠ 48 by decide), st_cm (show (45 : Nat) ≠ 49 by decide), st_cm (show (45 : Nat) ≠ 50 by decide), st_cm (show (45 : Nat) ≠ 51 by decide), st_cm (show (45 : Nat) ≠ 52 by decide)]
      rw [st_ci (show 4 * (x - 10) + s ≠ 4 * (y - 10) + s by omega), st_cm (show (45 : Nat) ≠ 38 by decide)]
theorem ap_part (x s d : Int) (N : Mm) (c t : Int) : partF (ap x s d N) c t = partF N c t := by
  unfold partF
  rw [ap_o _ _ _ _ (by decide), lentF_cg (ap_o _ _ _ _ (by decide)) (fun j => ap_o _ _ _ _ (by decide)) (fun j => ap_o _ _ _ _ (by decide)) (fun j => ap_o _ _ _ _ (by decide))]
theorem ap_has (x s d : Int) (N : Mm) (y b : Int) : hasF (ap x s d N) y b s x = hasF N y b s x := by
  unfold hasF
  split
  · rfl
  · rename_i q
    rw [ap_o _ _ _ _ (show (43 : Nat) ≠ 45 by decide), ap_part]
    by_cases c : x < 10
    · rw [ap_c c]
    · rw [ap_45 (by omega), if_neg (show ¬ 4 * (y - 10) + s = 4 * (x - 10) + s by omega)]
theorem ap_srcs (x s d : Int) (N : Mm) (t : Int) : srcs (ap x s d N) t = srcs N t := by
  unfold srcs
  have : feeF (ap x s d N) t = feeF N t := by
    funext l
    exact ap_o _ _ _ _ (by decide)
  rw [this]
theorem ap_borL (x s d b : Int) : ∀ (l : List Int) (N : Mm) (rest : Int), borL b s x l (ap x s d N) rest = (ap x s d (borL b s x l N rest).1, (borL b s x l N rest).2)
  | [], _, _ => rfl
  | y :: l, N, rest => by
    rw [borL, borL, ap_has, ap_o _ _ _ _ (by decide)]
    split
    · split
      · rename_i q
        have hm := minI_le (hasF N y b s x) rest
        rw [ap_mk (has_ne (show 0 < hasF N y b s x by omega)).1]
        exact ap_borL x s d b l _ _
      · exact ap_borL x s d b l _ _
    · rfl
theorem ap_bor (x s d b n : Int) (N : Mm) : borF (ap x s d N) b s n x = (ap x s d (borF N b s n x).1, (borF N b s n x).2) := by
  unfold borF
  rw [ap_srcs]
  exact ap_borL x s d b _ N n
def bi3 (m : Mm) (b s n : Int) : Mm := st (st (st m 42 0 (4 * b + s) (m 42 0 (4 * b + s) + n)) 41 0 b (w64 (m 41 0 b - w64 ((w64 (w64 (w64 (n * m 39 0 s) * 105) + 99)).tdiv 100)))) 38 0 28 (w64 (m 38 0 28 + n))
theorem cbS_bi (M : Mm) (src s k own : Int) : cbS M src s k own = bi3 (borF (st M 51 0 k (M 51 0 k - own)) (M 50 0 k) s own src).1 ((borF (st M 51 0 k (M 51 0 k - own)) (M 50 0 k) s own src).1 50 0 k) s (borF (st M 51 0 k (M 51 0 k - own)) (M 50 0 k) s own src).2 := rfl
theorem ap_bi (x s d : Int) (m : Mm) (b n : Int) : bi3 (ap x s d m) b s n = ap x s d (bi3 m b s n) := by
  unfold bi3
  rw [ap_st _ _ _ _ (by decide), ap_st _ _ _ _ (by decide), ap_st _ _ _ _ (by decide), ap_o _ _ _ _ (by decide), ap_o _ _ _ _ (by decide), ap_o _ _ _ _ (by decide), ap_o _ _ _ _ (by decide)]
def buyM (μ : Mm) (b s n : Int) : Mm := st (st (st μ 7 b s (μ 7 b s + n)) 3 0 b (w64 (μ 3 0 b - w64 ((w64 (w64 (w64 (n * μ 1 0 s) * 105) + 99)).tdiv 100)))) 0 0 15 (w64 (μ 0 0 15 + n))
theorem al_bi {μ : Mm} {b s n : Int} (hs : 0 ≤ s ∧ s ≤ 3) : al (buyM μ b s n) = bi3 (al μ) b s n := by
  unfold buyM bi3
  rw [al_f15, al_s3, al_s7 _ _ _ _ hs, al_42 hs]
  rfl
theorem Fr_buyM {a μ : Mm} (h : Fr a μ) (b s n : Int) : Fr a (buyM μ b s n) := Fr_st (Fr_st (Fr_st h (by decide)) (by decide)) (by decide)
theorem bi_o {m : Mm} {b s n : Int} {g : Nat} {t j : Int} (h : g ≠ 42 ∧ g ≠ 41 ∧ ¬ (g = 38 ∧ j = 28)) : bi3 m b s n g t j = m g t j := by
  unfold bi3
  rw [st_u h.2.2, st_o h.2.1, st_o h.1]
theorem bi_p {m : Mm} {b s n : Int} (j : Int) : bi3 m b s n 42 0 j = if j = 4 * b + s then m 42 0 j + n else m 42 0 j := by
  unfold bi3
  rw [st_o (by decide), st_o (by decide)]
  by_cases q : j = 4 * b + s
  · rw [if_pos q, q]; exact st_s
  · rw [if_neg q]; exact st_i q
/-- books of the class behind a change of positions and purses only -/
theorem ki_pos {μ μ' : Mm} (hK : KI μ) {c s δ : Int} (hc : 0 ≤ c ∧ c ≤ 5) (hs : 0 ≤ s ∧ s ≤ 3) (ho : ∀ (g : Nat) (j : Int), (g = 48 ∨ g = 49 ∨ g = 50 ∨ g = 51 ∨ g = 44 ∨ (g = 38 ∧ j = 11)) → al μ' g 0 j = al μ g 0 j) (hV : VB (al μ')) (hp : ∀ d t, 0 ≤ d → d ≤ 5 → 0 ≤ t → t ≤ 3 → ¬ (d = c ∧ t = s) → al μ' 42 0 (4 * d + t) = al μ 42 0 (4 * d + t)) (hf : al μ 44 0 c = 0) (h14 : ∀ a t, μ' 14 a t = μ 14 a t)
    (hl : (if 0 < al μ' 42 0 (4 * c + s) then al μ' 42 0 (4 * c + s) else 0) = (if 0 < al μ 42 0 (4 * c + s) then al μ 42 0 (4 * c + s) else 0) + δ)
    (hcn : ∀ t, 0 ≤ t → t ≤ 3 → ∀ P : Int → Int → Bool, nb P → cnP μ' t P 3000 = cnP μ t P 3000 + (if t = s then (if P 1 c = true then δ else 0) - (if P 0 c = true then δ else 0) else 0)) : KI μ' := by
  obtain ⟨hV0, hC, hH, hF⟩ := hK
  have q1 := ho 38 11 (by omega)
  have q2 := fun j => ho 48 j (by omega)
  have q3 := fun j => ho 49 j (by omega)
  have q4 := fun j => ho 50 j (by omega)
  have q5 := fun j => ho 51 j (by omega)
  have hln := lentF_cg q1 q2 q3 q5
  have hft := ftF_cg q1 q2 q3 q4 q5
  have hpart : ∀ d t, 0 ≤ d → d ≤ 5 → 0 ≤ t → t ≤ 3 → partF (al μ') d t = partF (al μ) d t + (if d = c ∧ t = s then δ else 0) := fun d t d0 d1 t0 t1 => by
    by_cases q : d = c ∧ t = s
    · rw [if_pos q, q.1, q.2]
      have p1 := part_vb hV0 hc hs
      have p2 := part_vb hV hc hs
      rw [hln] at p2
      split at hl <;> split at hl <;> omega
    · rw [if_neg q, Int.add_zero]
      unfold partF
      rw [hp d t d0 d1 t0 t1 q, hln]
  have hlong : ∀ t, 0 ≤ t → t ≤ 3 → longF (al μ') t = longF (al μ) t + (if t = s then δ else 0) := fun t t0 t1 => by
    by_cases q : t = s
    · rw [if_pos q]
      subst q
      refine sm_upd (k0 := c.toNat) (by omega) ?_ (fun i hi hne => ?_)
      · unfold lgG
        rw [show ((c.toNat : Nat) : Int) = c by omega]
        exact hl
      · unfold lgG
        rw [hp i t (by omega) (by omega) t0 t1 (by omega)]
    · rw [if_neg q, Int.add_zero]
      exact sm_cg (fun i hi => by unfold lgG; rw [hp i t (by omega) (by omega) t0 t1 (fun z => q z.2)])
  refine ⟨hV, fun a t hA t0 t1 => by rw [h14, hln]; exact hC a t hA t0 t1, fun t t0 t1 => ?_, fun d t d0 d1 t0 t1 z => ?_⟩
  · obtain ⟨h1, h2⟩ := hH t t0 t1
    refine ⟨?_, fun d d0 d1 => ⟨?_, fun e e0 e1 => ?_⟩⟩
    · rw [hcn t t0 t1 pO nb_O, hlong t t0 t1, h1]
      simp only [pO_v]
      rw [if_neg (show ¬ (1 : Int) = 0 by omega), if_pos True.intro]
      split <;> omega
    · rw [hcn t t0 t1 (pH 1 d) (nb_H (by decide)), hpart d t d0 d1 t0 t1, (h2 d d0 d1).1]
      simp only [pH_v, true_and]
      rw [if_neg (show ¬ ((0 : Int) = 1 ∧ c = d) by omega)]
      (repeat' split) <;> omega
    · rw [hcn t t0 t1 (pH (2 + e) d) (nb_H (by omega)), hft, (h2 d d0 d1).2 e e0 e1]
      simp only [pH_v]
      rw [if_neg (show ¬ ((1 : Int) = 2 + e ∧ c = d) by omega), if_neg (show ¬ ((0 : Int) = 2 + e ∧ c = d) by omega)]
      split <;> omega
  · rw [ho 44 d (by omega)] at z
    by_cases q : d = c ∧ t = s
    · rw [q.1] at z; exact absurd hf z
    · rw [hp d t d0 d1 t0 t1 q]
      exact hF d t d0 d1 t0 t1 z
theorem ki_bi {μ : Mm} (hK : KI μ) {b s n : Int} (hb : 0 ≤ b ∧ b ≤ 5) (hs : 0 ≤ s ∧ s ≤ 3) (hn : 0 ≤ n) (hp : μ 7 b s < 0) (hpn : μ 7 b s + n ≤ 0) : KI (buyM μ b s n) := by
  have hal := al_bi (μ := μ) (b := b) (n := n) hs
  have hk := ki_held hK hb hs
  obtain ⟨hL, hP, h5, h6⟩ := hK.1
  have hbo : ∀ (g : Nat) (t j : Int), g ≠ 42 ∧ g ≠ 41 ∧ ¬ (g = 38 ∧ j = 28) → al (buyM μ b s n) g t j = al μ g t j := fun g t j q => by rw [hal]; exact bi_o q
  have hbp : ∀ j, al (buyM μ b s n) 42 0 j = if j = 4 * b + s then al μ 42 0 j + n else al μ 42 0 j := fun j => by rw [hal]; exact bi_p j
  have q1 := hbo 38 0 11 (by omega)
  have q2 := fun j => hbo 48 0 j (by omega)
  have q3 := fun j => hbo 49 0 j (by omega)
  have q4 := fun j => hbo 50 0 j (by omega)
  have q5 := fun j => hbo 51 0 j (by omega)
  have q6 := fun j => hbo 52 0 j (by omega)
  have hln := lentF_cg q1 q2 q3 q5
  have e42 := al_42 (μ := μ) (c := b) hs
  refine ki_pos hK hb hs (δ := 0) (fun g j q => hbo g 0 j (by omega)) ⟨Lk_cg hL q1 q2 q3 q4 q5 q6, fun i i0 i1 => ?_, fun c t c0 c1 t0 t1 => ?_, fun l t l0 l1 t0 t1 => ?_⟩ (fun d t d0 d1 t0 t1 q => ?_) ?_ (fun a t => rfl) ?_ (fun t t0 t1 P hP => ?_)
  · rw [hbp]
    have := hP i i0 i1
    split
    · rename_i q; rw [q, e42] at this ⊢; omega
    · exact this
  · rw [hln, hbp]
    have := h5 c t c0 c1 t0 t1
    split
    · rename_i q
      rw [q, e42] at this ⊢
      rw [if_neg (by omega)] at this ⊢
      exact this
    · exact this
  · rw [hln, hbo 45 0 _ (by omega), hbo 46 0 _ (by omega)]
    exact h6 l t l0 l1 t0 t1
  · rw [hbp, if_neg (by omega)]
  · by_cases z : al μ 44 0 b = 0
    · exact z
    · have := hK.2.2.2 b s hb.1 hb.2 hs.1 hs.2 z
      omega
  · rw [hbp, if_pos rfl, e42, if_neg (by omega), if_neg (by omega)]
    rfl
  · rw [cnP_cg (M := buyM μ b s n) (μ := μ) (s := t) (P := P) (n := 3000) (fun _ _ => ⟨rfl, rfl⟩)]
    split
    · split <;> split <;> omega
    · omega
/-! ### Primeborrow.buyIn -/
def cl_X4_buyIn : Cl := (4, 0, fun σ as μ => as = [vR 0 0, vI (iaI as 1), vI (iaI as 2), vI (iaI as 3)] ∧ ((0 ≤ (iaI as 1) ∧ (iaI as 1) ≤ 5) ∧ (0 ≤ (iaI as 2) ∧ (iaI as 2) ≤ 3) ∧ (0 ≤ (iaI as 3) ∧ (iaI as 3) ≤ 500) ∧ (-500 ≤ μ 7 (iaI as 1) (iaI as 2) ∧ μ 7 (iaI as 1) (iaI as 2) ≤ 500)), fun σ as μ ov μ' => ov = none ∧ μ' = buyM μ (iaI as 1) (iaI as 2) (iaI as 3), fun σ as μ k => False)
def cd_X4_buyIn : Cd := mkcd k_X4_buyIn co_X4 fl_X4 [] [] [] [] 4 0 0
set_option maxHeartbeats 4000000 in
set_option maxRecDepth 20000 in
theorem run_X4_buyIn {ER : Option AV → Mm → Prop} {ET : Nat → Mm → Prop} (σ μ : Mm) (b s n : Int) (hM : MR fam0 μ) (h_b : in32 b) (h_s : in32 s) (h_n : in32 n) (hP : (0 ≤ b ∧ b ≤ 5) ∧ (0 ≤ s ∧ s ≤ 3) ∧ (0 ≤ n ∧ n ≤ 500) ∧ (-500 ≤ μ 7 b s ∧ μ 7 b s ≤ 500)) (hER : ∀ ov μ', (ov = none ∧ μ' = buyM μ b s n) → ER ov μ') : Run fam0 none cd_X4_buyIn ER ET 0 0 [some (vR 0 0), some (vI b), some (vI s), some (vI n)] [] μ := by
  refine run_k 39 ?_
  show (0 ≤ b ∧ b < 6) ∧ ((0 ≤ s ∧ s < 4) ∧ ((0 ≤ s ∧ s < 4) ∧ ((0 ≤ b ∧ b < 6) ∧ ((0 ≤ s ∧ s < 4) ∧ ((100 ≠ 0) ∧ ((0 ≤ b ∧ b < 6) ∧ (ER none (st (st (st μ 7 b s (w32 ((μ 7 b s) + n))) 3 0 b (w64 ((μ 3 0 b) - (w64 ((w64 ((w64 ((w64 (n * (μ 1 0 s))) * 105)) + 99)).tdiv 100))))) 0 0 15 (w64 ((μ 0 0 15) + n))))))))))
  rw [show w32 ((μ 7 b s) + n) = (μ 7 b s) + n from w32_id (by simp only [in32]; omega)]
  refine ⟨by omega, ?_⟩
  refine ⟨by omega, ?_⟩
  refine ⟨by omega, ?_⟩
  refine ⟨by omega, ?_⟩
  refine ⟨by omega, ?_⟩
  refine ⟨by decide, ?_⟩
  refine ⟨by omega, ?_⟩
  exact hER _ _ ⟨rfl, rfl⟩
set_option maxRecDepth 20000 in
theorem con_X4_buyIn (l : Launch) (htr : l.stackTraces = false) (σ : Mm) : CON fam0 63 l yX4_buyIn (Cond.code yX4_buyIn cX4_buyIn 4 none :: wm) 0 0 0 (cl_X4_buyIn.2.2.1 σ) (cl_X4_buyIn.2.2.2.1 σ) (cl_X4_buyIn.2.2.2.2 σ) :=
  con_of (cd := cd_X4_buyIn) (own := RX4) (rk := 0) (sc_of htr (by decide) k_X4_buyIn_ok (by decide +kernel) co_X4_ok fl_X4_ok all_nil all_nil all_nil) rfl (by decide +kernel) rfl rfl rfl rfl (fun as μ hs => by rw [hs.1]; exact Nat.le_of_ble_eq_true rfl)
    (fun as μ hs hM hrg => by
      have hs1 := hs.1
      have hmem : ∀ v, v ∈ ([vR 0 0, vI (iaI as 1), vI (iaI as 2), vI (iaI as 3)] : List AV) → rg fam0 v := by rw [← hs1]; exact hrg
      have key := run_X4_buyIn (ER := cl_X4_buyIn.2.2.2.1 σ as μ) (ET := fun k μ' => cl_X4_buyIn.2.2.2.2 σ as μ k ∧ μ' = μ) σ μ (iaI as 1) (iaI as 2) (iaI as 3) hM (hmem (vI (iaI as 1)) (by simp)) (hmem (vI (iaI as 2)) (by simp)) (hmem (vI (iaI as 3)) (by simp)) hs.2 (fun ov μ' h => h)
      have e : entL as 4 = [some (vR 0 0), some (vI (iaI as 1)), some (vI (iaI as 2)), some (vI (iaI as 3))] := by rw [hs1]; rfl
      rw [e]; exact key)
/-- the loop of calling back -/
def cbk (m0 : Mm) (M : Mm) (x s n left : Int) (j : Nat) (N : Mm) : Prop := al M = ap x s (n - left) N ∧ cbL x s j N left = callF m0 x s n ∧ left ≤ lnF N x s j ∧ Wk N ∧ (j : Int) ≤ N 38 0 11
theorem cbk_no {m0 M N : Mm} {x s n left : Int} {j : Nat} (h : cbk m0 M x s n left (j + 1) N) (hl : 0 < left) (hn : ¬ (M 17 0 j = x ∧ M 16 0 j = s ∧ 0 < M 19 0 j)) : cbk m0 M x s n left j N := by
  obtain ⟨h1, h2, h3, h4, h5⟩ := h
  have e16 : M 16 0 j = N 48 0 j := (al_r48 M j).symm.trans (by rw [h1]; exact ap_o _ _ _ _ (by decide))
  have e17 : M 17 0 j = N 49 0 j := (al_r49 M j).symm.trans (by rw [h1]; exact ap_o _ _ _ _ (by decide))
  have e19 : M 19 0 j = N 51 0 j := (al_r51 M j).symm.trans (by rw [h1]; exact ap_o _ _ _ _ (by decide))
  rw [e16, e17, e19] at hn
  rw [cbL, if_pos hl, if_neg hn] at h2
  refine ⟨h1, h2, ?_, h4, by omega⟩
  have hlk := (h4.1.2 j (by omega)).2.2.2.1
  have : lnF N x s (j + 1) = lnF N x s j + lnG N x s j := rfl
  have : lnG N x s j ≤ 0 := by
    unfold lnG; split
    · omega
    · omega
  omega
theorem cbk_st {m0 M N : Mm} {x s n left : Int} {j : Nat} (h : cbk m0 M x s n left (j + 1) N) (hs : 0 ≤ s ∧ s ≤ 3) (hl : 0 < left) (hm : M 17 0 j = x ∧ M 16 0 j = s ∧ 0 < M 19 0 j) {M1 M2 : Mm} {re : Int} (hK2 : KI M2) (h1 : al M1 = backF (al M) j (minI left (M 19 0 j)) s) (h2 : al M2 = (borF (al M1) (M1 18 0 j) s (minI left (M 19 0 j)) x).1) (hre : (borF (al M1) (M1 18 0 j) s (minI left (M 19 0 j)) x).2 = re) :
    (M2 18 0 j = M 18 0 j ∧ 0 ≤ re ∧ re ≤ minI left (M 19 0 j) ∧ (-500 ≤ M2 7 (M2 18 0 j) s ∧ M2 7 (M2 18 0 j) s ≤ -(minI left (M 19 0 j)))) ∧ cbk m0 (buyM M2 (M2 18 0 j) s re) x s n (left - minI left (M 19 0 j)) j (cbS N x s j (minI left (M 19 0 j))) ∧ KI (buyM M2 (M2 18 0 j) s re) := by
  obtain ⟨g1, g2, g3, g4, g5⟩ := h
  have e16 : M 16 0 j = N 48 0 j := (al_r48 M j).symm.trans (by rw [g1]; exact ap_o _ _ _ _ (by decide))
  have e17 : M 17 0 j = N 49 0 j := (al_r49 M j).symm.trans (by rw [g1]; exact ap_o _ _ _ _ (by decide))
  have e18 : M 18 0 j = N 50 0 j := (al_r50 M j).symm.trans (by rw [g1]; exact ap_o _ _ _ _ (by decide))
  have e19 : M 19 0 j = N 51 0 j := (al_r51 M j).symm.trans (by rw [g1]; exact ap_o _ _ _ _ (by decide))
  have hmi := minI_le left (M 19 0 j)
  have hmc : minI left (M 19 0 j) = minI (N 51 0 j) left := by rw [e19]; exact minI_cm _ _
  have hm' : N 49 0 j = x ∧ N 48 0 j = s ∧ 0 < N 51 0 j := by rw [← e16, ← e17, ← e19]; exact hm
  rw [cbL, if_pos hl, if_pos hm', ← hmc] at g2
  obtain ⟨-, z2, z3, z4, z5, z6, z7⟩ := cbS_ok g4 (k := j) (own := minI left (M 19 0 j)) (by omega) (by omega) hm'.1 hm'.2.1 ⟨by omega, by omega⟩
  have hbi := cbS_bi N x s j (minI left (M 19 0 j))
  have hlk := Lk_at g4.1 (x := (j : Int)) (by omega) (by omega)
  generalize minI left (M 19 0 j) = own at *
  rw [g1, ap_back hm'.1] at h1
  have e18' : M1 18 0 j = N 50 0 j := (al_r50 M1 j).symm.trans (by rw [h1, ap_o _ _ _ _ (by decide)]; exact st_o (by decide))
  rw [h1, e18', ap_bor] at h2 hre
  dsimp only at h2 hre
  rw [hre] at z2
  generalize (borF (st N 51 0 j (N 51 0 j - own)) (N 50 0 j) s own x) = r at *
  have f18 : M2 18 0 j = N 50 0 j := (al_r50 M2 j).symm.trans (by rw [h2, ap_o _ _ _ _ (by decide)]; exact z4)
  have f7 : M2 7 (N 50 0 j) s = N 42 0 (4 * N 50 0 j + s) := by
    rw [← al_42 (μ := M2) (c := N 50 0 j) hs, h2, ap_o _ _ _ _ (by decide), z3.1 42 0 _ (by decide)]
    exact st_o (by decide)
  have hp := g4.2.1 (4 * N 50 0 j + s) (by omega) (by omega)
  rw [f18, f7]
  refine ⟨⟨e18.symm, z2.1, z2.2, hp.1, z7⟩, ⟨?_, g2, ?_, z5, ?_⟩, ki_bi hK2 hlk.2.2.1 hs z2.1 (by rw [f7]; omega) (by rw [f7]; omega)⟩
  · rw [al_bi hs, h2, ap_bi, hbi, z4, hre]
    congr 1
    omega
  · have hl2 : lnF N x s (j + 1) = lnF N x s j + lnG N x s j := rfl
    have hlg : lnG N x s j = N 51 0 j := if_pos ⟨hm'.1, hm'.2.1⟩
    have : lnF (cbS N x s j own) x s j = lnF N x s j := by
      refine sm_cg (fun i hi => ?_)
      unfold lnG
      have hb := z3.2.2.2.1 i (by rw [st_o (by decide)]; omega)
      rw [hbi, bi_o (by omega), bi_o (by omega), bi_o (by omega), hb.1, hb.2.1, hb.2.2.2.1, st_o (by decide), st_o (by decide), st_i (by omega)]
    have hnn := lnF_nn g4.1 x s (n := j) (by omega)
    rw [this]
    omega
  · have := z3.2.2.1
    rw [hbi, bi_o (by omega)]
    rw [st_o (by decide)] at this
    omega
/-! ### Primeborrow.callBack -/
def cl_X4_callBack : Cl := (4, 0, fun σ as μ => as = [vR 0 0, vI (iaI as 1), vI (iaI as 2), vI (iaI as 3)] ∧ (KI μ ∧ Wk (al μ) ∧ (0 ≤ (iaI as 2) ∧ (iaI as 2) ≤ 3) ∧ (0 ≤ (iaI as 3) ∧ (iaI as 3) ≤ 500) ∧ (iaI as 3) ≤ lentF (al μ) (iaI as 1) (iaI as 2)), fun σ as μ ov μ' => ov = none ∧ al μ' = ap (iaI as 1) (iaI as 2) (iaI as 3) (callF (al μ) (iaI as 1) (iaI as 2) (iaI as 3)) ∧ KI μ' ∧ Fr μ μ', fun σ as μ k => False)
def cd_X4_callBack : Cd := mkcd k_X4_callBack co_X4 fl_X4 [(289, cl_X4_comeBack), (143, cl_X4_borrow), (292, cl_X4_buyIn)] [(258, cl_J9_min_7cf53)] [] [] 8 0 0
set_option maxHeartbeats 4000000 in
set_option maxRecDepth 20000 in
theorem run_X4_callBack {ER : Option AV → Mm → Prop} {ET : Nat → Mm → Prop} (σ μ : Mm) (x s n : Int) (hM : MR fam0 μ) (h_x : in32 x) (h_s : in32 s) (h_n : in32 n) (hP : KI μ ∧ Wk (al μ) ∧ (0 ≤ s ∧ s ≤ 3) ∧ (0 ≤ n ∧ n ≤ 500) ∧ n ≤ lentF (al μ) x s) (hER : ∀ ov μ', (ov = none ∧ al μ' = ap x s n (callF (al μ) x s n) ∧ KI μ' ∧ Fr μ μ') → ER ov μ') : Run fam0 none cd_X4_callBack ER ET 0 0 [some (vR 0 0), some (vI x), some (vI s), some (vI n), none, none, none, none] [] μ := by
  obtain ⟨hK0, hW0, hs, hn, hln⟩ := hP
  have hl0 : 0 ≤ μ 15 0 5 ∧ μ 15 0 5 ≤ 1000 := hK0.1.1.1
  refine run_k 8 ?_
  show Run fam0 none cd_X4_callBack ER ET 14 0 [some (vR 0 0), some (vI x), some (vI s), some (vI n), some (vI n), some (vI (w32 ((μ 15 0 5) - 1))), none, none] [] μ
  rw [show w32 ((μ 15 0 5) - 1) = (μ 15 0 5) - 1 from w32_id (by simp only [in32]; omega)]
  have lp14 : ∀ (fz : Nat) (j : Nat) (M N : Mm) (left i : Int), j < fz → (i = (j : Int) - 1 ∧ (0 ≤ left ∧ left ≤ n) ∧ cbk (al μ) M x s n left j N ∧ KI M ∧ Fr μ M) → Run fam0 none cd_X4_callBack ER ET 14 0 [some (vR 0 0), some (vI x), some (vI s), some (vI n), some (vI left), some (vI i), none, none] [] M := by
    intro fz
    induction fz with
    | zero => intro j M N left i hf; omega
    | succ fz ih14 =>
      intro j M N left i hf hI
      obtain ⟨hi, hlf, hcb, hK, hFr⟩ := hI
      refine run_k 2 ?_
      show (i < 0 → Run fam0 none cd_X4_callBack ER ET 143 0 [some (vR 0 0), some (vI x), some (vI s), some (vI n), some (vI left), some (vI i), none, none] [] M) ∧ (0 ≤ i → Run fam0 none cd_X4_callBack ER ET 19 0 [some (vR 0 0), some (vI x), some (vI s), some (vI n), some (vI left), some (vI i), none, none] [] M)
      refine ⟨fun c2 => ?_, fun c2 => ?_⟩
      · refine run_k 1 ?_
        show ER none M
        have hl9 : left = 0 := by
          have h3 := hcb.2.2.1
          by_cases q : 0 < left
          · have : lnF N x s j ≤ 0 := by
              rw [show j = 0 by omega]; exact Int.le_refl 0
            omega
          · omega
        subst hl9
        have h2 := hcb.2.1
        rw [cbL_0 (by omega)] at h2
        exact hER _ _ ⟨rfl, by rw [hcb.1, h2, Int.sub_zero], hK, hFr⟩
      · refine run_k 2 ?_
        show (left ≤ 0 → Run fam0 none cd_X4_callBack ER ET 143 0 [some (vR 0 0), some (vI x), some (vI s), some (vI n), some (vI left), some (vI i), none, none] [] M) ∧ (0 < left → Run fam0 none cd_X4_callBack ER ET 24 0 [some (vR 0 0), some (vI x), some (vI s), some (vI n), some (vI left), some (vI i), none, none] [] M)
        refine ⟨fun c4 => ?_, fun c4 => ?_⟩
        · refine run_k 1 ?_
          show ER none M
          have hl9 : left = 0 := by
            have h3 := hcb.2.2.1
            by_cases q : 0 < left
            · have : lnF N x s j ≤ 0 := by
                rw [show j = 0 by omega]; exact Int.le_refl 0
              omega
            · omega
          subst hl9
          have h2 := hcb.2.1
          rw [cbL_0 (by omega)] at h2
          exact hER _ _ ⟨rfl, by rw [hcb.1, h2, Int.sub_zero], hK, hFr⟩
        · obtain ⟨j', hj'⟩ : ∃ j', j = j' + 1 := ⟨j - 1, by omega⟩
          subst hj'
          have hij : i = (j' : Int) := by omega
          have hml : M 15 0 5 = N 38 0 11 := (al_n11 M).symm.trans (by rw [hcb.1]; exact ap_o _ _ _ _ (by decide))
          have hjl := hcb.2.2.2.2
          have hlM : M 15 0 5 ≤ 1000 := hK.1.1.1.2
          have hlk : (0 ≤ M 16 0 i ∧ M 16 0 i ≤ 3) ∧ ((0 ≤ M 17 0 i ∧ M 17 0 i ≤ 5) ∨ (10 ≤ M 17 0 i ∧ M 17 0 i ≤ 13)) ∧ (0 ≤ M 18 0 i ∧ M 18 0 i ≤ 5) ∧ (0 ≤ M 19 0 i ∧ M 19 0 i ≤ 500) ∧ (0 ≤ M 20 0 i ∧ M 20 0 i ≤ 10000) := Lk_at hK.1.1 (by omega) (show i < M 15 0 5 by omega)
          refine run_k 7 ?_
          show (0 ≤ i ∧ i < 1000) ∧ (((M 17 0 i) ≠ x → Run fam0 none cd_X4_callBack ER ET 137 0 [some (vR 0 0), some (vI x), some (vI s), some (vI n), some (vI left), some (vI i), none, none] [] M) ∧ ((M 17 0 i) = x → Run fam0 none cd_X4_callBack ER ET 38 0 [some (vR 0 0), some (vI x), some (vI s), some (vI n), some (vI left), some (vI i), none, none] [] M))
          refine ⟨by omega, ?_⟩
          refine ⟨fun c6 => ?_, fun c6 => ?_⟩
          · refine run_k 2 ?_
            show Run fam0 none cd_X4_callBack ER ET 14 0 [some (vR 0 0), some (vI x), some (vI s), some (vI n), some (vI left), some (vI (w32 (i + (-1)))), none, none] [] M
            rw [show w32 (i + (-1)) = i + (-1) from w32_id (by simp only [in32]; omega)]
            exact ih14 j' M N left (i + (-1)) (by omega) (⟨by omega, by omega, cbk_no hcb (by omega) (by rw [← hij]; omega), hK, hFr⟩)
          · refine run_k 7 ?_
            show (0 ≤ i ∧ i < 1000) ∧ (((M 16 0 i) ≠ s → Run fam0 none cd_X4_callBack ER ET 137 0 [some (vR 0 0), some (vI x), some (vI s), some (vI n), some (vI left), some (vI i), none, none] [] M) ∧ ((M 16 0 i) = s → Run fam0 none cd_X4_callBack ER ET 52 0 [some (vR 0 0), some (vI x), some (vI s), some (vI n), some (vI left), some (vI i), none, none] [] M))
            refine ⟨by omega, ?_⟩
            refine ⟨fun c8 => ?_, fun c8 => ?_⟩
            · refine run_k 2 ?_
              show Run fam0 none cd_X4_callBack ER ET 14 0 [some (vR 0 0), some (vI x), some (vI s), some (vI n), some (vI left), some (vI (w32 (i + (-1)))), none, none] [] M
              rw [show w32 (i + (-1)) = i + (-1) from w32_id (by simp only [in32]; omega)]
              exact ih14 j' M N left (i + (-1)) (by omega) (⟨by omega, by omega, cbk_no hcb (by omega) (by rw [← hij]; omega), hK, hFr⟩)
            · refine run_k 6 ?_
              show (0 ≤ i ∧ i < 1000) ∧ (((M 19 0 i) ≤ 0 → Run fam0 none cd_X4_callBack ER ET 137 0 [some (vR 0 0), some (vI x), some (vI s), some (vI n), some (vI left), some (vI i), none, none] [] M) ∧ (0 < (M 19 0 i) → Run fam0 none cd_X4_callBack ER ET 65 0 [some (vR 0 0), some (vI x), some (vI s), some (vI n), some (vI left), some (vI i), none, none] [] M))
              refine ⟨by omega, ?_⟩
              refine ⟨fun c10 => ?_, fun c10 => ?_⟩
              · refine run_k 2 ?_
                show Run fam0 none cd_X4_callBack ER ET 14 0 [some (vR 0 0), some (vI x), some (vI s), some (vI n), some (vI left), some (vI (w32 (i + (-1)))), none, none] [] M
                rw [show w32 (i + (-1)) = i + (-1) from w32_id (by simp only [in32]; omega)]
                exact ih14 j' M N left (i + (-1)) (by omega) (⟨by omega, by omega, cbk_no hcb (by omega) (by rw [← hij]; omega), hK, hFr⟩)
              · have hmi := minI_le left (M 19 0 i)
                refine run_k 7 ?_
                show (0 ≤ i ∧ i < 1000) ∧ (∃ σ : Mm, cl_J9_min_7cf53.2.2.1 σ [vI left, vI (M 19 0 i)] M ∧ (∀ ov μ', cl_J9_min_7cf53.2.2.2.1 σ [vI left, vI (M 19 0 i)] M ov μ' → Run fam0 none cd_X4_callBack ER ET 80 0 [some (vR 0 0), some (vI x), some (vI s), some (vI n), some (vI left), some (vI i), none, none] (ov.toList ++ []) μ') ∧ ∀ kx, cl_J9_min_7cf53.2.2.2.2 σ [vI left, vI (M 19 0 i)] M kx → thr cd_X4_callBack ET (Run fam0 none cd_X4_callBack ER ET) 77 0 [some (vR 0 0), some (vI x), some (vI s), some (vI n), some (vI left), some (vI i), none, none] M kx)
                refine ⟨by omega, ?_⟩
                refine ⟨μ, ⟨rfl, show True from True.intro⟩, fun ov μ' hq => ?_, fun k hk => hk.elim⟩
                obtain ⟨hov, hmu⟩ : ov = some (vI (minI left (M 19 0 i))) ∧ μ' = M := hq
                rw [hov, hmu]
                show Run fam0 none cd_X4_callBack ER ET 80 0 [some (vR 0 0), some (vI x), some (vI s), some (vI n), some (vI left), some (vI i), none, none] [vI (minI left (M 19 0 i))] M
                refine run_k 5 ?_
                show ∃ σ : Mm, cl_X4_comeBack.2.2.1 σ [vR 0 0, vI i, vI (minI left (M 19 0 i))] M ∧ (∀ ov μ', cl_X4_comeBack.2.2.2.1 σ [vR 0 0, vI i, vI (minI left (M 19 0 i))] M ov μ' → Run fam0 none cd_X4_callBack ER ET 90 0 [some (vR 0 0), some (vI x), some (vI s), some (vI n), some (vI left), some (vI i), some (vI (minI left (M 19 0 i))), none] (ov.toList ++ []) μ') ∧ ∀ kx, cl_X4_comeBack.2.2.2.2 σ [vR 0 0, vI i, vI (minI left (M 19 0 i))] M kx → thr cd_X4_callBack ET (Run fam0 none cd_X4_callBack ER ET) 87 0 [some (vR 0 0), some (vI x), some (vI s), some (vI n), some (vI left), some (vI i), some (vI (minI left (M 19 0 i))), none] M kx
                refine ⟨μ, ⟨rfl, show KI M ∧ (0 ≤ i ∧ i < M 15 0 5) ∧ (0 ≤ (minI left (M 19 0 i)) ∧ (minI left (M 19 0 i)) ≤ M 19 0 i) from ⟨by assumption, by omega, by omega⟩⟩, fun ov μ' hq => ?_, fun k hk => hk.elim⟩
                obtain ⟨hov, halC, hKC, hFC⟩ : ov = none ∧ al μ' = backF (al M) i (minI left (M 19 0 i)) (M 16 0 i) ∧ KI μ' ∧ Fr M μ' := hq
                rw [hov]
                clear hov
                rename Mm => M1
                show Run fam0 none cd_X4_callBack ER ET 90 0 [some (vR 0 0), some (vI x), some (vI s), some (vI n), some (vI left), some (vI i), some (vI (minI left (M 19 0 i))), none] [] M1
                have e16 : M 16 0 i = s := by omega
                rw [e16] at halC
                have hb18 : M1 18 0 i = M 18 0 i := (al_r50 M1 i).symm.trans (by rw [halC]; exact backF_o _ _ _ _ (by decide))
                refine run_k 10 ?_
                show (0 ≤ i ∧ i < 1000) ∧ (∃ σ : Mm, cl_X4_borrow.2.2.1 σ [vR 0 0, vI s, vI (M1 18 0 i), vI x, vI (minI left (M 19 0 i))] M1 ∧ (∀ ov μ', cl_X4_borrow.2.2.2.1 σ [vR 0 0, vI s, vI (M1 18 0 i), vI x, vI (minI left (M 19 0 i))] M1 ov μ' → Run fam0 none cd_X4_callBack ER ET 108 0 [some (vR 0 0), some (vI x), some (vI s), some (vI n), some (vI left), some (vI i), some (vI (minI left (M 19 0 i))), none] (ov.toList ++ []) μ') ∧ ∀ kx, cl_X4_borrow.2.2.2.2 σ [vR 0 0, vI s, vI (M1 18 0 i), vI x, vI (minI left (M 19 0 i))] M1 kx → thr cd_X4_callBack ET (Run fam0 none cd_X4_callBack ER ET) 105 0 [some (vR 0 0), some (vI x), some (vI s), some (vI n), some (vI left), some (vI i), some (vI (minI left (M 19 0 i))), none] M1 kx)
                refine ⟨by omega, ?_⟩
                refine ⟨μ, ⟨rfl, show KI M1 ∧ (0 ≤ s ∧ s ≤ 3) ∧ (0 ≤ (M1 18 0 i) ∧ (M1 18 0 i) ≤ 5) ∧ (0 ≤ (minI left (M 19 0 i)) ∧ (minI left (M 19 0 i)) ≤ 500) from ⟨by assumption, by omega, by omega, by omega⟩⟩, fun ov μ' hq => ?_, fun k hk => hk.elim⟩
                obtain ⟨hov, halB, hKB, hFB⟩ : ov = some (vI ((minI left (M 19 0 i)) - (borF (al M1) (M1 18 0 i) s (minI left (M 19 0 i)) x).2)) ∧ al μ' = (borF (al M1) (M1 18 0 i) s (minI left (M 19 0 i)) x).1 ∧ KI μ' ∧ Fr M1 μ' := hq
                rw [hov]
                clear hov
                rename Mm => M14
                generalize hre : (borF (al M1) (M1 18 0 i) s (minI left (M 19 0 i)) x).2 = re
                show Run fam0 none cd_X4_callBack ER ET 108 0 [some (vR 0 0), some (vI x), some (vI s), some (vI n), some (vI left), some (vI i), some (vI (minI left (M 19 0 i))), none] [vI ((minI left (M 19 0 i)) - re)] M14
                have hcs := cbk_st (M1 := M1) (re := re) hcb hs (by omega) (by rw [← hij]; omega) hKB (by rw [← hij]; exact halC) (by rw [← hij]; exact halB) (by rw [← hij]; exact hre)
                rw [← hij] at hcs
                have hcs1 := hcs.1
                have hmre : (minI left (M 19 0 i)) - ((minI left (M 19 0 i)) - re) = re := by omega
                refine run_k 12 ?_
                show (0 ≤ i ∧ i < 1000) ∧ (∃ σ : Mm, cl_X4_buyIn.2.2.1 σ [vR 0 0, vI (M14 18 0 i), vI s, vI (w32 ((minI left (M 19 0 i)) - ((minI left (M 19 0 i)) - re)))] M14 ∧ (∀ ov μ', cl_X4_buyIn.2.2.2.1 σ [vR 0 0, vI (M14 18 0 i), vI s, vI (w32 ((minI left (M 19 0 i)) - ((minI left (M 19 0 i)) - re)))] M14 ov μ' → Run fam0 none cd_X4_callBack ER ET 130 0 [some (vR 0 0), some (vI x), some (vI s), some (vI n), some (vI left), some (vI i), some (vI (minI left (M 19 0 i))), some (vI ((minI left (M 19 0 i)) - re))] (ov.toList ++ []) μ') ∧ ∀ kx, cl_X4_buyIn.2.2.2.2 σ [vR 0 0, vI (M14 18 0 i), vI s, vI (w32 ((minI left (M 19 0 i)) - ((minI left (M 19 0 i)) - re)))] M14 kx → thr cd_X4_callBack ET (Run fam0 none cd_X4_callBack ER ET) 127 0 [some (vR 0 0), some (vI x), some (vI s), some (vI n), some (vI left), some (vI i), some (vI (minI left (M 19 0 i))), some (vI ((minI left (M 19 0 i)) - re))] M14 kx)
                rw [show w32 ((minI left (M 19 0 i)) - ((minI left (M 19 0 i)) - re)) = (minI left (M 19 0 i)) - ((minI left (M 19 0 i)) - re) from w32_id (by simp only [in32]; omega)]
                refine ⟨by omega, ?_⟩
                refine ⟨μ, ⟨rfl, show (0 ≤ (M14 18 0 i) ∧ (M14 18 0 i) ≤ 5) ∧ (0 ≤ s ∧ s ≤ 3) ∧ (0 ≤ (((minI left (M 19 0 i)) - ((minI left (M 19 0 i)) - re))) ∧ (((minI left (M 19 0 i)) - ((minI left (M 19 0 i)) - re))) ≤ 500) ∧ (-500 ≤ M14 7 (M14 18 0 i) s ∧ M14 7 (M14 18 0 i) s ≤ 500) from ⟨by omega, by omega, by omega, by omega⟩⟩, fun ov μ' hq => ?_, fun k hk => hk.elim⟩
                obtain ⟨hov, hmu⟩ : ov = none ∧ μ' = buyM M14 (M14 18 0 i) s ((minI left (M 19 0 i)) - ((minI left (M 19 0 i)) - re)) := hq
                rw [hov, hmu]
                show Run fam0 none cd_X4_callBack ER ET 130 0 [some (vR 0 0), some (vI x), some (vI s), some (vI n), some (vI left), some (vI i), some (vI (minI left (M 19 0 i))), some (vI ((minI left (M 19 0 i)) - re))] [] (buyM M14 (M14 18 0 i) s ((minI left (M 19 0 i)) - ((minI left (M 19 0 i)) - re)))
                refine run_k 6 ?_
                show Run fam0 none cd_X4_callBack ER ET 14 0 [some (vR 0 0), some (vI x), some (vI s), some (vI n), some (vI (w32 (left - (minI left (M 19 0 i))))), some (vI (w32 (i + (-1)))), some (vI (minI left (M 19 0 i))), some (vI ((minI left (M 19 0 i)) - re))] [] (buyM M14 (M14 18 0 i) s ((minI left (M 19 0 i)) - ((minI left (M 19 0 i)) - re)))
                rw [show w32 (left - (minI left (M 19 0 i))) = left - (minI left (M 19 0 i)) from w32_id (by simp only [in32]; omega)]
                rw [show w32 (i + (-1)) = i + (-1) from w32_id (by simp only [in32]; omega)]
                refine run_w (L' := [some (vR 0 0), some (vI x), some (vI s), some (vI n), some (vI (left - (minI left (M 19 0 i)))), some (vI (i + (-1))), none, none]) ⟨rfl, rfl, rfl, rfl, rfl, rfl, True.intro⟩ ?_
                exact ih14 j' (buyM M14 (M14 18 0 i) s ((minI left (M 19 0 i)) - ((minI left (M 19 0 i)) - re))) (cbS N x s i (minI left (M 19 0 i))) (left - (minI left (M 19 0 i))) (i + (-1)) (by omega) (⟨by omega, by omega, by rw [hmre, hij]; rw [hij] at hcs; exact hcs.2.1, by rw [hmre]; exact hcs.2.2, by rw [hmre]; exact Fr_buyM (Fr_tr (Fr_tr hFr hFC) hFB) _ _ _⟩)
  exact lp14 _ (μ 15 0 5).toNat μ (al μ) n ((μ 15 0 5) - 1) (Nat.lt_succ_self _) (⟨by omega, by omega, ⟨by rw [Int.sub_self, ap_0], rfl, hln, hW0, by rw [al_n11]; omega⟩, hK0, Fr_rf _⟩)
theorem vw_X4_292 : ∀ w ∈ ([.methodLink RX4 292 yX4_buyIn, .instanceMethod yX4_buyIn, .selects RX4 yX4_buyIn yX4_buyIn, .initialized RX4, .code yX4_buyIn cX4_buyIn 4 none] : List Cond), w ∈ wm := wm_ps _ [488, 490, 15, 50, 491] (by decide +kernel)
theorem vw_X4_143 : ∀ w ∈ ([.methodLink RX4 143 yX4_borrow, .instanceMethod yX4_borrow, .selects RX4 yX4_borrow yX4_borrow, .initialized RX4, .code yX4_borrow cX4_borrow 9 (some .int)] : List Cond), w ∈ wm := wm_ps _ [457, 459, 9, 50, 460] (by decide +kernel)
set_option maxRecDepth 20000 in
theorem con_X4_callBack (l : Launch) (htr : l.stackTraces = false) (σ : Mm) : CON fam0 63 l yX4_callBack (Cond.code yX4_callBack cX4_callBack 8 none :: wm) 3 79 0 (cl_X4_callBack.2.2.1 σ) (cl_X4_callBack.2.2.2.1 σ) (cl_X4_callBack.2.2.2.2 σ) :=
  con_of (cd := cd_X4_callBack) (own := RX4) (rk := 0) (sc_of htr (by decide) k_X4_callBack_ok (by decide +kernel) co_X4_ok fl_X4_ok (all_cons ⟨RX4, yX4_comeBack, cX4_comeBack, 5, none, 1, 27, 2, con_X4_comeBack l htr, rfl, vw_X4_289, ⟨rfl, by decide, by decide, by decide +kernel⟩, ⟨by decide, by decide⟩, fun σ as μ h => ⟨0, 0, _, h.1, rfl, TX4, 17, rfl⟩⟩ (all_cons ⟨RX4, yX4_borrow, cX4_borrow, 9, (some .int), 2, 51, 4, con_X4_borrow l htr, rfl, vw_X4_143, ⟨rfl, by decide, by decide, by decide +kernel⟩, ⟨by decide, by decide⟩, fun σ as μ h => ⟨0, 0, _, h.1, rfl, TX4, 17, rfl⟩⟩ (all_cons ⟨RX4, yX4_buyIn, cX4_buyIn, 4, none, 0, 0, 3, con_X4_buyIn l htr, rfl, vw_X4_292, ⟨rfl, by decide, by decide, by decide +kernel⟩, ⟨by decide, by decide⟩, fun σ as μ h => ⟨0, 0, _, h.1, rfl, TX4, 17, rfl⟩⟩ all_nil))) (all_cons ⟨yJ9_min_7cf53, cJ9_min_7cf53, 2, (some .int), 0, 0, con_J9_min_7cf53 l htr, vw_X4_258, ⟨by decide, by decide, by decide +kernel⟩, ⟨by decide, by decide⟩⟩ all_nil) all_nil) rfl (by decide +kernel) rfl rfl rfl rfl (fun as μ hs => by rw [hs.1]; exact Nat.le_of_ble_eq_true rfl)
    (fun as μ hs hM hrg => by
      have hs1 := hs.1
      have hmem : ∀ v, v ∈ ([vR 0 0, vI (iaI as 1), vI (iaI as 2), vI (iaI as 3)] : List AV) → rg fam0 v := by rw [← hs1]; exact hrg
      have key := run_X4_callBack (ER := cl_X4_callBack.2.2.2.1 σ as μ) (ET := fun k μ' => cl_X4_callBack.2.2.2.2 σ as μ k ∧ μ' = μ) σ μ (iaI as 1) (iaI as 2) (iaI as 3) hM (hmem (vI (iaI as 1)) (by simp)) (hmem (vI (iaI as 2)) (by simp)) (hmem (vI (iaI as 3)) (by simp)) hs.2 (fun ov μ' h => h)
      have e : entL as 8 = [some (vR 0 0), some (vI (iaI as 1)), some (vI (iaI as 2)), some (vI (iaI as 3)), none, none, none, none] := by rw [hs1]; rfl
      rw [e]; exact key)
