/-! ===== ranges; what a loan made changes ===== -/
def Gk (μ : Mm) : Prop := ∀ i : Int, 0 ≤ i → i ≤ 15 → (0 ≤ μ 45 0 i ∧ μ 45 0 i ≤ 1000000) ∧ 0 ≤ μ 46 0 i ∧ μ 46 0 i ≤ 10000
theorem minI_le (a b : Int) : minI a b ≤ a ∧ minI a b ≤ b ∧ (minI a b = a ∨ minI a b = b) := by
  unfold minI; split <;> omega
theorem cmpL_n {x y : Int} : cmpL x y < 0 ↔ x < y := by
  unfold cmpL; split
  · omega
  · split <;> omega
theorem cmpL_p {x y : Int} : 0 < cmpL x y ↔ y < x := by
  unfold cmpL; split
  · omega
  · split <;> omega
theorem partF_rng {μ : Mm} (h : Lk μ) (hp : Pk μ) {c s : Int} (hc : 0 ≤ c ∧ c ≤ 5) (hs : 0 ≤ s ∧ s ≤ 3) : -500000 ≤ partF μ c s ∧ partF μ c s ≤ 500 := by
  have h1 := hp (4 * c + s) (by omega) (by omega)
  have h2 := lentF_rng h c s
  unfold partF
  split <;> omega
theorem hasF_rng {μ : Mm} (h : Lk μ) (hp : Pk μ) (hg : Gk μ) {x s : Int} (hx : (0 ≤ x ∧ x ≤ 5) ∨ (10 ≤ x ∧ x ≤ 13)) (hs : 0 ≤ s ∧ s ≤ 3) (b w : Int) : -500000 ≤ hasF μ x b s w ∧ hasF μ x b s w ≤ 1000000 ∧ (10 ≤ x → hasF μ x b s w ≤ μ 45 0 (4 * (x - 10) + s)) := by
  unfold hasF
  split
  · refine ⟨by omega, by omega, fun q => ?_⟩
    have := hg (4 * (x - 10) + s) (by omega) (by omega)
    omega
  · split
    · have := hg (4 * (x - 10) + s) (by omega) (by omega)
      omega
    · split
      · have := partF_rng h hp (c := x) (by omega) hs
        omega
      · omega
theorem hd_cons {μ : Mm} {s x : Int} {l : List Int} (hx : x = hdL l) (h : x ≠ -1) : ∃ l', l = x :: l' := by
  cases l with
  | nil => exact absurd hx h
  | cons y l' => exact ⟨l', by rw [hx]; rfl⟩
theorem hd_nil {μ : Mm} {s x : Int} {l : List Int} (hp : ∃ pre, srcs μ s = pre ++ l) (hx : x = hdL l) (h : x = -1) : l = [] := by
  obtain ⟨pre, hp⟩ := hp
  cases l with
  | nil => rfl
  | cons y l' =>
    have := (beh_next hp).2
    have e : x = y := hx
    omega
theorem srcs_len (μ : Mm) (s : Int) : (srcs μ s).length = 10 := by
  obtain ⟨a, b, c, d, h0, _⟩ := ord4 μ s
  unfold srcs
  rw [h0]
  rfl
theorem mkLn_o (M : Mm) (s x b own : Int) {g : Nat} {t j : Int} (h : g ≠ 48 ∧ g ≠ 49 ∧ g ≠ 50 ∧ g ≠ 51 ∧ g ≠ 52 ∧ g ≠ 45 ∧ g ≠ 38) : mkLn M s x b own g t j = M g t j := by
  unfold mkLn
  split <;> simp [st, h]
theorem mkLn_n (M : Mm) (s x b own : Int) : mkLn M s x b own 38 0 11 = M 38 0 11 + 1 := by
  unfold mkLn
  split <;> simp [st]
theorem mkLn_n' (M : Mm) (s x b own : Int) {j : Int} (h : j ≠ 11) : mkLn M s x b own 38 0 j = M 38 0 j := by
  unfold mkLn
  split <;> simp [st, h]
theorem mkLn_1 (M : Mm) (s x b own : Int) (j : Int) : mkLn M s x b own 48 0 j = if j = M 38 0 11 then s else M 48 0 j := by
  unfold mkLn
  split <;> simp [st]
theorem mkLn_2 (M : Mm) (s x b own : Int) (j : Int) : mkLn M s x b own 49 0 j = if j = M 38 0 11 then x else M 49 0 j := by
  unfold mkLn
  split <;> simp [st]
theorem mkLn_3 (M : Mm) (s x b own : Int) (j : Int) : mkLn M s x b own 50 0 j = if j = M 38 0 11 then b else M 50 0 j := by
  unfold mkLn
  split <;> simp [st]
theorem mkLn_4 (M : Mm) (s x b own : Int) (j : Int) : mkLn M s x b own 51 0 j = if j = M 38 0 11 then own else M 51 0 j := by
  unfold mkLn
  split <;> simp [st]
theorem mkLn_5 (M : Mm) (s x b own : Int) (j : Int) : mkLn M s x b own 52 0 j = if j = M 38 0 11 then (if x < 10 then 0 else M 46 0 (4 * (x - 10) + s)) else M 52 0 j := by
  unfold mkLn
  split <;> simp [st]
theorem mkLn_6 (M : Mm) (s x b own : Int) (j : Int) : mkLn M s x b own 45 0 j = if 10 ≤ x ∧ j = 4 * (x - 10) + s then M 45 0 j - own else M 45 0 j := by
  unfold mkLn
  by_cases c : x < 10
  · rw [if_neg (fun q : 10 ≤ x ∧ j = 4 * (x - 10) + s => absurd q.1 (by omega))]
    simp [st, c]
  · by_cases d : j = 4 * (x - 10) + s
    · rw [if_pos (show 10 ≤ x ∧ j = 4 * (x - 10) + s from ⟨by omega, d⟩), d]
      simp [st, c]
    · rw [if_neg (fun q : 10 ≤ x ∧ j = 4 * (x - 10) + s => d q.2)]
      simp [st, c, d]
theorem mkLn_ok {M : Mm} (hL : Lk M) (hG : Gk M) (hm : M 38 0 11 < 1000) {s x b own : Int} (hx : (0 ≤ x ∧ x ≤ 5) ∨ (10 ≤ x ∧ x ≤ 13)) (hb : 0 ≤ b ∧ b ≤ 5) (hs : 0 ≤ s ∧ s ≤ 3) (ho : 0 < own ∧ own ≤ 500) (hp : 10 ≤ x → own ≤ M 45 0 (4 * (x - 10) + s)) : Lk (mkLn M s x b own) ∧ Gk (mkLn M s x b own) := by
  have hl0 := hL.1
  refine ⟨⟨by rw [mkLn_n]; omega, fun k hk => ?_⟩, fun i h0 h1 => ?_⟩
  · rw [mkLn_n] at hk
    rw [mkLn_1, mkLn_2, mkLn_3, mkLn_4, mkLn_5]
    by_cases c : (k : Int) = M 38 0 11
    · rw [if_pos c, if_pos c, if_pos c, if_pos c, if_pos c]
      refine ⟨hs, hx, hb, by omega, ?_⟩
      split
      · omega
      · exact (hG _ (by omega) (by omega)).2
    · rw [if_neg c, if_neg c, if_neg c, if_neg c, if_neg c]
      exact hL.2 k (by omega)
  · rw [mkLn_6, mkLn_o M s x b own (by decide)]
    have h2 := hG i h0 h1
    split
    · rename_i c
      obtain ⟨c1, c2⟩ := c
      have := hp c1
      rw [← c2] at this
      omega
    · exact h2
theorem mkLn_srcs (M : Mm) (s x b own t : Int) : srcs (mkLn M s x b own) t = srcs M t := by
  unfold srcs
  have : feeF (mkLn M s x b own) t = feeF M t := by
    funext l
    exact mkLn_o M s x b own (by decide)
  rw [this]
theorem mkLn_Pk {M : Mm} (h : Pk M) (s x b own : Int) : Pk (mkLn M s x b own) := fun i h0 h1 => by
  rw [mkLn_o M s x b own (by decide)]
  exact h i h0 h1

/-! ### PrimeborrowModel.worth -/
def cl_X5_worth : Cl := (3, 0, fun σ as μ => as = [vR 38 0, vI (iaI as 1), vI (iaI as 2)] ∧ ((0 ≤ (iaI as 1) ∧ (iaI as 1) ≤ 5) ∧ (0 ≤ (iaI as 2) ∧ (iaI as 2) ≤ 3)), fun σ as μ ov μ' => ov = some (vL (worthF μ (iaI as 1) (iaI as 2))) ∧ μ' = μ, fun σ as μ k => False)
def cd_X5_worth : Cd := mkcd k_X5_worth co_X5 fl_X5 [] [] [] [] 5 2 0
set_option maxHeartbeats 4000000 in
set_option maxRecDepth 20000 in
theorem run_X5_worth {ER : Option AV → Mm → Prop} {ET : Nat → Mm → Prop} (σ μ : Mm) (c s : Int) (hM : MR fam0 μ) (h_c : in32 c) (h_s : in32 s) (hP : (0 ≤ c ∧ c ≤ 5) ∧ (0 ≤ s ∧ s ≤ 3)) (hER : ∀ ov μ', (ov = some (vL (worthF μ c s)) ∧ μ' = μ) → ER ov μ') : Run fam0 none cd_X5_worth ER ET 0 0 [some (vR 38 0), some (vI c), some (vI s), none, none] [] μ := by
  refine run_k 20 ?_
  show (0 ≤ (w32 ((w32 (4 * c)) + s)) ∧ (w32 ((w32 (4 * c)) + s)) < 24) ∧ ((0 ≤ s ∧ s < 4) ∧ ((0 ≤ (cmpL (w64 ((μ 42 0 (w32 ((w32 (4 * c)) + s))) * (μ 39 0 s))) 0) → Run fam0 none cd_X5_worth ER ET 31 0 [some (vR 38 0), some (vI c), some (vI s), some (vL (w64 ((μ 42 0 (w32 ((w32 (4 * c)) + s))) * (μ 39 0 s)))), none] [] μ) ∧ ((cmpL (w64 ((μ 42 0 (w32 ((w32 (4 * c)) + s))) * (μ 39 0 s))) 0) < 0 → Run fam0 none cd_X5_worth ER ET 26 0 [some (vR 38 0), some (vI c), some (vI s), some (vL (w64 ((μ 42 0 (w32 ((w32 (4 * c)) + s))) * (μ 39 0 s)))), none] [] μ)))
  rw [show w32 (4 * c) = 4 * c from w32_id (by simp only [in32]; omega)]
  rw [show w32 ((4 * c) + s) = (4 * c) + s from w32_id (by simp only [in32]; omega)]
  refine ⟨by omega, ?_⟩
  refine ⟨by omega, ?_⟩
  refine ⟨fun c1 => ?_, fun c1 => ?_⟩
  · refine run_k 2 ?_
    show ER (some (vL (w64 ((μ 42 0 ((4 * c) + s)) * (μ 39 0 s))))) μ
    exact hER _ _ ⟨by unfold worthF; first | rw [if_pos (cmpL_n.mp (by omega))] | rw [if_neg (fun q => absurd (cmpL_n.mpr q) (by omega))], rfl⟩
  · refine run_k 4 ?_
    show ER (some (vL (w64 (-(w64 ((μ 42 0 ((4 * c) + s)) * (μ 39 0 s))))))) μ
    exact hER _ _ ⟨by unfold worthF; first | rw [if_pos (cmpL_n.mp (by omega))] | rw [if_neg (fun q => absurd (cmpL_n.mpr q) (by omega))], rfl⟩
set_option maxRecDepth 20000 in
theorem con_X5_worth (l : Launch) (htr : l.stackTraces = false) (σ : Mm) : CON fam0 63 l yX5_worth (Cond.code yX5_worth cX5_worth 5 (some .long) :: wm) 0 0 0 (cl_X5_worth.2.2.1 σ) (cl_X5_worth.2.2.2.1 σ) (cl_X5_worth.2.2.2.2 σ) :=
  con_of (cd := cd_X5_worth) (own := RX5) (rk := 2) (sc_of htr (by decide) k_X5_worth_ok (by decide +kernel) co_X5_ok fl_X5_ok all_nil all_nil all_nil) rfl (by decide +kernel) rfl rfl rfl rfl (fun as μ hs => by rw [hs.1]; exact Nat.le_of_ble_eq_true rfl)
    (fun as μ hs hM hrg => by
      have hs1 := hs.1
      have hmem : ∀ v, v ∈ ([vR 38 0, vI (iaI as 1), vI (iaI as 2)] : List AV) → rg fam0 v := by rw [← hs1]; exact hrg
      have key := run_X5_worth (ER := cl_X5_worth.2.2.2.1 σ as μ) (ET := fun k μ' => cl_X5_worth.2.2.2.2 σ as μ k ∧ μ' = μ) σ μ (iaI as 1) (iaI as 2) hM (hmem (vI (iaI as 1)) (by simp)) (hmem (vI (iaI as 2)) (by simp)) hs.2 (fun ov μ' h => h)
      have e : entL as 5 = [some (vR 38 0), some (vI (iaI as 1)), some (vI (iaI as 2)), none, none] := by rw [hs1]; rfl
      rw [e]; exact key)
/-! ### PrimeborrowModel.equity -/
def cl_X5_equity : Cl := (2, 0, fun σ as μ => as = [vR 38 0, vI (iaI as 1)] ∧ ((0 ≤ (iaI as 1) ∧ (iaI as 1) ≤ 5)), fun σ as μ ov μ' => ov = some (vL (equityF μ (iaI as 1))) ∧ μ' = μ, fun σ as μ k => False)
def cd_X5_equity : Cd := mkcd k_X5_equity co_X5 fl_X5 [] [] [] [] 5 2 0
set_option maxHeartbeats 4000000 in
set_option maxRecDepth 20000 in
theorem run_X5_equity {ER : Option AV → Mm → Prop} {ET : Nat → Mm → Prop} (σ μ : Mm) (c : Int) (hM : MR fam0 μ) (h_c : in32 c) (hP : (0 ≤ c ∧ c ≤ 5)) (hER : ∀ ov μ', (ov = some (vL (equityF μ c)) ∧ μ' = μ) → ER ov μ') : Run fam0 none cd_X5_equity ER ET 0 0 [some (vR 38 0), some (vI c), none, none, none] [] μ := by
  refine run_k 7 ?_
  show (0 ≤ c ∧ c < 6) ∧ (Run fam0 none cd_X5_equity ER ET 10 0 [some (vR 38 0), some (vI c), some (vL (μ 41 0 c)), none, some (vI 0)] [] μ)
  refine ⟨by omega, ?_⟩
  have lp10 : ∀ (fz : Nat) (k : Nat) (x : Int), (4 - (k : Int)).toNat < fz → ((k : Int) ≤ 4 ∧ x = eqL μ c k) → Run fam0 none cd_X5_equity ER ET 10 0 [some (vR 38 0), some (vI c), some (vL x), none, some (vI (k : Int))] [] μ := by
    intro fz
    induction fz with
    | zero => intro k x hf; omega
    | succ fz ih10 =>
      intro k x hf hI
      obtain ⟨hk1, hx2⟩ := hI
      refine run_k 3 ?_
      show (4 ≤ (k : Int) → Run fam0 none cd_X5_equity ER ET 46 0 [some (vR 38 0), some (vI c), some (vL x), none, some (vI (k : Int))] [] μ) ∧ ((k : Int) < 4 → Run fam0 none cd_X5_equity ER ET 16 0 [some (vR 38 0), some (vI c), some (vL x), none, some (vI (k : Int))] [] μ)
      refine ⟨fun c2 => ?_, fun c2 => ?_⟩
      · refine run_k 2 ?_
        show ER (some (vL x)) μ
        exact hER _ _ ⟨by rw [hx2, show k = 4 by omega]; rfl, rfl⟩
      · refine run_k 20 ?_
        show (0 ≤ (w32 ((w32 (4 * c)) + (k : Int))) ∧ (w32 ((w32 (4 * c)) + (k : Int))) < 24) ∧ ((0 ≤ (k : Int) ∧ (k : Int) < 4) ∧ (Run fam0 none cd_X5_equity ER ET 10 0 [some (vR 38 0), some (vI c), some (vL (w64 (x + (w64 ((μ 42 0 (w32 ((w32 (4 * c)) + (k : Int)))) * (μ 39 0 (k : Int))))))), none, some (vI (w32 ((k : Int) + 1)))] [] μ))
        rw [show w32 (4 * c) = 4 * c from w32_id (by simp only [in32]; omega)]
        rw [show w32 ((4 * c) + (k : Int)) = (4 * c) + (k : Int) from w32_id (by simp only [in32]; omega)]
        rw [show w32 ((k : Int) + 1) = (k : Int) + 1 from w32_id (by simp only [in32]; omega)]
        refine ⟨by omega, ?_⟩
        refine ⟨by omega, ?_⟩
        exact ih10 (k + 1) (w64 (x + (w64 ((μ 42 0 ((4 * c) + (k : Int))) * (μ 39 0 (k : Int)))))) (by omega) (⟨by omega, by rw [hx2]; rfl⟩)
  exact lp10 _ 0 (μ 41 0 c) (Nat.lt_succ_self _) (⟨by omega, rfl⟩)
set_option maxRecDepth 20000 in
theorem con_X5_equity (l : Launch) (htr : l.stackTraces = false) (σ : Mm) : CON fam0 63 l yX5_equity (Cond.code yX5_equity cX5_equity 5 (some .long) :: wm) 0 0 0 (cl_X5_equity.2.2.1 σ) (cl_X5_equity.2.2.2.1 σ) (cl_X5_equity.2.2.2.2 σ) :=
  con_of (cd := cd_X5_equity) (own := RX5) (rk := 2) (sc_of htr (by decide) k_X5_equity_ok (by decide +kernel) co_X5_ok fl_X5_ok all_nil all_nil all_nil) rfl (by decide +kernel) rfl rfl rfl rfl (fun as μ hs => by rw [hs.1]; exact Nat.le_of_ble_eq_true rfl)
    (fun as μ hs hM hrg => by
      have hs1 := hs.1
      have hmem : ∀ v, v ∈ ([vR 38 0, vI (iaI as 1)] : List AV) → rg fam0 v := by rw [← hs1]; exact hrg
      have key := run_X5_equity (ER := cl_X5_equity.2.2.2.1 σ as μ) (ET := fun k μ' => cl_X5_equity.2.2.2.2 σ as μ k ∧ μ' = μ) σ μ (iaI as 1) hM (hmem (vI (iaI as 1)) (by simp)) hs.2 (fun ov μ' h => h)
      have e : entL as 5 = [some (vR 38 0), some (vI (iaI as 1)), none, none, none] := by rw [hs1]; rfl
      rw [e]; exact key)
/-! ### PrimeborrowModel.need -/
def cl_X5_need : Cl := (2, 0, fun σ as μ => as = [vR 38 0, vI (iaI as 1)] ∧ ((0 ≤ (iaI as 1) ∧ (iaI as 1) ≤ 5)), fun σ as μ ov μ' => ov = some (vL (needF μ (iaI as 1))) ∧ μ' = μ, fun σ as μ k => False)
def cd_X5_need : Cd := mkcd k_X5_need co_X5 fl_X5 [(130, cl_X5_worth)] [] [] [] 9 2 0
set_option maxHeartbeats 4000000 in
set_option maxRecDepth 20000 in
theorem run_X5_need {ER : Option AV → Mm → Prop} {ET : Nat → Mm → Prop} (σ μ : Mm) (c : Int) (hM : MR fam0 μ) (h_c : in32 c) (hP : (0 ≤ c ∧ c ≤ 5)) (hER : ∀ ov μ', (ov = some (vL (needF μ c)) ∧ μ' = μ) → ER ov μ') : Run fam0 none cd_X5_need ER ET 0 0 [some (vR 38 0), some (vI c), none, none, none, none, none, none, none] [] μ := by
  refine run_k 4 ?_
  show Run fam0 none cd_X5_need ER ET 5 0 [some (vR 38 0), some (vI c), some (vL 0), none, some (vI 0), none, none, none, none] [] μ
  have lp5 : ∀ (fz : Nat) (k : Nat) (x : Int), (4 - (k : Int)).toNat < fz → ((k : Int) ≤ 4 ∧ x = allL μ c k) → Run fam0 none cd_X5_need ER ET 5 0 [some (vR 38 0), some (vI c), some (vL x), none, some (vI (k : Int)), none, none, none, none] [] μ := by
    intro fz
    induction fz with
    | zero => intro k x hf; omega
    | succ fz ih5 =>
      intro k x hf hI
      obtain ⟨hk1, hx2⟩ := hI
      refine run_k 3 ?_
      show (4 ≤ (k : Int) → Run fam0 none cd_X5_need ER ET 27 0 [some (vR 38 0), some (vI c), some (vL x), none, some (vI (k : Int)), none, none, none, none] [] μ) ∧ ((k : Int) < 4 → Run fam0 none cd_X5_need ER ET 11 0 [some (vR 38 0), some (vI c), some (vL x), none, some (vI (k : Int)), none, none, none, none] [] μ)
      refine ⟨fun c2 => ?_, fun c2 => ?_⟩
      · refine run_k 4 ?_
        show Run fam0 none cd_X5_need ER ET 33 0 [some (vR 38 0), some (vI c), some (vL x), none, some (vL 0), none, some (vI 0), none, none] [] μ
        have lp33 : ∀ (fz : Nat) (j : Nat) (y : Int), (4 - (j : Int)).toNat < fz → ((j : Int) ≤ 4 ∧ y = neL μ c j) → Run fam0 none cd_X5_need ER ET 33 0 [some (vR 38 0), some (vI c), some (vL x), none, some (vL y), none, some (vI (j : Int)), none, none] [] μ := by
          intro fz
          induction fz with
          | zero => intro j y hf; omega
          | succ fz ih33 =>
            intro j y hf hI
            obtain ⟨hj1, hy2⟩ := hI
            refine run_k 3 ?_
            show (4 ≤ (j : Int) → Run fam0 none cd_X5_need ER ET 96 0 [some (vR 38 0), some (vI c), some (vL x), none, some (vL y), none, some (vI (j : Int)), none, none] [] μ) ∧ ((j : Int) < 4 → Run fam0 none cd_X5_need ER ET 39 0 [some (vR 38 0), some (vI c), some (vL x), none, some (vL y), none, some (vI (j : Int)), none, none] [] μ)
            refine ⟨fun c4 => ?_, fun c4 => ?_⟩
            · refine run_k 2 ?_
              show ER (some (vL y)) μ
              exact hER _ _ ⟨by rw [hy2, show j = 4 by omega]; rfl, rfl⟩
            · refine run_k 4 ?_
              show ∃ σ : Mm, cl_X5_worth.2.2.1 σ [vR 38 0, vI c, vI (j : Int)] μ ∧ (∀ ov μ', cl_X5_worth.2.2.2.1 σ [vR 38 0, vI c, vI (j : Int)] μ ov μ' → Run fam0 none cd_X5_need ER ET 46 0 [some (vR 38 0), some (vI c), some (vL x), none, some (vL y), none, some (vI (j : Int)), none, none] (ov.toList ++ []) μ') ∧ ∀ kx, cl_X5_worth.2.2.2.2 σ [vR 38 0, vI c, vI (j : Int)] μ kx → thr cd_X5_need ET (Run fam0 none cd_X5_need ER ET) 43 0 [some (vR 38 0), some (vI c), some (vL x), none, some (vL y), none, some (vI (j : Int)), none, none] μ kx
              refine ⟨μ, ⟨rfl, show (0 ≤ c ∧ c ≤ 5) ∧ (0 ≤ ((j : Int)) ∧ ((j : Int)) ≤ 3) from ⟨by omega, by omega⟩⟩, fun ov μ' hq => ?_, fun k hk => hk.elim⟩
              obtain ⟨hov, hmu⟩ : ov = some (vL (worthF μ c (j : Int))) ∧ μ' = μ := hq
              rw [hov, hmu]
              show Run fam0 none cd_X5_need ER ET 46 0 [some (vR 38 0), some (vI c), some (vL x), none, some (vL y), none, some (vI (j : Int)), none, none] [vL (worthF μ c (j : Int))] μ
              refine run_k 17 ?_
              show (0 ≤ (j : Int) ∧ (j : Int) < 4) ∧ ((100 ≠ 0) ∧ (((cmpL (w64 (2 * (worthF μ c (j : Int)))) x) ≤ 0 → Run fam0 none cd_X5_need ER ET 85 0 [some (vR 38 0), some (vI c), some (vL x), none, some (vL y), none, some (vI (j : Int)), some (vL (worthF μ c (j : Int))), none] [vL (w64 ((w64 ((worthF μ c (j : Int)) * (μ 40 0 (j : Int)))).tdiv 100)), vL y] μ) ∧ (0 < (cmpL (w64 (2 * (worthF μ c (j : Int)))) x) → Run fam0 none cd_X5_need ER ET 76 0 [some (vR 38 0), some (vI c), some (vL x), none, some (vL y), none, some (vI (j : Int)), some (vL (worthF μ c (j : Int))), none] [vL (w64 ((w64 ((worthF μ c (j : Int)) * (μ 40 0 (j : Int)))).tdiv 100)), vL y] μ)))
              refine ⟨by omega, ?_⟩
              refine ⟨by decide, ?_⟩
              refine ⟨fun c7 => ?_, fun c7 => ?_⟩
              · refine run_k 6 ?_
                show Run fam0 none cd_X5_need ER ET 33 0 [some (vR 38 0), some (vI c), some (vL x), none, some (vL (w64 (y + (w64 ((w64 ((w64 ((worthF μ c (j : Int)) * (μ 40 0 (j : Int)))).tdiv 100)) + 0))))), none, some (vI (w32 ((j : Int) + 1))), some (vL (worthF μ c (j : Int))), none] [] μ
                rw [show w32 ((j : Int) + 1) = (j : Int) + 1 from w32_id (by simp only [in32]; omega)]
                refine run_w (L' := [some (vR 38 0), some (vI c), some (vL x), none, some (vL (w64 (y + (w64 ((w64 ((w64 ((worthF μ c (j : Int)) * (μ 40 0 (j : Int)))).tdiv 100)) + 0))))), none, some (vI ((j : Int) + 1)), none, none]) ⟨rfl, rfl, rfl, rfl, rfl, True.intro⟩ ?_
                exact ih33 (j + 1) (w64 (y + (w64 ((w64 ((w64 ((worthF μ c (j : Int)) * (μ 40 0 (j : Int)))).tdiv 100)) + 0)))) (by omega) (⟨by omega, by rw [hy2]; show _ = w64 (neL μ c j + w64 (w64 ((w64 (worthF μ c j * μ 40 0 j)).tdiv 100) + (if allL μ c 4 < w64 (2 * worthF μ c j) then w64 ((worthF μ c j).tdiv 10) else 0))); (have hk4 : k = 4 := by omega); subst hk4; rw [← hx2]; first | rw [if_pos (cmpL_p.mp (by omega))] | rw [if_neg (fun q => absurd (cmpL_p.mpr q) (by omega))]⟩)
              · refine run_k 9 ?_
                show (10 ≠ 0) ∧ (Run fam0 none cd_X5_need ER ET 33 0 [some (vR 38 0), some (vI c), some (vL x), none, some (vL (w64 (y + (w64 ((w64 ((w64 ((worthF μ c (j : Int)) * (μ 40 0 (j : Int)))).tdiv 100)) + (w64 ((worthF μ c (j : Int)).tdiv 10))))))), none, some (vI (w32 ((j : Int) + 1))), some (vL (worthF μ c (j : Int))), none] [] μ)
                rw [show w32 ((j : Int) + 1) = (j : Int) + 1 from w32_id (by simp only [in32]; omega)]
                refine ⟨by decide, ?_⟩
                refine run_w (L' := [some (vR 38 0), some (vI c), some (vL x), none, some (vL (w64 (y + (w64 ((w64 ((w64 ((worthF μ c (j : Int)) * (μ 40 0 (j : Int)))).tdiv 100)) + (w64 ((worthF μ c (j : Int)).tdiv 10))))))), none, some (vI ((j : Int) + 1)), none, none]) ⟨rfl, rfl, rfl, rfl, rfl, True.intro⟩ ?_
                exact ih33 (j + 1) (w64 (y + (w64 ((w64 ((w64 ((worthF μ c (j : Int)) * (μ 40 0 (j : Int)))).tdiv 100)) + (w64 ((worthF μ c (j : Int)).tdiv 10)))))) (by omega) (⟨by omega, by rw [hy2]; show _ = w64 (neL μ c j + w64 (w64 ((w64 (worthF μ c j * μ 40 0 j)).tdiv 100) + (if allL μ c 4 < w64 (2 * worthF μ c j) then w64 ((worthF μ c j).tdiv 10) else 0))); (have hk4 : k = 4 := by omega); subst hk4; rw [← hx2]; first | rw [if_pos (cmpL_p.mp (by omega))] | rw [if_neg (fun q => absurd (cmpL_p.mpr q) (by omega))]⟩)
        exact lp33 _ 0 0 (Nat.lt_succ_self _) (⟨by omega, rfl⟩)
      · refine run_k 5 ?_
        show ∃ σ : Mm, cl_X5_worth.2.2.1 σ [vR 38 0, vI c, vI (k : Int)] μ ∧ (∀ ov μ', cl_X5_worth.2.2.2.1 σ [vR 38 0, vI c, vI (k : Int)] μ ov μ' → Run fam0 none cd_X5_need ER ET 19 0 [some (vR 38 0), some (vI c), some (vL x), none, some (vI (k : Int)), none, none, none, none] (ov.toList ++ [vL x]) μ') ∧ ∀ kx, cl_X5_worth.2.2.2.2 σ [vR 38 0, vI c, vI (k : Int)] μ kx → thr cd_X5_need ET (Run fam0 none cd_X5_need ER ET) 16 0 [some (vR 38 0), some (vI c), some (vL x), none, some (vI (k : Int)), none, none, none, none] μ kx
        refine ⟨μ, ⟨rfl, show (0 ≤ c ∧ c ≤ 5) ∧ (0 ≤ ((k : Int)) ∧ ((k : Int)) ≤ 3) from ⟨by omega, by omega⟩⟩, fun ov μ' hq => ?_, fun k hk => hk.elim⟩
        obtain ⟨hov, hmu⟩ : ov = some (vL (worthF μ c (k : Int))) ∧ μ' = μ := hq
        rw [hov, hmu]
        show Run fam0 none cd_X5_need ER ET 19 0 [some (vR 38 0), some (vI c), some (vL x), none, some (vI (k : Int)), none, none, none, none] [vL (worthF μ c (k : Int)), vL x] μ
        refine run_k 4 ?_
        show Run fam0 none cd_X5_need ER ET 5 0 [some (vR 38 0), some (vI c), some (vL (w64 (x + (worthF μ c (k : Int))))), none, some (vI (w32 ((k : Int) + 1))), none, none, none, none] [] μ
        rw [show w32 ((k : Int) + 1) = (k : Int) + 1 from w32_id (by simp only [in32]; omega)]
        exact ih5 (k + 1) (w64 (x + (worthF μ c (k : Int)))) (by omega) (⟨by omega, by rw [hx2]; rfl⟩)
  exact lp5 _ 0 0 (Nat.lt_succ_self _) (⟨by omega, rfl⟩)
theorem vw_X5_130 : ∀ w ∈ ([.methodLink RX5 130 yX5_worth, .instanceMethod yX5_worth, .selects RX5 yX5_worth yX5_worth, .initialized RX5, .code yX5_worth cX5_worth 5 (some .long)] : List Cond), w ∈ wm := wm_ps _ [831, 833, 33, 55, 834] (by decide +kernel)
set_option maxRecDepth 20000 in
theorem con_X5_need (l : Launch) (htr : l.stackTraces = false) (σ : Mm) : CON fam0 63 l yX5_need (Cond.code yX5_need cX5_need 9 (some .long) :: wm) 1 24 0 (cl_X5_need.2.2.1 σ) (cl_X5_need.2.2.2.1 σ) (cl_X5_need.2.2.2.2 σ) :=
  con_of (cd := cd_X5_need) (own := RX5) (rk := 2) (sc_of htr (by decide) k_X5_need_ok (by decide +kernel) co_X5_ok fl_X5_ok (all_cons ⟨RX5, yX5_worth, cX5_worth, 5, (some .long), 0, 0, 2, con_X5_worth l htr, rfl, vw_X5_130, ⟨rfl, by decide, by decide, by decide +kernel⟩, ⟨by decide, by decide⟩, fun σ as μ h => ⟨38, 0, _, h.1, rfl, TX5, 31, rfl⟩⟩ all_nil) all_nil all_nil) rfl (by decide +kernel) rfl rfl rfl rfl (fun as μ hs => by rw [hs.1]; exact Nat.le_of_ble_eq_true rfl)
    (fun as μ hs hM hrg => by
      have hs1 := hs.1
      have hmem : ∀ v, v ∈ ([vR 38 0, vI (iaI as 1)] : List AV) → rg fam0 v := by rw [← hs1]; exact hrg
      have key := run_X5_need (ER := cl_X5_need.2.2.2.1 σ as μ) (ET := fun k μ' => cl_X5_need.2.2.2.2 σ as μ k ∧ μ' = μ) σ μ (iaI as 1) hM (hmem (vI (iaI as 1)) (by simp)) hs.2 (fun ov μ' h => h)
      have e : entL as 9 = [some (vR 38 0), some (vI (iaI as 1)), none, none, none, none, none, none, none] := by rw [hs1]; rfl
      rw [e]; exact key)
/-! ### PrimeborrowModel.isCalled -/
def cl_X5_isCalled : Cl := (2, 0, fun σ as μ => as = [vR 38 0, vI (iaI as 1)] ∧ ((0 ≤ (iaI as 1) ∧ (iaI as 1) ≤ 5)), fun σ as μ ov μ' => ov = some (vI (calledF μ (iaI as 1))) ∧ μ' = μ, fun σ as μ k => False)
def cd_X5_isCalled : Cd := mkcd k_X5_isCalled co_X5 fl_X5 [(138, cl_X5_equity), (142, cl_X5_need)] [] [] [] 2 3 0
set_option maxHeartbeats 4000000 in
set_option maxRecDepth 20000 in
theorem run_X5_isCalled {ER : Option AV → Mm → Prop} {ET : Nat → Mm → Prop} (σ μ : Mm) (c : Int) (hM : MR fam0 μ) (h_c : in32 c) (hP : (0 ≤ c ∧ c ≤ 5)) (hER : ∀ ov μ', (ov = some (vI (calledF μ c)) ∧ μ' = μ) → ER ov μ') : Run fam0 none cd_X5_isCalled ER ET 0 0 [some (vR 38 0), some (vI c)] [] μ := by
  refine run_k 3 ?_
  show ∃ σ : Mm, cl_X5_equity.2.2.1 σ [vR 38 0, vI c] μ ∧ (∀ ov μ', cl_X5_equity.2.2.2.1 σ [vR 38 0, vI c] μ ov μ' → Run fam0 none cd_X5_isCalled ER ET 5 0 [some (vR 38 0), some (vI c)] (ov.toList ++ []) μ') ∧ ∀ kx, cl_X5_equity.2.2.2.2 σ [vR 38 0, vI c] μ kx → thr cd_X5_isCalled ET (Run fam0 none cd_X5_isCalled ER ET) 2 0 [some (vR 38 0), some (vI c)] μ kx
  refine ⟨μ, ⟨rfl, show (0 ≤ c ∧ c ≤ 5) from by omega⟩, fun ov μ' hq => ?_, fun k hk => hk.elim⟩
  obtain ⟨hov, hmu⟩ : ov = some (vL (equityF μ c)) ∧ μ' = μ := hq
  rw [hov, hmu]
  show Run fam0 none cd_X5_isCalled ER ET 5 0 [some (vR 38 0), some (vI c)] [vL (equityF μ c)] μ
  refine run_k 3 ?_
  show ∃ σ : Mm, cl_X5_need.2.2.1 σ [vR 38 0, vI c] μ ∧ (∀ ov μ', cl_X5_need.2.2.2.1 σ [vR 38 0, vI c] μ ov μ' → Run fam0 none cd_X5_isCalled ER ET 10 0 [some (vR 38 0), some (vI c)] (ov.toList ++ [vL (equityF μ c)]) μ') ∧ ∀ kx, cl_X5_need.2.2.2.2 σ [vR 38 0, vI c] μ kx → thr cd_X5_isCalled ET (Run fam0 none cd_X5_isCalled ER ET) 7 0 [some (vR 38 0), some (vI c)] μ kx
  refine ⟨μ, ⟨rfl, show (0 ≤ c ∧ c ≤ 5) from by omega⟩, fun ov μ' hq => ?_, fun k hk => hk.elim⟩
  obtain ⟨hov, hmu⟩ : ov = some (vL (needF μ c)) ∧ μ' = μ := hq
  rw [hov, hmu]
  show Run fam0 none cd_X5_isCalled ER ET 10 0 [some (vR 38 0), some (vI c)] [vL (needF μ c), vL (equityF μ c)] μ
  refine run_k 2 ?_
  show (0 ≤ (cmpL (equityF μ c) (needF μ c)) → Run fam0 none cd_X5_isCalled ER ET 18 0 [some (vR 38 0), some (vI c)] [] μ) ∧ ((cmpL (equityF μ c) (needF μ c)) < 0 → Run fam0 none cd_X5_isCalled ER ET 14 0 [some (vR 38 0), some (vI c)] [] μ)
  refine ⟨fun c3 => ?_, fun c3 => ?_⟩
  · refine run_k 2 ?_
    show (0 = 0 ∨ 0 = 1) ∧ ER (some (vI 0)) μ
    refine ⟨by omega, ?_⟩
    exact hER _ _ ⟨by unfold calledF; first | rw [bi_t (cmpL_n.mp (by omega))] | rw [bi_f (fun q => absurd (cmpL_n.mpr q) (by omega))], rfl⟩
  · refine run_k 3 ?_
    show (1 = 0 ∨ 1 = 1) ∧ ER (some (vI 1)) μ
    refine ⟨by omega, ?_⟩
    exact hER _ _ ⟨by unfold calledF; first | rw [bi_t (cmpL_n.mp (by omega))] | rw [bi_f (fun q => absurd (cmpL_n.mpr q) (by omega))], rfl⟩
theorem vw_X5_142 : ∀ w ∈ ([.methodLink RX5 142 yX5_need, .instanceMethod yX5_need, .selects RX5 yX5_need yX5_need, .initialized RX5, .code yX5_need cX5_need 9 (some .long)] : List Cond), w ∈ wm := wm_ps _ [827, 829, 32, 55, 830] (by decide +kernel)
theorem vw_X5_138 : ∀ w ∈ ([.methodLink RX5 138 yX5_equity, .instanceMethod yX5_equity, .selects RX5 yX5_equity yX5_equity, .initialized RX5, .code yX5_equity cX5_equity 5 (some .long)] : List Cond), w ∈ wm := wm_ps _ [823, 825, 31, 55, 826] (by decide +kernel)
set_option maxRecDepth 20000 in
theorem con_X5_isCalled (l : Launch) (htr : l.stackTraces = false) (σ : Mm) : CON fam0 63 l yX5_isCalled (Cond.code yX5_isCalled cX5_isCalled 2 (some .boolean) :: wm) 2 52 0 (cl_X5_isCalled.2.2.1 σ) (cl_X5_isCalled.2.2.2.1 σ) (cl_X5_isCalled.2.2.2.2 σ) :=
  con_of (cd := cd_X5_isCalled) (own := RX5) (rk := 3) (sc_of htr (by decide) k_X5_isCalled_ok (by decide +kernel) co_X5_ok fl_X5_ok (all_cons ⟨RX5, yX5_equity, cX5_equity, 5, (some .long), 0, 0, 1, con_X5_equity l htr, rfl, vw_X5_138, ⟨rfl, by decide, by decide, by decide +kernel⟩, ⟨by decide, by decide⟩, fun σ as μ h => ⟨38, 0, _, h.1, rfl, TX5, 31, rfl⟩⟩ (all_cons ⟨RX5, yX5_need, cX5_need, 9, (some .long), 1, 24, 1, con_X5_need l htr, rfl, vw_X5_142, ⟨rfl, by decide, by decide, by decide +kernel⟩, ⟨by decide, by decide⟩, fun σ as μ h => ⟨38, 0, _, h.1, rfl, TX5, 31, rfl⟩⟩ all_nil)) all_nil all_nil) rfl (by decide +kernel) rfl rfl rfl rfl (fun as μ hs => by rw [hs.1]; exact Nat.le_of_ble_eq_true rfl)
    (fun as μ hs hM hrg => by
      have hs1 := hs.1
      have hmem : ∀ v, v ∈ ([vR 38 0, vI (iaI as 1)] : List AV) → rg fam0 v := by rw [← hs1]; exact hrg
      have key := run_X5_isCalled (ER := cl_X5_isCalled.2.2.2.1 σ as μ) (ET := fun k μ' => cl_X5_isCalled.2.2.2.2 σ as μ k ∧ μ' = μ) σ μ (iaI as 1) hM (hmem (vI (iaI as 1)) (by simp)) hs.2 (fun ov μ' h => h)
      have e : entL as 2 = [some (vR 38 0), some (vI (iaI as 1))] := by rw [hs1]; rfl
      rw [e]; exact key)
