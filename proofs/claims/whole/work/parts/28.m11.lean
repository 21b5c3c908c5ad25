/-! ===== days, dividends of the reference ===== -/
theorem chgF_u {μ : Mm} {g : Nat} {t j : Int} (h1 : g ≠ 41) (h2 : g ≠ 47) : ∀ k : Nat, chgF μ k g t j = μ g t j
  | 0 => rfl
  | k + 1 => by
    rw [chgF]
    split
    · rw [st_o h2, st_o h1]; exact chgF_u h1 h2 k
    · exact chgF_u h1 h2 k
theorem chgF_ok {μ : Mm} (hW : Wk μ) : ∀ k : Nat, Wk (chgF μ k)
  | 0 => hW
  | k + 1 => by
    rw [chgF]
    split
    · exact Wk_st (Wk_st (chgF_ok hW k) (by omega)) (by omega)
    · exact chgF_ok hW k
theorem metF_u {μ : Mm} {g : Nat} {t j : Int} (h : g ≠ 48 ∧ g ≠ 49 ∧ g ≠ 50 ∧ g ≠ 51 ∧ g ≠ 52 ∧ g ≠ 45) (h1 : g ≠ 42 ∧ g ≠ 41) (h2 : ¬ (g = 38 ∧ (j = 11 ∨ j = 28 ∨ j = 30))) : ∀ k : Nat, metF μ k g t j = dayF μ g t j
  | 0 => rfl
  | k + 1 => by
    rw [metF]
    split
    · unfold meetF
      rw [st_u (by omega), callF_u _ _ _ _ h h1 (by omega)]; exact metF_u h h1 h2 k
    · exact metF_u h h1 h2 k
theorem passF_u {μ : Mm} {g : Nat} {t j : Int} (h : g ≠ 48 ∧ g ≠ 49 ∧ g ≠ 50 ∧ g ≠ 51 ∧ g ≠ 52 ∧ g ≠ 45) (h1 : g ≠ 42 ∧ g ≠ 41 ∧ g ≠ 47) (h2 : ¬ (g = 38 ∧ (j = 1 ∨ j = 11 ∨ j = 28 ∨ j = 30))) : passF μ g t j = μ g t j := by
  unfold passF
  rw [metF_u h ⟨h1.1, h1.2.1⟩ (by omega)]
  unfold dayF
  rw [st_u (by omega), chgF_u h1.2.1 h1.2.2]
theorem passF_day (μ : Mm) : passF μ 38 0 1 = μ 38 0 1 + 1 := by
  unfold passF
  rw [metF_u (by decide) (by decide) (by decide)]
  unfold dayF
  rw [st_s, chgF_u (by decide) (by decide)]
theorem want_ok {m : Mm} {k : Int} (hL : Lk m) (h : 1 ≤ m 60 0 k ∧ m 60 0 k ≤ 500) : (0 ≤ wantF m k ∧ wantF m k ≤ 500) ∧ wantF m k ≤ lentF m (10 + m 58 0 k) (m 59 0 k) := by
  have := lentF_rng hL (10 + m 58 0 k) (m 59 0 k)
  unfold wantF
  split <;> omega
theorem metF_ok {μ : Mm} (hW : Wk μ) (hX : Xk μ) : ∀ k : Nat, (k : Int) ≤ μ 38 0 23 → Wk (metF μ k)
  | 0, _ => Wk_st (chgF_ok hW _) (by decide)
  | k + 1, hk => by
    have ih := metF_ok hW hX k (by omega)
    have hr := hX.2.2.1.2 k (by omega) (by omega)
    rw [metF]
    split
    · have e1 : ∀ g : Nat, 58 ≤ g → g ≤ 61 → metF μ k g 0 k = μ g 0 k := fun g g0 g1 => by
        rw [metF_u (by omega) (by omega) (by omega)]
        unfold dayF
        rw [st_u (by omega), chgF_u (by omega) (by omega)]
      have hw := want_ok (k := k) ih.1 (by rw [e1 60 (by decide) (by decide)]; exact hr.2.2.1)
      exact Wk_st (callF_ok (by rw [e1 59 (by decide) (by decide)]; exact hr.2.1) ih hw.1 hw.2).1 (by decide)
    · exact ih
theorem passF_ok {μ : Mm} (hW : Wk μ) (hX : Xk μ) (hd : μ 38 0 1 < 500) : Wk (passF μ) ∧ Xk (passF μ) := by
  have hu : ∀ (g : Nat) (j : Int), 53 ≤ g → g ≤ 61 → passF μ g 0 j = μ g 0 j := fun g j g0 g1 => passF_u (by omega) (by omega) (by omega)
  refine ⟨metF_ok hW hX _ (by have := hX.2.2.1.1; omega), ?_⟩
  obtain ⟨h1, ⟨h2, h3⟩, ⟨h4, h5⟩, h6⟩ := hX
  have e1 := passF_day μ
  have e2 : passF μ 38 0 17 = μ 38 0 17 := passF_u (by decide) (by decide) (by decide)
  have e3 : passF μ 38 0 23 = μ 38 0 23 := passF_u (by decide) (by decide) (by decide)
  refine ⟨by omega, ⟨by omega, fun k k0 k1 => ?_⟩, ⟨by omega, fun k k0 k1 => ?_⟩, fun c c0 c1 => ?_⟩
  · rw [hu 53 k (by decide) (by decide), hu 54 k (by decide) (by decide), hu 55 k (by decide) (by decide), hu 56 k (by decide) (by decide)]
    have := h3 k k0 (by omega)
    omega
  · rw [hu 58 k (by decide) (by decide), hu 59 k (by decide) (by decide), hu 60 k (by decide) (by decide), hu 61 k (by decide) (by decide)]
    exact h5 k k0 (by omega)
  · rw [passF_u (g := 43) (by decide) (by decide) (by omega), passF_u (g := 44) (by decide) (by decide) (by omega)]
    exact h6 c c0 c1
theorem Xk_th {M : Mm} (h : Xk M) (v : Int) : Xk (st M 38 0 0 v) := by
  obtain ⟨h1, ⟨h2, h3⟩, ⟨h4, h5⟩, h6⟩ := h
  refine ⟨h1, ⟨h2, fun k k0 k1 => ?_⟩, ⟨h4, fun k k0 k1 => ?_⟩, fun c c0 c1 => ?_⟩
  · exact h3 k k0 k1
  · exact h5 k k0 k1
  · exact h6 c c0 c1
def psL (μ : Mm) : Nat → Mm
  | 0 => st μ 38 0 0 0
  | n + 1 => passF (psL μ n)

/-! ### PrimeborrowModel.pass -/
def cl_X5_pass : Cl := (2, 0, fun σ as μ => as = [vR 38 0, vI (iaI as 1)] ∧ (Wk μ ∧ Xk μ), fun σ as μ ov μ' => ((¬ (1 ≤ (iaI as 1) ∧ (iaI as 1) ≤ 50)) → ov = some (vI 0) ∧ μ' = st μ 38 0 0 1) ∧ (((1 ≤ (iaI as 1) ∧ (iaI as 1) ≤ 50) ∧ 500 < μ 38 0 1 + (iaI as 1)) → ov = some (vI 0) ∧ μ' = st μ 38 0 0 2) ∧ (((1 ≤ (iaI as 1) ∧ (iaI as 1) ≤ 50) ∧ μ 38 0 1 + (iaI as 1) ≤ 500) → ov = some (vI (μ 38 0 1 + (iaI as 1))) ∧ μ' = psL μ (iaI as 1).toNat), fun σ as μ k => False)
def cd_X5_pass : Cd := mkcd k_X5_pass co_X5 fl_X5 [(127, cl_X5_refused), (168, cl_X5_passes)] [(85, cl_X5_in)] [] [] 3 1 0
set_option maxHeartbeats 4000000 in
set_option maxRecDepth 20000 in
theorem run_X5_pass {ER : Option AV → Mm → Prop} {ET : Nat → Mm → Prop} (σ μ : Mm) (n : Int) (hM : MR fam0 μ) (h_n : in32 n) (hP : Wk μ ∧ Xk μ) (hER : ∀ ov μ', (((¬ (1 ≤ n ∧ n ≤ 50)) → ov = some (vI 0) ∧ μ' = st μ 38 0 0 1) ∧ (((1 ≤ n ∧ n ≤ 50) ∧ 500 < μ 38 0 1 + n) → ov = some (vI 0) ∧ μ' = st μ 38 0 0 2) ∧ (((1 ≤ n ∧ n ≤ 50) ∧ μ 38 0 1 + n ≤ 500) → ov = some (vI (μ 38 0 1 + n)) ∧ μ' = psL μ n.toNat)) → ER ov μ') : Run fam0 none cd_X5_pass ER ET 0 0 [some (vR 38 0), some (vI n), none] [] μ := by
  obtain ⟨hW, hX⟩ := hP
  have hW0 : Wk (st μ 38 0 0 0) := Wk_st hW (by decide)
  have hLk := hW.1
  have hLk0 := hW0.1
  have hPk := hW.2.1
  have hPk0 := hW0.2.1
  have hGk := Gk_of hLk hW.2.2.2.2
  have hGk0 := Gk_of hLk0 hW0.2.2.2.2
  have hday := hX.1
  have hloc := hX.2.1.1
  have hrec := hX.2.2.1.1
  have hl0 := hLk.1
  refine run_k 5 ?_
  show ∃ σ : Mm, cl_X5_in.2.2.1 σ [vI n, vI 1, vI 50] μ ∧ (∀ ov μ', cl_X5_in.2.2.2.1 σ [vI n, vI 1, vI 50] μ ov μ' → Run fam0 none cd_X5_pass ER ET 8 0 [some (vR 38 0), some (vI n), none] (ov.toList ++ [vR 38 0]) μ') ∧ ∀ kx, cl_X5_in.2.2.2.2 σ [vI n, vI 1, vI 50] μ kx → thr cd_X5_pass ET (Run fam0 none cd_X5_pass ER ET) 5 0 [some (vR 38 0), some (vI n), none] μ kx
  refine ⟨μ, ⟨rfl, show True from True.intro⟩, fun ov μ' hq => ?_, fun k hk => hk.elim⟩
  obtain ⟨hov, hmu⟩ : ov = some (vI (bi (1 ≤ n ∧ n ≤ 50))) ∧ μ' = μ := hq
  rw [hov, hmu]
  show Run fam0 none cd_X5_pass ER ET 8 0 [some (vR 38 0), some (vI n), none] [vI (bi (1 ≤ n ∧ n ≤ 50)), vR 38 0] μ
  refine run_k 1 ?_
  show ((bi (1 ≤ n ∧ n ≤ 50)) ≠ 0 → Run fam0 none cd_X5_pass ER ET 15 0 [some (vR 38 0), some (vI n), none] [vR 38 0] μ) ∧ ((bi (1 ≤ n ∧ n ≤ 50)) = 0 → Run fam0 none cd_X5_pass ER ET 11 0 [some (vR 38 0), some (vI n), none] [vR 38 0] μ)
  refine ⟨fun c2 => ?_, fun c2 => ?_⟩
  · replace c2 := (bi_n0.mp c2)
    refine run_k 6 ?_
    show ((w32 ((μ 38 0 1) + n)) ≤ 500 → Run fam0 none cd_X5_pass ER ET 31 0 [some (vR 38 0), some (vI n), none] [vR 38 0] μ) ∧ (500 < (w32 ((μ 38 0 1) + n)) → Run fam0 none cd_X5_pass ER ET 27 0 [some (vR 38 0), some (vI n), none] [vR 38 0] μ)
    rw [show w32 ((μ 38 0 1) + n) = (μ 38 0 1) + n from w32_id (by simp only [in32]; omega)]
    refine ⟨fun c3 => ?_, fun c3 => ?_⟩
    · refine run_k 2 ?_
      show ∃ σ : Mm, cl_X5_refused.2.2.1 σ [vR 38 0, vI 0] μ ∧ (∀ ov μ', cl_X5_refused.2.2.2.1 σ [vR 38 0, vI 0] μ ov μ' → Run fam0 none cd_X5_pass ER ET 35 0 [some (vR 38 0), some (vI n), none] (ov.toList ++ []) μ') ∧ ∀ kx, cl_X5_refused.2.2.2.2 σ [vR 38 0, vI 0] μ kx → thr cd_X5_pass ET (Run fam0 none cd_X5_pass ER ET) 32 0 [some (vR 38 0), some (vI n), none] μ kx
      refine ⟨μ, ⟨rfl, show True from True.intro⟩, fun ov μ' hq => ?_, fun k hk => hk.elim⟩
      obtain ⟨hov, hmu⟩ : ov = some (vI 0) ∧ μ' = st μ 38 0 0 0 := hq
      rw [hov, hmu]
      show Run fam0 none cd_X5_pass ER ET 35 0 [some (vR 38 0), some (vI n), none] [vI 0] (st μ 38 0 0 0)
      refine run_k 1 ?_
      show (0 = 0 → Run fam0 none cd_X5_pass ER ET 40 0 [some (vR 38 0), some (vI n), none] [] (st μ 38 0 0 0)) ∧ (0 ≠ 0 → Run fam0 none cd_X5_pass ER ET 38 0 [some (vR 38 0), some (vI n), none] [] (st μ 38 0 0 0))
      refine ⟨fun c5 => ?_, fun c5 => absurd c5 (by decide)⟩
      refine run_k 2 ?_
      show Run fam0 none cd_X5_pass ER ET 42 0 [some (vR 38 0), some (vI n), some (vI 0)] [] (st μ 38 0 0 0)
      have lp42 : ∀ (fz : Nat) (k : Nat) (M : Mm), (n - (k : Int)).toNat < fz → ((k : Int) ≤ n ∧ M = psL μ k ∧ Wk M ∧ Xk M ∧ M 38 0 1 = μ 38 0 1 + k) → Run fam0 none cd_X5_pass ER ET 42 0 [some (vR 38 0), some (vI n), some (vI (k : Int))] [] M := by
        intro fz
        induction fz with
        | zero => intro k M hf; omega
        | succ fz ih42 =>
          intro k M hf hI
          obtain ⟨hk1, hM2, hWM, hXM, hdM⟩ := hI
          refine run_k 3 ?_
          show (n ≤ (k : Int) → Run fam0 none cd_X5_pass ER ET 57 0 [some (vR 38 0), some (vI n), some (vI (k : Int))] [] M) ∧ ((k : Int) < n → Run fam0 none cd_X5_pass ER ET 47 0 [some (vR 38 0), some (vI n), some (vI (k : Int))] [] M)
          refine ⟨fun c7 => ?_, fun c7 => ?_⟩
          · refine run_k 3 ?_
            show ER (some (vI (M 38 0 1))) M
            refine hER _ _ ⟨fun h => ?_, fun h => ?_, fun h => ?_⟩ <;> first | (exfalso; omega) | exact ⟨congrArg (fun z => some (vI z)) (by omega), by rw [hM2, show k = n.toNat by omega]⟩ | exact ⟨rfl, rfl⟩
          · refine run_k 2 ?_
            show ∃ σ : Mm, cl_X5_passes.2.2.1 σ [vR 38 0] M ∧ (∀ ov μ', cl_X5_passes.2.2.2.1 σ [vR 38 0] M ov μ' → Run fam0 none cd_X5_pass ER ET 51 0 [some (vR 38 0), some (vI n), some (vI (k : Int))] (ov.toList ++ []) μ') ∧ ∀ kx, cl_X5_passes.2.2.2.2 σ [vR 38 0] M kx → thr cd_X5_pass ET (Run fam0 none cd_X5_pass ER ET) 48 0 [some (vR 38 0), some (vI n), some (vI (k : Int))] M kx
            refine ⟨μ, ⟨rfl, show Wk M ∧ Xk M ∧ M 38 0 1 ≤ 1000 from ⟨(by assumption), (by assumption), by omega⟩⟩, fun ov μ' hq => ?_, fun k hk => hk.elim⟩
            obtain ⟨hov, hmu⟩ : ov = none ∧ μ' = passF M := hq
            rw [hov, hmu]
            show Run fam0 none cd_X5_pass ER ET 51 0 [some (vR 38 0), some (vI n), some (vI (k : Int))] [] (passF M)
            refine run_k 2 ?_
            show Run fam0 none cd_X5_pass ER ET 42 0 [some (vR 38 0), some (vI n), some (vI (w32 ((k : Int) + 1)))] [] (passF M)
            rw [show w32 ((k : Int) + 1) = (k : Int) + 1 from w32_id (by simp only [in32]; omega)]
            exact ih42 (k + 1) (passF M) (by omega) (⟨by omega, by rw [hM2]; rfl, (passF_ok hWM hXM (by omega)).1, (passF_ok hWM hXM (by omega)).2, by rw [passF_day]; omega⟩)
      exact lp42 _ 0 (st μ 38 0 0 0) (Nat.lt_succ_self _) (⟨by omega, rfl, hW0, Xk_th hX 0, by show μ 38 0 1 = μ 38 0 1 + 0; omega⟩)
    · refine run_k 3 ?_
      show ∃ σ : Mm, cl_X5_refused.2.2.1 σ [vR 38 0, vI 2] μ ∧ (∀ ov μ', cl_X5_refused.2.2.2.1 σ [vR 38 0, vI 2] μ ov μ' → Run fam0 none cd_X5_pass ER ET 35 0 [some (vR 38 0), some (vI n), none] (ov.toList ++ []) μ') ∧ ∀ kx, cl_X5_refused.2.2.2.2 σ [vR 38 0, vI 2] μ kx → thr cd_X5_pass ET (Run fam0 none cd_X5_pass ER ET) 32 0 [some (vR 38 0), some (vI n), none] μ kx
      refine ⟨μ, ⟨rfl, show True from True.intro⟩, fun ov μ' hq => ?_, fun k hk => hk.elim⟩
      obtain ⟨hov, hmu⟩ : ov = some (vI 1) ∧ μ' = st μ 38 0 0 2 := hq
      rw [hov, hmu]
      show Run fam0 none cd_X5_pass ER ET 35 0 [some (vR 38 0), some (vI n), none] [vI 1] (st μ 38 0 0 2)
      refine run_k 1 ?_
      show (1 = 0 → Run fam0 none cd_X5_pass ER ET 40 0 [some (vR 38 0), some (vI n), none] [] (st μ 38 0 0 2)) ∧ (1 ≠ 0 → Run fam0 none cd_X5_pass ER ET 38 0 [some (vR 38 0), some (vI n), none] [] (st μ 38 0 0 2))
      refine ⟨fun c12 => absurd c12 (by decide), fun c12 => ?_⟩
      refine run_k 2 ?_
      show ER (some (vI 0)) (st μ 38 0 0 2)
      refine hER _ _ ⟨fun h => ?_, fun h => ?_, fun h => ?_⟩ <;> first | (exfalso; omega) | exact ⟨congrArg (fun z => some (vI z)) (by omega), by rw [hM2, show k = n.toNat by omega]⟩ | exact ⟨rfl, rfl⟩
  · replace c2 := (bi_e0.mp c2)
    refine run_k 3 ?_
    show ∃ σ : Mm, cl_X5_refused.2.2.1 σ [vR 38 0, vI 1] μ ∧ (∀ ov μ', cl_X5_refused.2.2.2.1 σ [vR 38 0, vI 1] μ ov μ' → Run fam0 none cd_X5_pass ER ET 35 0 [some (vR 38 0), some (vI n), none] (ov.toList ++ []) μ') ∧ ∀ kx, cl_X5_refused.2.2.2.2 σ [vR 38 0, vI 1] μ kx → thr cd_X5_pass ET (Run fam0 none cd_X5_pass ER ET) 32 0 [some (vR 38 0), some (vI n), none] μ kx
    refine ⟨μ, ⟨rfl, show True from True.intro⟩, fun ov μ' hq => ?_, fun k hk => hk.elim⟩
    obtain ⟨hov, hmu⟩ : ov = some (vI 1) ∧ μ' = st μ 38 0 0 1 := hq
    rw [hov, hmu]
    show Run fam0 none cd_X5_pass ER ET 35 0 [some (vR 38 0), some (vI n), none] [vI 1] (st μ 38 0 0 1)
    refine run_k 1 ?_
    show (1 = 0 → Run fam0 none cd_X5_pass ER ET 40 0 [some (vR 38 0), some (vI n), none] [] (st μ 38 0 0 1)) ∧ (1 ≠ 0 → Run fam0 none cd_X5_pass ER ET 38 0 [some (vR 38 0), some (vI n), none] [] (st μ 38 0 0 1))
    refine ⟨fun c15 => absurd c15 (by decide), fun c15 => ?_⟩
    refine run_k 2 ?_
    show ER (some (vI 0)) (st μ 38 0 0 1)
    refine hER _ _ ⟨fun h => ?_, fun h => ?_, fun h => ?_⟩ <;> first | (exfalso; omega) | exact ⟨congrArg (fun z => some (vI z)) (by omega), by rw [hM2, show k = n.toNat by omega]⟩ | exact ⟨rfl, rfl⟩
theorem vw_X5_168 : ∀ w ∈ ([.methodLink RX5 168 yX5_passes, .instanceMethod yX5_passes, .selects RX5 yX5_passes yX5_passes, .initialized RX5, .code yX5_passes cX5_passes 4 none] : List Cond), w ∈ wm := wm_ps _ [861, 863, 35, 55, 864] (by decide +kernel)
set_option maxRecDepth 20000 in
theorem con_X5_pass (l : Launch) (htr : l.stackTraces = false) (σ : Mm) : CON fam0 63 l yX5_pass (Cond.code yX5_pass cX5_pass 3 (some .int) :: wm) 6 149 0 (cl_X5_pass.2.2.1 σ) (cl_X5_pass.2.2.2.1 σ) (cl_X5_pass.2.2.2.2 σ) :=
  con_of (cd := cd_X5_pass) (own := RX5) (rk := 1) (sc_of htr (by decide) k_X5_pass_ok (by decide +kernel) co_X5_ok fl_X5_ok (all_cons ⟨RX5, yX5_refused, cX5_refused, 2, (some .boolean), 0, 0, 1, con_X5_refused l htr, rfl, vw_X5_127, ⟨rfl, by decide, by decide, by decide +kernel⟩, ⟨by decide, by decide⟩, fun σ as μ h => ⟨38, 0, _, h.1, rfl, TX5, 31, rfl⟩⟩ (all_cons ⟨RX5, yX5_passes, cX5_passes, 4, none, 5, 126, 0, con_X5_passes l htr, rfl, vw_X5_168, ⟨rfl, by decide, by decide, by decide +kernel⟩, ⟨by decide, by decide⟩, fun σ as μ h => ⟨38, 0, _, h.1, rfl, TX5, 31, rfl⟩⟩ all_nil)) (all_cons ⟨yX5_in, cX5_in, 3, (some .boolean), 0, 0, con_X5_in l htr, vw_X5_85, ⟨by decide, by decide, by decide +kernel⟩, ⟨by decide, by decide⟩⟩ all_nil) all_nil) rfl (by decide +kernel) rfl rfl rfl rfl (fun as μ hs => by rw [hs.1]; exact Nat.le_of_ble_eq_true rfl)
    (fun as μ hs hM hrg => by
      have hs1 := hs.1
      have hmem : ∀ v, v ∈ ([vR 38 0, vI (iaI as 1)] : List AV) → rg fam0 v := by rw [← hs1]; exact hrg
      have key := run_X5_pass (ER := cl_X5_pass.2.2.2.1 σ as μ) (ET := fun k μ' => cl_X5_pass.2.2.2.2 σ as μ k ∧ μ' = μ) σ μ (iaI as 1) hM (hmem (vI (iaI as 1)) (by simp)) hs.2 (fun ov μ' h => h)
      have e : entL as 3 = [some (vR 38 0), some (vI (iaI as 1)), none] := by rw [hs1]; rfl
      rw [e]; exact key)
