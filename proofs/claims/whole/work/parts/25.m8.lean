/-! ===== the reference's calls, continued ===== -/
/-! ### PrimeborrowModel.allow -/
def cl_X5_allow : Cl := (3, 0, fun σ as μ => as = [vR 38 0, vI (iaI as 1), vI (iaI as 2)] ∧ ((Wk μ ∧ Xk μ) ∧ ((iaI as 2) = 0 ∨ (iaI as 2) = 1)), fun σ as μ ov μ' => ((¬ (0 ≤ (iaI as 1) ∧ (iaI as 1) ≤ 5)) → ov = some (vI 0) ∧ μ' = st μ 38 0 0 1) ∧ (((0 ≤ (iaI as 1) ∧ (iaI as 1) ≤ 5) ∧ μ 44 0 (iaI as 1) ≠ 0) → ov = some (vI 0) ∧ μ' = st μ 38 0 0 2) ∧ (((0 ≤ (iaI as 1) ∧ (iaI as 1) ≤ 5) ∧ μ 44 0 (iaI as 1) = 0) → ov = some (vI (μ 43 0 (iaI as 1))) ∧ μ' = st (st μ 38 0 0 0) 43 0 (iaI as 1) (iaI as 2)), fun σ as μ k => False)
def cd_X5_allow : Cd := mkcd k_X5_allow co_X5 fl_X5 [(127, cl_X5_refused)] [(145, cl_X5_isClient)] [] [] 5 3 0
set_option maxHeartbeats 4000000 in
set_option maxRecDepth 20000 in
theorem run_X5_allow {ER : Option AV → Mm → Prop} {ET : Nat → Mm → Prop} (σ μ : Mm) (c m : Int) (hM : MR fam0 μ) (h_c : in32 c) (h_m : in32 m) (hP : (Wk μ ∧ Xk μ) ∧ (m = 0 ∨ m = 1)) (hER : ∀ ov μ', (((¬ (0 ≤ c ∧ c ≤ 5)) → ov = some (vI 0) ∧ μ' = st μ 38 0 0 1) ∧ (((0 ≤ c ∧ c ≤ 5) ∧ μ 44 0 c ≠ 0) → ov = some (vI 0) ∧ μ' = st μ 38 0 0 2) ∧ (((0 ≤ c ∧ c ≤ 5) ∧ μ 44 0 c = 0) → ov = some (vI (μ 43 0 c)) ∧ μ' = st (st μ 38 0 0 0) 43 0 c m)) → ER ov μ') : Run fam0 none cd_X5_allow ER ET 0 0 [some (vR 38 0), some (vI c), some (vI m), none, none] [] μ := by
  obtain ⟨⟨hW, hX⟩, hm⟩ := hP
  have hW0 : Wk (st μ 38 0 0 0) := Wk_st hW (by decide)
  have hLk := hW.1
  have hLk0 := hW0.1
  have hPk := hW.2.1
  have hPk0 := hW0.2.1
  have hGk := Gk_of hLk hW.2.2.2.2
  have hGk0 := Gk_of hLk0 hW0.2.2.2.2
  have hday := hX.1
  have hloc := hX.2.1.1
  have hrec := hX.2.2.1.1
  have hl0 := hLk.1
  have hbl := hX.2.2.2 c
  refine run_k 2 ?_
  show ∃ σ : Mm, cl_X5_isClient.2.2.1 σ [vI c] μ ∧ (∀ ov μ', cl_X5_isClient.2.2.2.1 σ [vI c] μ ov μ' → Run fam0 none cd_X5_allow ER ET 4 0 [some (vR 38 0), some (vI c), some (vI m), none, none] (ov.toList ++ []) μ') ∧ ∀ kx, cl_X5_isClient.2.2.2.2 σ [vI c] μ kx → thr cd_X5_allow ET (Run fam0 none cd_X5_allow ER ET) 1 0 [some (vR 38 0), some (vI c), some (vI m), none, none] μ kx
  refine ⟨μ, ⟨rfl, show True from True.intro⟩, fun ov μ' hq => ?_, fun k hk => hk.elim⟩
  obtain ⟨hov, hmu⟩ : ov = some (vI (bi (0 ≤ c ∧ c ≤ 5))) ∧ μ' = μ := hq
  rw [hov, hmu]
  show Run fam0 none cd_X5_allow ER ET 4 0 [some (vR 38 0), some (vI c), some (vI m), none, none] [vI (bi (0 ≤ c ∧ c ≤ 5))] μ
  refine run_k 4 ?_
  show ((bi (0 ≤ c ∧ c ≤ 5)) ≠ 0 → Run fam0 none cd_X5_allow ER ET 14 0 [some (vR 38 0), some (vI c), some (vI m), some (vI (bi (0 ≤ c ∧ c ≤ 5))), none] [vR 38 0] μ) ∧ ((bi (0 ≤ c ∧ c ≤ 5)) = 0 → Run fam0 none cd_X5_allow ER ET 10 0 [some (vR 38 0), some (vI c), some (vI m), some (vI (bi (0 ≤ c ∧ c ≤ 5))), none] [vR 38 0] μ)
  refine ⟨fun c2 => ?_, fun c2 => ?_⟩
  · replace c2 := (bi_n0.mp c2)
    refine run_k 5 ?_
    show (0 ≤ c ∧ c < 6) ∧ (((μ 44 0 c) = 0 → Run fam0 none cd_X5_allow ER ET 27 0 [some (vR 38 0), some (vI c), some (vI m), some (vI (bi (0 ≤ c ∧ c ≤ 5))), none] [vR 38 0] μ) ∧ ((μ 44 0 c) ≠ 0 → Run fam0 none cd_X5_allow ER ET 23 0 [some (vR 38 0), some (vI c), some (vI m), some (vI (bi (0 ≤ c ∧ c ≤ 5))), none] [vR 38 0] μ))
    refine ⟨by omega, ?_⟩
    refine ⟨fun c3 => ?_, fun c3 => ?_⟩
    · refine run_k 2 ?_
      show ∃ σ : Mm, cl_X5_refused.2.2.1 σ [vR 38 0, vI 0] μ ∧ (∀ ov μ', cl_X5_refused.2.2.2.1 σ [vR 38 0, vI 0] μ ov μ' → Run fam0 none cd_X5_allow ER ET 31 0 [some (vR 38 0), some (vI c), some (vI m), some (vI (bi (0 ≤ c ∧ c ≤ 5))), none] (ov.toList ++ []) μ') ∧ ∀ kx, cl_X5_refused.2.2.2.2 σ [vR 38 0, vI 0] μ kx → thr cd_X5_allow ET (Run fam0 none cd_X5_allow ER ET) 28 0 [some (vR 38 0), some (vI c), some (vI m), some (vI (bi (0 ≤ c ∧ c ≤ 5))), none] μ kx
      refine ⟨μ, ⟨rfl, show True from True.intro⟩, fun ov μ' hq => ?_, fun k hk => hk.elim⟩
      obtain ⟨hov, hmu⟩ : ov = some (vI 0) ∧ μ' = st μ 38 0 0 0 := hq
      rw [hov, hmu]
      show Run fam0 none cd_X5_allow ER ET 31 0 [some (vR 38 0), some (vI c), some (vI m), some (vI (bi (0 ≤ c ∧ c ≤ 5))), none] [vI 0] (st μ 38 0 0 0)
      refine run_k 1 ?_
      show (0 = 0 → Run fam0 none cd_X5_allow ER ET 36 0 [some (vR 38 0), some (vI c), some (vI m), some (vI (bi (0 ≤ c ∧ c ≤ 5))), none] [] (st μ 38 0 0 0)) ∧ (0 ≠ 0 → Run fam0 none cd_X5_allow ER ET 34 0 [some (vR 38 0), some (vI c), some (vI m), some (vI (bi (0 ≤ c ∧ c ≤ 5))), none] [] (st μ 38 0 0 0))
      refine ⟨fun c5 => ?_, fun c5 => absurd c5 (by decide)⟩
      refine run_k 12 ?_
      show (0 ≤ c ∧ c < 6) ∧ ((0 ≤ c ∧ c < 6) ∧ ((m = 0 ∨ m = 1) ∧ (((μ 43 0 c) = 0 ∨ (μ 43 0 c) = 1) ∧ ER (some (vI (μ 43 0 c))) (st (st μ 38 0 0 0) 43 0 c m))))
      refine ⟨by omega, ?_⟩
      refine ⟨by omega, ?_⟩
      refine ⟨by omega, ?_⟩
      refine ⟨by omega, ?_⟩
      refine hER _ _ ⟨fun h => ?_, fun h => ?_, fun h => ?_⟩ <;> first | (exfalso; omega) | exact ⟨rfl, rfl⟩
    · refine run_k 3 ?_
      show ∃ σ : Mm, cl_X5_refused.2.2.1 σ [vR 38 0, vI 2] μ ∧ (∀ ov μ', cl_X5_refused.2.2.2.1 σ [vR 38 0, vI 2] μ ov μ' → Run fam0 none cd_X5_allow ER ET 31 0 [some (vR 38 0), some (vI c), some (vI m), some (vI (bi (0 ≤ c ∧ c ≤ 5))), none] (ov.toList ++ []) μ') ∧ ∀ kx, cl_X5_refused.2.2.2.2 σ [vR 38 0, vI 2] μ kx → thr cd_X5_allow ET (Run fam0 none cd_X5_allow ER ET) 28 0 [some (vR 38 0), some (vI c), some (vI m), some (vI (bi (0 ≤ c ∧ c ≤ 5))), none] μ kx
      refine ⟨μ, ⟨rfl, show True from True.intro⟩, fun ov μ' hq => ?_, fun k hk => hk.elim⟩
      obtain ⟨hov, hmu⟩ : ov = some (vI 1) ∧ μ' = st μ 38 0 0 2 := hq
      rw [hov, hmu]
      show Run fam0 none cd_X5_allow ER ET 31 0 [some (vR 38 0), some (vI c), some (vI m), some (vI (bi (0 ≤ c ∧ c ≤ 5))), none] [vI 1] (st μ 38 0 0 2)
      refine run_k 1 ?_
      show (1 = 0 → Run fam0 none cd_X5_allow ER ET 36 0 [some (vR 38 0), some (vI c), some (vI m), some (vI (bi (0 ≤ c ∧ c ≤ 5))), none] [] (st μ 38 0 0 2)) ∧ (1 ≠ 0 → Run fam0 none cd_X5_allow ER ET 34 0 [some (vR 38 0), some (vI c), some (vI m), some (vI (bi (0 ≤ c ∧ c ≤ 5))), none] [] (st μ 38 0 0 2))
      refine ⟨fun c8 => absurd c8 (by decide), fun c8 => ?_⟩
      refine run_k 2 ?_
      show (0 = 0 ∨ 0 = 1) ∧ ER (some (vI 0)) (st μ 38 0 0 2)
      refine ⟨by omega, ?_⟩
      refine hER _ _ ⟨fun h => ?_, fun h => ?_, fun h => ?_⟩ <;> first | (exfalso; omega) | exact ⟨rfl, rfl⟩
  · replace c2 := (bi_e0.mp c2)
    refine run_k 3 ?_
    show ∃ σ : Mm, cl_X5_refused.2.2.1 σ [vR 38 0, vI 1] μ ∧ (∀ ov μ', cl_X5_refused.2.2.2.1 σ [vR 38 0, vI 1] μ ov μ' → Run fam0 none cd_X5_allow ER ET 31 0 [some (vR 38 0), some (vI c), some (vI m), some (vI (bi (0 ≤ c ∧ c ≤ 5))), none] (ov.toList ++ []) μ') ∧ ∀ kx, cl_X5_refused.2.2.2.2 σ [vR 38 0, vI 1] μ kx → thr cd_X5_allow ET (Run fam0 none cd_X5_allow ER ET) 28 0 [some (vR 38 0), some (vI c), some (vI m), some (vI (bi (0 ≤ c ∧ c ≤ 5))), none] μ kx
    refine ⟨μ, ⟨rfl, show True from True.intro⟩, fun ov μ' hq => ?_, fun k hk => hk.elim⟩
    obtain ⟨hov, hmu⟩ : ov = some (vI 1) ∧ μ' = st μ 38 0 0 1 := hq
    rw [hov, hmu]
    show Run fam0 none cd_X5_allow ER ET 31 0 [some (vR 38 0), some (vI c), some (vI m), some (vI (bi (0 ≤ c ∧ c ≤ 5))), none] [vI 1] (st μ 38 0 0 1)
    refine run_k 1 ?_
    show (1 = 0 → Run fam0 none cd_X5_allow ER ET 36 0 [some (vR 38 0), some (vI c), some (vI m), some (vI (bi (0 ≤ c ∧ c ≤ 5))), none] [] (st μ 38 0 0 1)) ∧ (1 ≠ 0 → Run fam0 none cd_X5_allow ER ET 34 0 [some (vR 38 0), some (vI c), some (vI m), some (vI (bi (0 ≤ c ∧ c ≤ 5))), none] [] (st μ 38 0 0 1))
    refine ⟨fun c11 => absurd c11 (by decide), fun c11 => ?_⟩
    refine run_k 2 ?_
    show (0 = 0 ∨ 0 = 1) ∧ ER (some (vI 0)) (st μ 38 0 0 1)
    refine ⟨by omega, ?_⟩
    refine hER _ _ ⟨fun h => ?_, fun h => ?_, fun h => ?_⟩ <;> first | (exfalso; omega) | exact ⟨rfl, rfl⟩
set_option maxRecDepth 20000 in
theorem con_X5_allow (l : Launch) (htr : l.stackTraces = false) (σ : Mm) : CON fam0 63 l yX5_allow (Cond.code yX5_allow cX5_allow 5 (some .boolean) :: wm) 2 42 0 (cl_X5_allow.2.2.1 σ) (cl_X5_allow.2.2.2.1 σ) (cl_X5_allow.2.2.2.2 σ) :=
  con_of (cd := cd_X5_allow) (own := RX5) (rk := 3) (sc_of htr (by decide) k_X5_allow_ok (by decide +kernel) co_X5_ok fl_X5_ok (all_cons ⟨RX5, yX5_refused, cX5_refused, 2, (some .boolean), 0, 0, 1, con_X5_refused l htr, rfl, vw_X5_127, ⟨rfl, by decide, by decide, by decide +kernel⟩, ⟨by decide, by decide⟩, fun σ as μ h => ⟨38, 0, _, h.1, rfl, TX5, 31, rfl⟩⟩ all_nil) (all_cons ⟨yX5_isClient, cX5_isClient, 1, (some .boolean), 1, 22, con_X5_isClient l htr, vw_X5_145, ⟨by decide, by decide, by decide +kernel⟩, ⟨by decide, by decide⟩⟩ all_nil) all_nil) rfl (by decide +kernel) rfl rfl rfl rfl (fun as μ hs => by rw [hs.1]; exact Nat.le_of_ble_eq_true rfl)
    (fun as μ hs hM hrg => by
      have hs1 := hs.1
      have hmem : ∀ v, v ∈ ([vR 38 0, vI (iaI as 1), vI (iaI as 2)] : List AV) → rg fam0 v := by rw [← hs1]; exact hrg
      have key := run_X5_allow (ER := cl_X5_allow.2.2.2.1 σ as μ) (ET := fun k μ' => cl_X5_allow.2.2.2.2 σ as μ k ∧ μ' = μ) σ μ (iaI as 1) (iaI as 2) hM (hmem (vI (iaI as 1)) (by simp)) (hmem (vI (iaI as 2)) (by simp)) hs.2 (fun ov μ' h => h)
      have e : entL as 5 = [some (vR 38 0), some (vI (iaI as 1)), some (vI (iaI as 2)), none, none] := by rw [hs1]; rfl
      rw [e]; exact key)
/-! ### PrimeborrowModel.buy -/
def cl_X5_buy : Cl := (4, 0, fun σ as μ => as = [vR 38 0, vI (iaI as 1), vI (iaI as 2), vI (iaI as 3)] ∧ (Wk μ ∧ Xk μ), fun σ as μ ov μ' => ((¬ ((0 ≤ (iaI as 1) ∧ (iaI as 1) ≤ 5) ∧ (0 ≤ (iaI as 2) ∧ (iaI as 2) ≤ 3))) → ov = some (vL 0) ∧ μ' = st μ 38 0 0 1) ∧ ((((0 ≤ (iaI as 1) ∧ (iaI as 1) ≤ 5) ∧ (0 ≤ (iaI as 2) ∧ (iaI as 2) ≤ 3)) ∧ ¬ (1 ≤ (iaI as 3) ∧ (iaI as 3) ≤ 500)) → ov = some (vL 0) ∧ μ' = st μ 38 0 0 2) ∧ (((((0 ≤ (iaI as 1) ∧ (iaI as 1) ≤ 5) ∧ (0 ≤ (iaI as 2) ∧ (iaI as 2) ≤ 3)) ∧ (1 ≤ (iaI as 3) ∧ (iaI as 3) ≤ 500)) ∧ (μ 44 0 (iaI as 1) ≠ 0 ∨ 500 < μ 42 0 (4 * (iaI as 1) + (iaI as 2)) + (iaI as 3))) → ov = some (vL 0) ∧ μ' = st μ 38 0 0 3) ∧ (((((0 ≤ (iaI as 1) ∧ (iaI as 1) ≤ 5) ∧ (0 ≤ (iaI as 2) ∧ (iaI as 2) ≤ 3)) ∧ (1 ≤ (iaI as 3) ∧ (iaI as 3) ≤ 500)) ∧ (μ 44 0 (iaI as 1) = 0 ∧ μ 42 0 (4 * (iaI as 1) + (iaI as 2)) + (iaI as 3) ≤ 500)) → ov = some (vL (buysF (st μ 38 0 0 0) (iaI as 1) (iaI as 2) (iaI as 3) 41 0 (iaI as 1))) ∧ μ' = buysF (st μ 38 0 0 0) (iaI as 1) (iaI as 2) (iaI as 3)), fun σ as μ k => False)
def cd_X5_buy : Cd := mkcd k_X5_buy co_X5 fl_X5 [(127, cl_X5_refused), (174, cl_X5_buys)] [(145, cl_X5_isClient), (122, cl_X5_isStock), (85, cl_X5_in)] [] [] 6 2 0
set_option maxHeartbeats 4000000 in
set_option maxRecDepth 20000 in
theorem run_X5_buy {ER : Option AV → Mm → Prop} {ET : Nat → Mm → Prop} (σ μ : Mm) (c s n : Int) (hM : MR fam0 μ) (h_c : in32 c) (h_s : in32 s) (h_n : in32 n) (hP : Wk μ ∧ Xk μ) (hER : ∀ ov μ', (((¬ ((0 ≤ c ∧ c ≤ 5) ∧ (0 ≤ s ∧ s ≤ 3))) → ov = some (vL 0) ∧ μ' = st μ 38 0 0 1) ∧ ((((0 ≤ c ∧ c ≤ 5) ∧ (0 ≤ s ∧ s ≤ 3)) ∧ ¬ (1 ≤ n ∧ n ≤ 500)) → ov = some (vL 0) ∧ μ' = st μ 38 0 0 2) ∧ (((((0 ≤ c ∧ c ≤ 5) ∧ (0 ≤ s ∧ s ≤ 3)) ∧ (1 ≤ n ∧ n ≤ 500)) ∧ (μ 44 0 c ≠ 0 ∨ 500 < μ 42 0 (4 * c + s) + n)) → ov = some (vL 0) ∧ μ' = st μ 38 0 0 3) ∧ (((((0 ≤ c ∧ c ≤ 5) ∧ (0 ≤ s ∧ s ≤ 3)) ∧ (1 ≤ n ∧ n ≤ 500)) ∧ (μ 44 0 c = 0 ∧ μ 42 0 (4 * c + s) + n ≤ 500)) → ov = some (vL (buysF (st μ 38 0 0 0) c s n 41 0 c)) ∧ μ' = buysF (st μ 38 0 0 0) c s n)) → ER ov μ') : Run fam0 none cd_X5_buy ER ET 0 0 [some (vR 38 0), some (vI c), some (vI s), some (vI n), none, none] [] μ := by
  obtain ⟨hW, hX⟩ := hP
  have hW0 : Wk (st μ 38 0 0 0) := Wk_st hW (by decide)
  have hLk := hW.1
  have hLk0 := hW0.1
  have hPk := hW.2.1
  have hPk0 := hW0.2.1
  have hGk := Gk_of hLk hW.2.2.2.2
  have hGk0 := Gk_of hLk0 hW0.2.2.2.2
  have hday := hX.1
  have hloc := hX.2.1.1
  have hrec := hX.2.2.1.1
  have hl0 := hLk.1
  have e42 := st_o (μ := μ) (f := 38) (g := 42) (r := 0) (t := 0) (i := 0) (j := 4 * c + s) (v := 0) (by decide)
  have hp := hPk (4 * c + s)
  refine run_k 2 ?_
  show ∃ σ : Mm, cl_X5_isClient.2.2.1 σ [vI c] μ ∧ (∀ ov μ', cl_X5_isClient.2.2.2.1 σ [vI c] μ ov μ' → Run fam0 none cd_X5_buy ER ET 4 0 [some (vR 38 0), some (vI c), some (vI s), some (vI n), none, none] (ov.toList ++ []) μ') ∧ ∀ kx, cl_X5_isClient.2.2.2.2 σ [vI c] μ kx → thr cd_X5_buy ET (Run fam0 none cd_X5_buy ER ET) 1 0 [some (vR 38 0), some (vI c), some (vI s), some (vI n), none, none] μ kx
  refine ⟨μ, ⟨rfl, show True from True.intro⟩, fun ov μ' hq => ?_, fun k hk => hk.elim⟩
  obtain ⟨hov, hmu⟩ : ov = some (vI (bi (0 ≤ c ∧ c ≤ 5))) ∧ μ' = μ := hq
  rw [hov, hmu]
  show Run fam0 none cd_X5_buy ER ET 4 0 [some (vR 38 0), some (vI c), some (vI s), some (vI n), none, none] [vI (bi (0 ≤ c ∧ c ≤ 5))] μ
  refine run_k 1 ?_
  show ((bi (0 ≤ c ∧ c ≤ 5)) = 0 → Run fam0 none cd_X5_buy ER ET 18 0 [some (vR 38 0), some (vI c), some (vI s), some (vI n), none, none] [] μ) ∧ ((bi (0 ≤ c ∧ c ≤ 5)) ≠ 0 → Run fam0 none cd_X5_buy ER ET 7 0 [some (vR 38 0), some (vI c), some (vI s), some (vI n), none, none] [] μ)
  refine ⟨fun c2 => ?_, fun c2 => ?_⟩
  · replace c2 := (bi_e0.mp c2)
    refine run_k 6 ?_
    show ∃ σ : Mm, cl_X5_in.2.2.1 σ [vI n, vI 1, vI 500] μ ∧ (∀ ov μ', cl_X5_in.2.2.2.1 σ [vI n, vI 1, vI 500] μ ov μ' → Run fam0 none cd_X5_buy ER ET 29 0 [some (vR 38 0), some (vI c), some (vI s), some (vI n), some (vI 0), none] (ov.toList ++ []) μ') ∧ ∀ kx, cl_X5_in.2.2.2.2 σ [vI n, vI 1, vI 500] μ kx → thr cd_X5_buy ET (Run fam0 none cd_X5_buy ER ET) 26 0 [some (vR 38 0), some (vI c), some (vI s), some (vI n), some (vI 0), none] μ kx
    refine ⟨μ, ⟨rfl, show True from True.intro⟩, fun ov μ' hq => ?_, fun k hk => hk.elim⟩
    obtain ⟨hov, hmu⟩ : ov = some (vI (bi (1 ≤ n ∧ n ≤ 500))) ∧ μ' = μ := hq
    rw [hov, hmu]
    show Run fam0 none cd_X5_buy ER ET 29 0 [some (vR 38 0), some (vI c), some (vI s), some (vI n), some (vI 0), none] [vI (bi (1 ≤ n ∧ n ≤ 500))] μ
    refine run_k 4 ?_
    show (0 ≠ 0 → Run fam0 none cd_X5_buy ER ET 41 0 [some (vR 38 0), some (vI c), some (vI s), some (vI n), some (vI 0), some (vI (bi (1 ≤ n ∧ n ≤ 500)))] [vR 38 0] μ) ∧ (0 = 0 → Run fam0 none cd_X5_buy ER ET 37 0 [some (vR 38 0), some (vI c), some (vI s), some (vI n), some (vI 0), some (vI (bi (1 ≤ n ∧ n ≤ 500)))] [vR 38 0] μ)
    refine ⟨fun c4 => absurd c4 (by decide), fun c4 => ?_⟩
    refine run_k 3 ?_
    show ∃ σ : Mm, cl_X5_refused.2.2.1 σ [vR 38 0, vI 1] μ ∧ (∀ ov μ', cl_X5_refused.2.2.2.1 σ [vR 38 0, vI 1] μ ov μ' → Run fam0 none cd_X5_buy ER ET 85 0 [some (vR 38 0), some (vI c), some (vI s), some (vI n), some (vI 0), some (vI (bi (1 ≤ n ∧ n ≤ 500)))] (ov.toList ++ []) μ') ∧ ∀ kx, cl_X5_refused.2.2.2.2 σ [vR 38 0, vI 1] μ kx → thr cd_X5_buy ET (Run fam0 none cd_X5_buy ER ET) 82 0 [some (vR 38 0), some (vI c), some (vI s), some (vI n), some (vI 0), some (vI (bi (1 ≤ n ∧ n ≤ 500)))] μ kx
    refine ⟨μ, ⟨rfl, show True from True.intro⟩, fun ov μ' hq => ?_, fun k hk => hk.elim⟩
    obtain ⟨hov, hmu⟩ : ov = some (vI 1) ∧ μ' = st μ 38 0 0 1 := hq
    rw [hov, hmu]
    show Run fam0 none cd_X5_buy ER ET 85 0 [some (vR 38 0), some (vI c), some (vI s), some (vI n), some (vI 0), some (vI (bi (1 ≤ n ∧ n ≤ 500)))] [vI 1] (st μ 38 0 0 1)
    refine run_k 1 ?_
    show (1 = 0 → Run fam0 none cd_X5_buy ER ET 90 0 [some (vR 38 0), some (vI c), some (vI s), some (vI n), some (vI 0), some (vI (bi (1 ≤ n ∧ n ≤ 500)))] [] (st μ 38 0 0 1)) ∧ (1 ≠ 0 → Run fam0 none cd_X5_buy ER ET 88 0 [some (vR 38 0), some (vI c), some (vI s), some (vI n), some (vI 0), some (vI (bi (1 ≤ n ∧ n ≤ 500)))] [] (st μ 38 0 0 1))
    refine ⟨fun c6 => absurd c6 (by decide), fun c6 => ?_⟩
    refine run_k 2 ?_
    show ER (some (vL 0)) (st μ 38 0 0 1)
    refine hER _ _ ⟨fun h => ?_, fun h => ?_, fun h => ?_, fun h => ?_⟩ <;> first | (exfalso; omega) | exact ⟨rfl, rfl⟩
  · replace c2 := (bi_n0.mp c2)
    refine run_k 2 ?_
    show ∃ σ : Mm, cl_X5_isStock.2.2.1 σ [vI s] μ ∧ (∀ ov μ', cl_X5_isStock.2.2.2.1 σ [vI s] μ ov μ' → Run fam0 none cd_X5_buy ER ET 11 0 [some (vR 38 0), some (vI c), some (vI s), some (vI n), none, none] (ov.toList ++ []) μ') ∧ ∀ kx, cl_X5_isStock.2.2.2.2 σ [vI s] μ kx → thr cd_X5_buy ET (Run fam0 none cd_X5_buy ER ET) 8 0 [some (vR 38 0), some (vI c), some (vI s), some (vI n), none, none] μ kx
    refine ⟨μ, ⟨rfl, show True from True.intro⟩, fun ov μ' hq => ?_, fun k hk => hk.elim⟩
    obtain ⟨hov, hmu⟩ : ov = some (vI (bi (0 ≤ s ∧ s ≤ 3))) ∧ μ' = μ := hq
    rw [hov, hmu]
    show Run fam0 none cd_X5_buy ER ET 11 0 [some (vR 38 0), some (vI c), some (vI s), some (vI n), none, none] [vI (bi (0 ≤ s ∧ s ≤ 3))] μ
    refine run_k 1 ?_
    show ((bi (0 ≤ s ∧ s ≤ 3)) = 0 → Run fam0 none cd_X5_buy ER ET 18 0 [some (vR 38 0), some (vI c), some (vI s), some (vI n), none, none] [] μ) ∧ ((bi (0 ≤ s ∧ s ≤ 3)) ≠ 0 → Run fam0 none cd_X5_buy ER ET 14 0 [some (vR 38 0), some (vI c), some (vI s), some (vI n), none, none] [] μ)
    refine ⟨fun c9 => ?_, fun c9 => ?_⟩
    · replace c9 := (bi_e0.mp c9)
      refine run_k 6 ?_
      show ∃ σ : Mm, cl_X5_in.2.2.1 σ [vI n, vI 1, vI 500] μ ∧ (∀ ov μ', cl_X5_in.2.2.2.1 σ [vI n, vI 1, vI 500] μ ov μ' → Run fam0 none cd_X5_buy ER ET 29 0 [some (vR 38 0), some (vI c), some (vI s), some (vI n), some (vI 0), none] (ov.toList ++ []) μ') ∧ ∀ kx, cl_X5_in.2.2.2.2 σ [vI n, vI 1, vI 500] μ kx → thr cd_X5_buy ET (Run fam0 none cd_X5_buy ER ET) 26 0 [some (vR 38 0), some (vI c), some (vI s), some (vI n), some (vI 0), none] μ kx
      refine ⟨μ, ⟨rfl, show True from True.intro⟩, fun ov μ' hq => ?_, fun k hk => hk.elim⟩
      obtain ⟨hov, hmu⟩ : ov = some (vI (bi (1 ≤ n ∧ n ≤ 500))) ∧ μ' = μ := hq
      rw [hov, hmu]
      show Run fam0 none cd_X5_buy ER ET 29 0 [some (vR 38 0), some (vI c), some (vI s), some (vI n), some (vI 0), none] [vI (bi (1 ≤ n ∧ n ≤ 500))] μ
      refine run_k 4 ?_
      show (0 ≠ 0 → Run fam0 none cd_X5_buy ER ET 41 0 [some (vR 38 0), some (vI c), some (vI s), some (vI n), some (vI 0), some (vI (bi (1 ≤ n ∧ n ≤ 500)))] [vR 38 0] μ) ∧ (0 = 0 → Run fam0 none cd_X5_buy ER ET 37 0 [some (vR 38 0), some (vI c), some (vI s), some (vI n), some (vI 0), some (vI (bi (1 ≤ n ∧ n ≤ 500)))] [vR 38 0] μ)
      refine ⟨fun c11 => absurd c11 (by decide), fun c11 => ?_⟩
      refine run_k 3 ?_
      show ∃ σ : Mm, cl_X5_refused.2.2.1 σ [vR 38 0, vI 1] μ ∧ (∀ ov μ', cl_X5_refused.2.2.2.1 σ [vR 38 0, vI 1] μ ov μ' → Run fam0 none cd_X5_buy ER ET 85 0 [some (vR 38 0), some (vI c), some (vI s), some (vI n), some (vI 0), some (vI (bi (1 ≤ n ∧ n ≤ 500)))] (ov.toList ++ []) μ') ∧ ∀ kx, cl_X5_refused.2.2.2.2 σ [vR 38 0, vI 1] μ kx → thr cd_X5_buy ET (Run fam0 none cd_X5_buy ER ET) 82 0 [some (vR 38 0), some (vI c), some (vI s), some (vI n), some (vI 0), some (vI (bi (1 ≤ n ∧ n ≤ 500)))] μ kx
      refine ⟨μ, ⟨rfl, show True from True.intro⟩, fun ov μ' hq => ?_, fun k hk => hk.elim⟩
      obtain ⟨hov, hmu⟩ : ov = some (vI 1) ∧ μ' = st μ 38 0 0 1 := hq
      rw [hov, hmu]
      show Run fam0 none cd_X5_buy ER ET 85 0 [some (vR 38 0), some (vI c), some (vI s), some (vI n), some (vI 0), some (vI (bi (1 ≤ n ∧ n ≤ 500)))] [vI 1] (st μ 38 0 0 1)
      refine run_k 1 ?_
      show (1 = 0 → Run fam0 none cd_X5_buy ER ET 90 0 [some (vR 38 0), some (vI c), some (vI s), some (vI n), some (vI 0), some (vI (bi (1 ≤ n ∧ n ≤ 500)))] [] (st μ 38 0 0 1)) ∧ (1 ≠ 0 → Run fam0 none cd_X5_buy ER ET 88 0 [some (vR 38 0), some (vI c), some (vI s), some (vI n), some (vI 0), some (vI (bi (1 ≤ n ∧ n ≤ 500)))] [] (st μ 38 0 0 1))
      refine ⟨fun c13 => absurd c13 (by decide), fun c13 => ?_⟩
      refine run_k 2 ?_
      show ER (some (vL 0)) (st μ 38 0 0 1)
      refine hER _ _ ⟨fun h => ?_, fun h => ?_, fun h => ?_, fun h => ?_⟩ <;> first | (exfalso; omega) | exact ⟨rfl, rfl⟩
    · replace c9 := (bi_n0.mp c9)
      refine run_k 7 ?_
      show ∃ σ : Mm, cl_X5_in.2.2.1 σ [vI n, vI 1, vI 500] μ ∧ (∀ ov μ', cl_X5_in.2.2.2.1 σ [vI n, vI 1, vI 500] μ ov μ' → Run fam0 none cd_X5_buy ER ET 29 0 [some (vR 38 0), some (vI c), some (vI s), some (vI n), some (vI 1), none] (ov.toList ++ []) μ') ∧ ∀ kx, cl_X5_in.2.2.2.2 σ [vI n, vI 1, vI 500] μ kx → thr cd_X5_buy ET (Run fam0 none cd_X5_buy ER ET) 26 0 [some (vR 38 0), some (vI c), some (vI s), some (vI n), some (vI 1), none] μ kx
      refine ⟨μ, ⟨rfl, show True from True.intro⟩, fun ov μ' hq => ?_, fun k hk => hk.elim⟩
      obtain ⟨hov, hmu⟩ : ov = some (vI (bi (1 ≤ n ∧ n ≤ 500))) ∧ μ' = μ := hq
      rw [hov, hmu]
      show Run fam0 none cd_X5_buy ER ET 29 0 [some (vR 38 0), some (vI c), some (vI s), some (vI n), some (vI 1), none] [vI (bi (1 ≤ n ∧ n ≤ 500))] μ
      refine run_k 4 ?_
      show (1 ≠ 0 → Run fam0 none cd_X5_buy ER ET 41 0 [some (vR 38 0), some (vI c), some (vI s), some (vI n), some (vI 1), some (vI (bi (1 ≤ n ∧ n ≤ 500)))] [vR 38 0] μ) ∧ (1 = 0 → Run fam0 none cd_X5_buy ER ET 37 0 [some (vR 38 0), some (vI c), some (vI s), some (vI n), some (vI 1), some (vI (bi (1 ≤ n ∧ n ≤ 500)))] [vR 38 0] μ)
      refine ⟨fun c16 => ?_, fun c16 => absurd c16 (by decide)⟩
      refine run_k 2 ?_
      show ((bi (1 ≤ n ∧ n ≤ 500)) ≠ 0 → Run fam0 none cd_X5_buy ER ET 50 0 [some (vR 38 0), some (vI c), some (vI s), some (vI n), some (vI 1), some (vI (bi (1 ≤ n ∧ n ≤ 500)))] [vR 38 0] μ) ∧ ((bi (1 ≤ n ∧ n ≤ 500)) = 0 → Run fam0 none cd_X5_buy ER ET 46 0 [some (vR 38 0), some (vI c), some (vI s), some (vI n), some (vI 1), some (vI (bi (1 ≤ n ∧ n ≤ 500)))] [vR 38 0] μ)
      refine ⟨fun c17 => ?_, fun c17 => ?_⟩
      · replace c17 := (bi_n0.mp c17)
        refine run_k 5 ?_
        show (0 ≤ c ∧ c < 6) ∧ (((μ 44 0 c) ≠ 0 → Run fam0 none cd_X5_buy ER ET 77 0 [some (vR 38 0), some (vI c), some (vI s), some (vI n), some (vI 1), some (vI (bi (1 ≤ n ∧ n ≤ 500)))] [vR 38 0] μ) ∧ ((μ 44 0 c) = 0 → Run fam0 none cd_X5_buy ER ET 59 0 [some (vR 38 0), some (vI c), some (vI s), some (vI n), some (vI 1), some (vI (bi (1 ≤ n ∧ n ≤ 500)))] [vR 38 0] μ))
        refine ⟨by omega, ?_⟩
        refine ⟨fun c18 => ?_, fun c18 => ?_⟩
        · refine run_k 3 ?_
          show ∃ σ : Mm, cl_X5_refused.2.2.1 σ [vR 38 0, vI 3] μ ∧ (∀ ov μ', cl_X5_refused.2.2.2.1 σ [vR 38 0, vI 3] μ ov μ' → Run fam0 none cd_X5_buy ER ET 85 0 [some (vR 38 0), some (vI c), some (vI s), some (vI n), some (vI 1), some (vI (bi (1 ≤ n ∧ n ≤ 500)))] (ov.toList ++ []) μ') ∧ ∀ kx, cl_X5_refused.2.2.2.2 σ [vR 38 0, vI 3] μ kx → thr cd_X5_buy ET (Run fam0 none cd_X5_buy ER ET) 82 0 [some (vR 38 0), some (vI c), some (vI s), some (vI n), some (vI 1), some (vI (bi (1 ≤ n ∧ n ≤ 500)))] μ kx
          refine ⟨μ, ⟨rfl, show True from True.intro⟩, fun ov μ' hq => ?_, fun k hk => hk.elim⟩
          obtain ⟨hov, hmu⟩ : ov = some (vI 1) ∧ μ' = st μ 38 0 0 3 := hq
          rw [hov, hmu]
          show Run fam0 none cd_X5_buy ER ET 85 0 [some (vR 38 0), some (vI c), some (vI s), some (vI n), some (vI 1), some (vI (bi (1 ≤ n ∧ n ≤ 500)))] [vI 1] (st μ 38 0 0 3)
          refine run_k 1 ?_
          show (1 = 0 → Run fam0 none cd_X5_buy ER ET 90 0 [some (vR 38 0), some (vI c), some (vI s), some (vI n), some (vI 1), some (vI (bi (1 ≤ n ∧ n ≤ 500)))] [] (st μ 38 0 0 3)) ∧ (1 ≠ 0 → Run fam0 none cd_X5_buy ER ET 88 0 [some (vR 38 0), some (vI c), some (vI s), some (vI n), some (vI 1), some (vI (bi (1 ≤ n ∧ n ≤ 500)))] [] (st μ 38 0 0 3))
          refine ⟨fun c20 => absurd c20 (by decide), fun c20 => ?_⟩
          refine run_k 2 ?_
          show ER (some (vL 0)) (st μ 38 0 0 3)
          refine hER _ _ ⟨fun h => ?_, fun h => ?_, fun h => ?_, fun h => ?_⟩ <;> first | (exfalso; omega) | exact ⟨rfl, rfl⟩
        · refine run_k 12 ?_
          show (0 ≤ (w32 ((w32 (4 * c)) + s)) ∧ (w32 ((w32 (4 * c)) + s)) < 24) ∧ (((w32 ((μ 42 0 (w32 ((w32 (4 * c)) + s))) + n)) ≤ 500 → Run fam0 none cd_X5_buy ER ET 81 0 [some (vR 38 0), some (vI c), some (vI s), some (vI n), some (vI 1), some (vI (bi (1 ≤ n ∧ n ≤ 500)))] [vR 38 0] μ) ∧ (500 < (w32 ((μ 42 0 (w32 ((w32 (4 * c)) + s))) + n)) → Run fam0 none cd_X5_buy ER ET 77 0 [some (vR 38 0), some (vI c), some (vI s), some (vI n), some (vI 1), some (vI (bi (1 ≤ n ∧ n ≤ 500)))] [vR 38 0] μ))
          rw [show w32 (4 * c) = 4 * c from w32_id (by simp only [in32]; omega)]
          rw [show w32 ((4 * c) + s) = (4 * c) + s from w32_id (by simp only [in32]; omega)]
          rw [show w32 ((μ 42 0 ((4 * c) + s)) + n) = (μ 42 0 ((4 * c) + s)) + n from w32_id (by simp only [in32]; omega)]
          refine ⟨by omega, ?_⟩
          refine ⟨fun c22 => ?_, fun c22 => ?_⟩
          · refine run_k 2 ?_
            show ∃ σ : Mm, cl_X5_refused.2.2.1 σ [vR 38 0, vI 0] μ ∧ (∀ ov μ', cl_X5_refused.2.2.2.1 σ [vR 38 0, vI 0] μ ov μ' → Run fam0 none cd_X5_buy ER ET 85 0 [some (vR 38 0), some (vI c), some (vI s), some (vI n), some (vI 1), some (vI (bi (1 ≤ n ∧ n ≤ 500)))] (ov.toList ++ []) μ') ∧ ∀ kx, cl_X5_refused.2.2.2.2 σ [vR 38 0, vI 0] μ kx → thr cd_X5_buy ET (Run fam0 none cd_X5_buy ER ET) 82 0 [some (vR 38 0), some (vI c), some (vI s), some (vI n), some (vI 1), some (vI (bi (1 ≤ n ∧ n ≤ 500)))] μ kx
            refine ⟨μ, ⟨rfl, show True from True.intro⟩, fun ov μ' hq => ?_, fun k hk => hk.elim⟩
            obtain ⟨hov, hmu⟩ : ov = some (vI 0) ∧ μ' = st μ 38 0 0 0 := hq
            rw [hov, hmu]
            show Run fam0 none cd_X5_buy ER ET 85 0 [some (vR 38 0), some (vI c), some (vI s), some (vI n), some (vI 1), some (vI (bi (1 ≤ n ∧ n ≤ 500)))] [vI 0] (st μ 38 0 0 0)
            refine run_k 1 ?_
            show (0 = 0 → Run fam0 none cd_X5_buy ER ET 90 0 [some (vR 38 0), some (vI c), some (vI s), some (vI n), some (vI 1), some (vI (bi (1 ≤ n ∧ n ≤ 500)))] [] (st μ 38 0 0 0)) ∧ (0 ≠ 0 → Run fam0 none cd_X5_buy ER ET 88 0 [some (vR 38 0), some (vI c), some (vI s), some (vI n), some (vI 1), some (vI (bi (1 ≤ n ∧ n ≤ 500)))] [] (st μ 38 0 0 0))
            refine ⟨fun c24 => ?_, fun c24 => absurd c24 (by decide)⟩
            refine run_k 5 ?_
            show ∃ σ : Mm, cl_X5_buys.2.2.1 σ [vR 38 0, vI c, vI s, vI n] (st μ 38 0 0 0) ∧ (∀ ov μ', cl_X5_buys.2.2.2.1 σ [vR 38 0, vI c, vI s, vI n] (st μ 38 0 0 0) ov μ' → Run fam0 none cd_X5_buy ER ET 97 0 [some (vR 38 0), some (vI c), some (vI s), some (vI n), some (vI 1), some (vI (bi (1 ≤ n ∧ n ≤ 500)))] (ov.toList ++ []) μ') ∧ ∀ kx, cl_X5_buys.2.2.2.2 σ [vR 38 0, vI c, vI s, vI n] (st μ 38 0 0 0) kx → thr cd_X5_buy ET (Run fam0 none cd_X5_buy ER ET) 94 0 [some (vR 38 0), some (vI c), some (vI s), some (vI n), some (vI 1), some (vI (bi (1 ≤ n ∧ n ≤ 500)))] (st μ 38 0 0 0) kx
            refine ⟨μ, ⟨rfl, show Wk (st μ 38 0 0 0) ∧ (0 ≤ c ∧ c ≤ 5) ∧ (0 ≤ s ∧ s ≤ 3) ∧ (1 ≤ n ∧ n ≤ 500) ∧ (st μ 38 0 0 0) 42 0 (4 * c + s) + n ≤ 500 from ⟨(by assumption), by omega, by omega, by omega, by omega⟩⟩, fun ov μ' hq => ?_, fun k hk => hk.elim⟩
            obtain ⟨hov, hmu⟩ : ov = none ∧ μ' = buysF (st μ 38 0 0 0) c s n := hq
            rw [hov, hmu]
            show Run fam0 none cd_X5_buy ER ET 97 0 [some (vR 38 0), some (vI c), some (vI s), some (vI n), some (vI 1), some (vI (bi (1 ≤ n ∧ n ≤ 500)))] [] (buysF (st μ 38 0 0 0) c s n)
            refine run_k 5 ?_
            show (0 ≤ c ∧ c < 6) ∧ (ER (some (vL ((buysF (st μ 38 0 0 0) c s n) 41 0 c))) (buysF (st μ 38 0 0 0) c s n))
            refine ⟨by omega, ?_⟩
            refine hER _ _ ⟨fun h => ?_, fun h => ?_, fun h => ?_, fun h => ?_⟩ <;> first | (exfalso; omega) | exact ⟨rfl, rfl⟩
          · refine run_k 3 ?_
            show ∃ σ : Mm, cl_X5_refused.2.2.1 σ [vR 38 0, vI 3] μ ∧ (∀ ov μ', cl_X5_refused.2.2.2.1 σ [vR 38 0, vI 3] μ ov μ' → Run fam0 none cd_X5_buy ER ET 85 0 [some (vR 38 0), some (vI c), some (vI s), some (vI n), some (vI 1), some (vI (bi (1 ≤ n ∧ n ≤ 500)))] (ov.toList ++ []) μ') ∧ ∀ kx, cl_X5_refused.2.2.2.2 σ [vR 38 0, vI 3] μ kx → thr cd_X5_buy ET (Run fam0 none cd_X5_buy ER ET) 82 0 [some (vR 38 0), some (vI c), some (vI s), some (vI n), some (vI 1), some (vI (bi (1 ≤ n ∧ n ≤ 500)))] μ kx
            refine ⟨μ, ⟨rfl, show True from True.intro⟩, fun ov μ' hq => ?_, fun k hk => hk.elim⟩
            obtain ⟨hov, hmu⟩ : ov = some (vI 1) ∧ μ' = st μ 38 0 0 3 := hq
            rw [hov, hmu]
            show Run fam0 none cd_X5_buy ER ET 85 0 [some (vR 38 0), some (vI c), some (vI s), some (vI n), some (vI 1), some (vI (bi (1 ≤ n ∧ n ≤ 500)))] [vI 1] (st μ 38 0 0 3)
            refine run_k 1 ?_
            show (1 = 0 → Run fam0 none cd_X5_buy ER ET 90 0 [some (vR 38 0), some (vI c), some (vI s), some (vI n), some (vI 1), some (vI (bi (1 ≤ n ∧ n ≤ 500)))] [] (st μ 38 0 0 3)) ∧ (1 ≠ 0 → Run fam0 none cd_X5_buy ER ET 88 0 [some (vR 38 0), some (vI c), some (vI s), some (vI n), some (vI 1), some (vI (bi (1 ≤ n ∧ n ≤ 500)))] [] (st μ 38 0 0 3))
            refine ⟨fun c28 => absurd c28 (by decide), fun c28 => ?_⟩
            refine run_k 2 ?_
            show ER (some (vL 0)) (st μ 38 0 0 3)
            refine hER _ _ ⟨fun h => ?_, fun h => ?_, fun h => ?_, fun h => ?_⟩ <;> first | (exfalso; omega) | exact ⟨rfl, rfl⟩
      · replace c17 := (bi_e0.mp c17)
        refine run_k 3 ?_
        show ∃ σ : Mm, cl_X5_refused.2.2.1 σ [vR 38 0, vI 2] μ ∧ (∀ ov μ', cl_X5_refused.2.2.2.1 σ [vR 38 0, vI 2] μ ov μ' → Run fam0 none cd_X5_buy ER ET 85 0 [some (vR 38 0), some (vI c), some (vI s), some (vI n), some (vI 1), some (vI (bi (1 ≤ n ∧ n ≤ 500)))] (ov.toList ++ []) μ') ∧ ∀ kx, cl_X5_refused.2.2.2.2 σ [vR 38 0, vI 2] μ kx → thr cd_X5_buy ET (Run fam0 none cd_X5_buy ER ET) 82 0 [some (vR 38 0), some (vI c), some (vI s), some (vI n), some (vI 1), some (vI (bi (1 ≤ n ∧ n ≤ 500)))] μ kx
        refine ⟨μ, ⟨rfl, show True from True.intro⟩, fun ov μ' hq => ?_, fun k hk => hk.elim⟩
        obtain ⟨hov, hmu⟩ : ov = some (vI 1) ∧ μ' = st μ 38 0 0 2 := hq
        rw [hov, hmu]
        show Run fam0 none cd_X5_buy ER ET 85 0 [some (vR 38 0), some (vI c), some (vI s), some (vI n), some (vI 1), some (vI (bi (1 ≤ n ∧ n ≤ 500)))] [vI 1] (st μ 38 0 0 2)
        refine run_k 1 ?_
        show (1 = 0 → Run fam0 none cd_X5_buy ER ET 90 0 [some (vR 38 0), some (vI c), some (vI s), some (vI n), some (vI 1), some (vI (bi (1 ≤ n ∧ n ≤ 500)))] [] (st μ 38 0 0 2)) ∧ (1 ≠ 0 → Run fam0 none cd_X5_buy ER ET 88 0 [some (vR 38 0), some (vI c), some (vI s), some (vI n), some (vI 1), some (vI (bi (1 ≤ n ∧ n ≤ 500)))] [] (st μ 38 0 0 2))
        refine ⟨fun c31 => absurd c31 (by decide), fun c31 => ?_⟩
        refine run_k 2 ?_
        show ER (some (vL 0)) (st μ 38 0 0 2)
        refine hER _ _ ⟨fun h => ?_, fun h => ?_, fun h => ?_, fun h => ?_⟩ <;> first | (exfalso; omega) | exact ⟨rfl, rfl⟩
set_option maxRecDepth 20000 in
theorem con_X5_buy (l : Launch) (htr : l.stackTraces = false) (σ : Mm) : CON fam0 63 l yX5_buy (Cond.code yX5_buy cX5_buy 6 (some .long) :: wm) 2 52 0 (cl_X5_buy.2.2.1 σ) (cl_X5_buy.2.2.2.1 σ) (cl_X5_buy.2.2.2.2 σ) :=
  con_of (cd := cd_X5_buy) (own := RX5) (rk := 2) (sc_of htr (by decide) k_X5_buy_ok (by decide +kernel) co_X5_ok fl_X5_ok (all_cons ⟨RX5, yX5_refused, cX5_refused, 2, (some .boolean), 0, 0, 1, con_X5_refused l htr, rfl, vw_X5_127, ⟨rfl, by decide, by decide, by decide +kernel⟩, ⟨by decide, by decide⟩, fun σ as μ h => ⟨38, 0, _, h.1, rfl, TX5, 31, rfl⟩⟩ (all_cons ⟨RX5, yX5_buys, cX5_buys, 6, none, 1, 27, 3, con_X5_buys l htr, rfl, vw_X5_174, ⟨rfl, by decide, by decide, by decide +kernel⟩, ⟨by decide, by decide⟩, fun σ as μ h => ⟨38, 0, _, h.1, rfl, TX5, 31, rfl⟩⟩ all_nil)) (all_cons ⟨yX5_isClient, cX5_isClient, 1, (some .boolean), 1, 22, con_X5_isClient l htr, vw_X5_145, ⟨by decide, by decide, by decide +kernel⟩, ⟨by decide, by decide⟩⟩ (all_cons ⟨yX5_isStock, cX5_isStock, 1, (some .boolean), 1, 22, con_X5_isStock l htr, vw_X5_122, ⟨by decide, by decide, by decide +kernel⟩, ⟨by decide, by decide⟩⟩ (all_cons ⟨yX5_in, cX5_in, 3, (some .boolean), 0, 0, con_X5_in l htr, vw_X5_85, ⟨by decide, by decide, by decide +kernel⟩, ⟨by decide, by decide⟩⟩ all_nil))) all_nil) rfl (by decide +kernel) rfl rfl rfl rfl (fun as μ hs => by rw [hs.1]; exact Nat.le_of_ble_eq_true rfl)
    (fun as μ hs hM hrg => by
      have hs1 := hs.1
      have hmem : ∀ v, v ∈ ([vR 38 0, vI (iaI as 1), vI (iaI as 2), vI (iaI as 3)] : List AV) → rg fam0 v := by rw [← hs1]; exact hrg
      have key := run_X5_buy (ER := cl_X5_buy.2.2.2.1 σ as μ) (ET := fun k μ' => cl_X5_buy.2.2.2.2 σ as μ k ∧ μ' = μ) σ μ (iaI as 1) (iaI as 2) (iaI as 3) hM (hmem (vI (iaI as 1)) (by simp)) (hmem (vI (iaI as 2)) (by simp)) (hmem (vI (iaI as 3)) (by simp)) hs.2 (fun ov μ' h => h)
      have e : entL as 6 = [some (vR 38 0), some (vI (iaI as 1)), some (vI (iaI as 2)), some (vI (iaI as 3)), none, none] := by rw [hs1]; rfl
      rw [e]; exact key)
/-! ### PrimeborrowModel.sell -/
def cl_X5_sell : Cl := (4, 0, fun σ as μ => as = [vR 38 0, vI (iaI as 1), vI (iaI as 2), vI (iaI as 3)] ∧ (Wk μ ∧ Xk μ), fun σ as μ ov μ' => ((¬ ((0 ≤ (iaI as 1) ∧ (iaI as 1) ≤ 5) ∧ (0 ≤ (iaI as 2) ∧ (iaI as 2) ≤ 3))) → ov = some (vL 0) ∧ μ' = st μ 38 0 0 1) ∧ ((((0 ≤ (iaI as 1) ∧ (iaI as 1) ≤ 5) ∧ (0 ≤ (iaI as 2) ∧ (iaI as 2) ≤ 3)) ∧ ¬ (1 ≤ (iaI as 3) ∧ (iaI as 3) ≤ 500)) → ov = some (vL 0) ∧ μ' = st μ 38 0 0 2) ∧ (((((0 ≤ (iaI as 1) ∧ (iaI as 1) ≤ 5) ∧ (0 ≤ (iaI as 2) ∧ (iaI as 2) ≤ 3)) ∧ (1 ≤ (iaI as 3) ∧ (iaI as 3) ≤ 500)) ∧ (μ 44 0 (iaI as 1) ≠ 0 ∨ μ 42 0 (4 * (iaI as 1) + (iaI as 2)) < (iaI as 3))) → ov = some (vL 0) ∧ μ' = st μ 38 0 0 3) ∧ (((((0 ≤ (iaI as 1) ∧ (iaI as 1) ≤ 5) ∧ (0 ≤ (iaI as 2) ∧ (iaI as 2) ≤ 3)) ∧ (1 ≤ (iaI as 3) ∧ (iaI as 3) ≤ 500)) ∧ (μ 44 0 (iaI as 1) = 0 ∧ (iaI as 3) ≤ μ 42 0 (4 * (iaI as 1) + (iaI as 2)))) → ov = some (vL (sellsF (st μ 38 0 0 0) (iaI as 1) (iaI as 2) (iaI as 3) 41 0 (iaI as 1))) ∧ μ' = sellsF (st μ 38 0 0 0) (iaI as 1) (iaI as 2) (iaI as 3)), fun σ as μ k => False)
def cd_X5_sell : Cd := mkcd k_X5_sell co_X5 fl_X5 [(127, cl_X5_refused), (177, cl_X5_sells)] [(145, cl_X5_isClient), (122, cl_X5_isStock), (85, cl_X5_in)] [] [] 6 2 0
set_option maxHeartbeats 4000000 in
set_option maxRecDepth 20000 in
theorem run_X5_sell {ER : Option AV → Mm → Prop} {ET : Nat → Mm → Prop} (σ μ : Mm) (c s n : Int) (hM : MR fam0 μ) (h_c : in32 c) (h_s : in32 s) (h_n : in32 n) (hP : Wk μ ∧ Xk μ) (hER : ∀ ov μ', (((¬ ((0 ≤ c ∧ c ≤ 5) ∧ (0 ≤ s ∧ s ≤ 3))) → ov = some (vL 0) ∧ μ' = st μ 38 0 0 1) ∧ ((((0 ≤ c ∧ c ≤ 5) ∧ (0 ≤ s ∧ s ≤ 3)) ∧ ¬ (1 ≤ n ∧ n ≤ 500)) → ov = some (vL 0) ∧ μ' = st μ 38 0 0 2) ∧ (((((0 ≤ c ∧ c ≤ 5) ∧ (0 ≤ s ∧ s ≤ 3)) ∧ (1 ≤ n ∧ n ≤ 500)) ∧ (μ 44 0 c ≠ 0 ∨ μ 42 0 (4 * c + s) < n)) → ov = some (vL 0) ∧ μ' = st μ 38 0 0 3) ∧ (((((0 ≤ c ∧ c ≤ 5) ∧ (0 ≤ s ∧ s ≤ 3)) ∧ (1 ≤ n ∧ n ≤ 500)) ∧ (μ 44 0 c = 0 ∧ n ≤ μ 42 0 (4 * c + s))) → ov = some (vL (sellsF (st μ 38 0 0 0) c s n 41 0 c)) ∧ μ' = sellsF (st μ 38 0 0 0) c s n)) → ER ov μ') : Run fam0 none cd_X5_sell ER ET 0 0 [some (vR 38 0), some (vI c), some (vI s), some (vI n), none, none] [] μ := by
  obtain ⟨hW, hX⟩ := hP
  have hW0 : Wk (st μ 38 0 0 0) := Wk_st hW (by decide)
  have hLk := hW.1
  have hLk0 := hW0.1
  have hPk := hW.2.1
  have hPk0 := hW0.2.1
  have hGk := Gk_of hLk hW.2.2.2.2
  have hGk0 := Gk_of hLk0 hW0.2.2.2.2
  have hday := hX.1
  have hloc := hX.2.1.1
  have hrec := hX.2.2.1.1
  have hl0 := hLk.1
  have e42 := st_o (μ := μ) (f := 38) (g := 42) (r := 0) (t := 0) (i := 0) (j := 4 * c + s) (v := 0) (by decide)
  have hp := hPk (4 * c + s)
  refine run_k 2 ?_
  show ∃ σ : Mm, cl_X5_isClient.2.2.1 σ [vI c] μ ∧ (∀ ov μ', cl_X5_isClient.2.2.2.1 σ [vI c] μ ov μ' → Run fam0 none cd_X5_sell ER ET 4 0 [some (vR 38 0), some (vI c), some (vI s), some (vI n), none, none] (ov.toList ++ []) μ') ∧ ∀ kx, cl_X5_isClient.2.2.2.2 σ [vI c] μ kx → thr cd_X5_sell ET (Run fam0 none cd_X5_sell ER ET) 1 0 [some (vR 38 0), some (vI c), some (vI s), some (vI n), none, none] μ kx
  refine ⟨μ, ⟨rfl, show True from True.intro⟩, fun ov μ' hq => ?_, fun k hk => hk.elim⟩
  obtain ⟨hov, hmu⟩ : ov = some (vI (bi (0 ≤ c ∧ c ≤ 5))) ∧ μ' = μ := hq
  rw [hov, hmu]
  show Run fam0 none cd_X5_sell ER ET 4 0 [some (vR 38 0), some (vI c), some (vI s), some (vI n), none, none] [vI (bi (0 ≤ c ∧ c ≤ 5))] μ
  refine run_k 1 ?_
  show ((bi (0 ≤ c ∧ c ≤ 5)) = 0 → Run fam0 none cd_X5_sell ER ET 18 0 [some (vR 38 0), some (vI c), some (vI s), some (vI n), none, none] [] μ) ∧ ((bi (0 ≤ c ∧ c ≤ 5)) ≠ 0 → Run fam0 none cd_X5_sell ER ET 7 0 [some (vR 38 0), some (vI c), some (vI s), some (vI n), none, none] [] μ)
  refine ⟨fun c2 => ?_, fun c2 => ?_⟩
  · replace c2 := (bi_e0.mp c2)
    refine run_k 6 ?_
    show ∃ σ : Mm, cl_X5_in.2.2.1 σ [vI n, vI 1, vI 500] μ ∧ (∀ ov μ', cl_X5_in.2.2.2.1 σ [vI n, vI 1, vI 500] μ ov μ' → Run fam0 none cd_X5_sell ER ET 29 0 [some (vR 38 0), some (vI c), some (vI s), some (vI n), some (vI 0), none] (ov.toList ++ []) μ') ∧ ∀ kx, cl_X5_in.2.2.2.2 σ [vI n, vI 1, vI 500] μ kx → thr cd_X5_sell ET (Run fam0 none cd_X5_sell ER ET) 26 0 [some (vR 38 0), some (vI c), some (vI s), some (vI n), some (vI 0), none] μ kx
    refine ⟨μ, ⟨rfl, show True from True.intro⟩, fun ov μ' hq => ?_, fun k hk => hk.elim⟩
    obtain ⟨hov, hmu⟩ : ov = some (vI (bi (1 ≤ n ∧ n ≤ 500))) ∧ μ' = μ := hq
    rw [hov, hmu]
    show Run fam0 none cd_X5_sell ER ET 29 0 [some (vR 38 0), some (vI c), some (vI s), some (vI n), some (vI 0), none] [vI (bi (1 ≤ n ∧ n ≤ 500))] μ
    refine run_k 4 ?_
    show (0 ≠ 0 → Run fam0 none cd_X5_sell ER ET 41 0 [some (vR 38 0), some (vI c), some (vI s), some (vI n), some (vI 0), some (vI (bi (1 ≤ n ∧ n ≤ 500)))] [vR 38 0] μ) ∧ (0 = 0 → Run fam0 none cd_X5_sell ER ET 37 0 [some (vR 38 0), some (vI c), some (vI s), some (vI n), some (vI 0), some (vI (bi (1 ≤ n ∧ n ≤ 500)))] [vR 38 0] μ)
    refine ⟨fun c4 => absurd c4 (by decide), fun c4 => ?_⟩
    refine run_k 3 ?_
    show ∃ σ : Mm, cl_X5_refused.2.2.1 σ [vR 38 0, vI 1] μ ∧ (∀ ov μ', cl_X5_refused.2.2.2.1 σ [vR 38 0, vI 1] μ ov μ' → Run fam0 none cd_X5_sell ER ET 81 0 [some (vR 38 0), some (vI c), some (vI s), some (vI n), some (vI 0), some (vI (bi (1 ≤ n ∧ n ≤ 500)))] (ov.toList ++ []) μ') ∧ ∀ kx, cl_X5_refused.2.2.2.2 σ [vR 38 0, vI 1] μ kx → thr cd_X5_sell ET (Run fam0 none cd_X5_sell ER ET) 78 0 [some (vR 38 0), some (vI c), some (vI s), some (vI n), some (vI 0), some (vI (bi (1 ≤ n ∧ n ≤ 500)))] μ kx
    refine ⟨μ, ⟨rfl, show True from True.intro⟩, fun ov μ' hq => ?_, fun k hk => hk.elim⟩
    obtain ⟨hov, hmu⟩ : ov = some (vI 1) ∧ μ' = st μ 38 0 0 1 := hq
    rw [hov, hmu]
    show Run fam0 none cd_X5_sell ER ET 81 0 [some (vR 38 0), some (vI c), some (vI s), some (vI n), some (vI 0), some (vI (bi (1 ≤ n ∧ n ≤ 500)))] [vI 1] (st μ 38 0 0 1)
    refine run_k 1 ?_
    show (1 = 0 → Run fam0 none cd_X5_sell ER ET 86 0 [some (vR 38 0), some (vI c), some (vI s), some (vI n), some (vI 0), some (vI (bi (1 ≤ n ∧ n ≤ 500)))] [] (st μ 38 0 0 1)) ∧ (1 ≠ 0 → Run fam0 none cd_X5_sell ER ET 84 0 [some (vR 38 0), some (vI c), some (vI s), some (vI n), some (vI 0), some (vI (bi (1 ≤ n ∧ n ≤ 500)))] [] (st μ 38 0 0 1))
    refine ⟨fun c6 => absurd c6 (by decide), fun c6 => ?_⟩
    refine run_k 2 ?_
    show ER (some (vL 0)) (st μ 38 0 0 1)
    refine hER _ _ ⟨fun h => ?_, fun h => ?_, fun h => ?_, fun h => ?_⟩ <;> first | (exfalso; omega) | exact ⟨rfl, rfl⟩
  · replace c2 := (bi_n0.mp c2)
    refine run_k 2 ?_
    show ∃ σ : Mm, cl_X5_isStock.2.2.1 σ [vI s] μ ∧ (∀ ov μ', cl_X5_isStock.2.2.2.1 σ [vI s] μ ov μ' → Run fam0 none cd_X5_sell ER ET 11 0 [some (vR 38 0), some (vI c), some (vI s), some (vI n), none, none] (ov.toList ++ []) μ') ∧ ∀ kx, cl_X5_isStock.2.2.2.2 σ [vI s] μ kx → thr cd_X5_sell ET (Run fam0 none cd_X5_sell ER ET) 8 0 [some (vR 38 0), some (vI c), some (vI s), some (vI n), none, none] μ kx
    refine ⟨μ, ⟨rfl, show True from True.intro⟩, fun ov μ' hq => ?_, fun k hk => hk.elim⟩
    obtain ⟨hov, hmu⟩ : ov = some (vI (bi (0 ≤ s ∧ s ≤ 3))) ∧ μ' = μ := hq
    rw [hov, hmu]
    show Run fam0 none cd_X5_sell ER ET 11 0 [some (vR 38 0), some (vI c), some (vI s), some (vI n), none, none] [vI (bi (0 ≤ s ∧ s ≤ 3))] μ
    refine run_k 1 ?_
    show ((bi (0 ≤ s ∧ s ≤ 3)) = 0 → Run fam0 none cd_X5_sell ER ET 18 0 [some (vR 38 0), some (vI c), some (vI s), some (vI n), none, none] [] μ) ∧ ((bi (0 ≤ s ∧ s ≤ 3)) ≠ 0 → Run fam0 none cd_X5_sell ER ET 14 0 [some (vR 38 0), some (vI c), some (vI s), some (vI n), none, none] [] μ)
    refine ⟨fun c9 => ?_, fun c9 => ?_⟩
    · replace c9 := (bi_e0.mp c9)
      refine run_k 6 ?_
      show ∃ σ : Mm, cl_X5_in.2.2.1 σ [vI n, vI 1, vI 500] μ ∧ (∀ ov μ', cl_X5_in.2.2.2.1 σ [vI n, vI 1, vI 500] μ ov μ' → Run fam0 none cd_X5_sell ER ET 29 0 [some (vR 38 0), some (vI c), some (vI s), some (vI n), some (vI 0), none] (ov.toList ++ []) μ') ∧ ∀ kx, cl_X5_in.2.2.2.2 σ [vI n, vI 1, vI 500] μ kx → thr cd_X5_sell ET (Run fam0 none cd_X5_sell ER ET) 26 0 [some (vR 38 0), some (vI c), some (vI s), some (vI n), some (vI 0), none] μ kx
      refine ⟨μ, ⟨rfl, show True from True.intro⟩, fun ov μ' hq => ?_, fun k hk => hk.elim⟩
      obtain ⟨hov, hmu⟩ : ov = some (vI (bi (1 ≤ n ∧ n ≤ 500))) ∧ μ' = μ := hq
      rw [hov, hmu]
      show Run fam0 none cd_X5_sell ER ET 29 0 [some (vR 38 0), some (vI c), some (vI s), some (vI n), some (vI 0), none] [vI (bi (1 ≤ n ∧ n ≤ 500))] μ
      refine run_k 4 ?_
      show (0 ≠ 0 → Run fam0 none cd_X5_sell ER ET 41 0 [some (vR 38 0), some (vI c), some (vI s), some (vI n), some (vI 0), some (vI (bi (1 ≤ n ∧ n ≤ 500)))] [vR 38 0] μ) ∧ (0 = 0 → Run fam0 none cd_X5_sell ER ET 37 0 [some (vR 38 0), some (vI c), some (vI s), some (vI n), some (vI 0), some (vI (bi (1 ≤ n ∧ n ≤ 500)))] [vR 38 0] μ)
      refine ⟨fun c11 => absurd c11 (by decide), fun c11 => ?_⟩
      refine run_k 3 ?_
      show ∃ σ : Mm, cl_X5_refused.2.2.1 σ [vR 38 0, vI 1] μ ∧ (∀ ov μ', cl_X5_refused.2.2.2.1 σ [vR 38 0, vI 1] μ ov μ' → Run fam0 none cd_X5_sell ER ET 81 0 [some (vR 38 0), some (vI c), some (vI s), some (vI n), some (vI 0), some (vI (bi (1 ≤ n ∧ n ≤ 500)))] (ov.toList ++ []) μ') ∧ ∀ kx, cl_X5_refused.2.2.2.2 σ [vR 38 0, vI 1] μ kx → thr cd_X5_sell ET (Run fam0 none cd_X5_sell ER ET) 78 0 [some (vR 38 0), some (vI c), some (vI s), some (vI n), some (vI 0), some (vI (bi (1 ≤ n ∧ n ≤ 500)))] μ kx
      refine ⟨μ, ⟨rfl, show True from True.intro⟩, fun ov μ' hq => ?_, fun k hk => hk.elim⟩
      obtain ⟨hov, hmu⟩ : ov = some (vI 1) ∧ μ' = st μ 38 0 0 1 := hq
      rw [hov, hmu]
      show Run fam0 none cd_X5_sell ER ET 81 0 [some (vR 38 0), some (vI c), some (vI s), some (vI n), some (vI 0), some (vI (bi (1 ≤ n ∧ n ≤ 500)))] [vI 1] (st μ 38 0 0 1)
      refine run_k 1 ?_
      show (1 = 0 → Run fam0 none cd_X5_sell ER ET 86 0 [some (vR 38 0), some (vI c), some (vI s), some (vI n), some (vI 0), some (vI (bi (1 ≤ n ∧ n ≤ 500)))] [] (st μ 38 0 0 1)) ∧ (1 ≠ 0 → Run fam0 none cd_X5_sell ER ET 84 0 [some (vR 38 0), some (vI c), some (vI s), some (vI n), some (vI 0), some (vI (bi (1 ≤ n ∧ n ≤ 500)))] [] (st μ 38 0 0 1))
      refine ⟨fun c13 => absurd c13 (by decide), fun c13 => ?_⟩
      refine run_k 2 ?_
      show ER (some (vL 0)) (st μ 38 0 0 1)
      refine hER _ _ ⟨fun h => ?_, fun h => ?_, fun h => ?_, fun h => ?_⟩ <;> first | (exfalso; omega) | exact ⟨rfl, rfl⟩
    · replace c9 := (bi_n0.mp c9)
      refine run_k 7 ?_
      show ∃ σ : Mm, cl_X5_in.2.2.1 σ [vI n, vI 1, vI 500] μ ∧ (∀ ov μ', cl_X5_in.2.2.2.1 σ [vI n, vI 1, vI 500] μ ov μ' → Run fam0 none cd_X5_sell ER ET 29 0 [some (vR 38 0), some (vI c), some (vI s), some (vI n), some (vI 1), none] (ov.toList ++ []) μ') ∧ ∀ kx, cl_X5_in.2.2.2.2 σ [vI n, vI 1, vI 500] μ kx → thr cd_X5_sell ET (Run fam0 none cd_X5_sell ER ET) 26 0 [some (vR 38 0), some (vI c), some (vI s), some (vI n), some (vI 1), none] μ kx
      refine ⟨μ, ⟨rfl, show True from True.intro⟩, fun ov μ' hq => ?_, fun k hk => hk.elim⟩
      obtain ⟨hov, hmu⟩ : ov = some (vI (bi (1 ≤ n ∧ n ≤ 500))) ∧ μ' = μ := hq
      rw [hov, hmu]
      show Run fam0 none cd_X5_sell ER ET 29 0 [some (vR 38 0), some (vI c), some (vI s), some (vI n), some (vI 1), none] [vI (bi (1 ≤ n ∧ n ≤ 500))] μ
      refine run_k 4 ?_
      show (1 ≠ 0 → Run fam0 none cd_X5_sell ER ET 41 0 [some (vR 38 0), some (vI c), some (vI s), some (vI n), some (vI 1), some (vI (bi (1 ≤ n ∧ n ≤ 500)))] [vR 38 0] μ) ∧ (1 = 0 → Run fam0 none cd_X5_sell ER ET 37 0 [some (vR 38 0), some (vI c), some (vI s), some (vI n), some (vI 1), some (vI (bi (1 ≤ n ∧ n ≤ 500)))] [vR 38 0] μ)
      refine ⟨fun c16 => ?_, fun c16 => absurd c16 (by decide)⟩
      refine run_k 2 ?_
      show ((bi (1 ≤ n ∧ n ≤ 500)) ≠ 0 → Run fam0 none cd_X5_sell ER ET 50 0 [some (vR 38 0), some (vI c), some (vI s), some (vI n), some (vI 1), some (vI (bi (1 ≤ n ∧ n ≤ 500)))] [vR 38 0] μ) ∧ ((bi (1 ≤ n ∧ n ≤ 500)) = 0 → Run fam0 none cd_X5_sell ER ET 46 0 [some (vR 38 0), some (vI c), some (vI s), some (vI n), some (vI 1), some (vI (bi (1 ≤ n ∧ n ≤ 500)))] [vR 38 0] μ)
      refine ⟨fun c17 => ?_, fun c17 => ?_⟩
      · replace c17 := (bi_n0.mp c17)
        refine run_k 5 ?_
        show (0 ≤ c ∧ c < 6) ∧ (((μ 44 0 c) ≠ 0 → Run fam0 none cd_X5_sell ER ET 73 0 [some (vR 38 0), some (vI c), some (vI s), some (vI n), some (vI 1), some (vI (bi (1 ≤ n ∧ n ≤ 500)))] [vR 38 0] μ) ∧ ((μ 44 0 c) = 0 → Run fam0 none cd_X5_sell ER ET 59 0 [some (vR 38 0), some (vI c), some (vI s), some (vI n), some (vI 1), some (vI (bi (1 ≤ n ∧ n ≤ 500)))] [vR 38 0] μ))
        refine ⟨by omega, ?_⟩
        refine ⟨fun c18 => ?_, fun c18 => ?_⟩
        · refine run_k 3 ?_
          show ∃ σ : Mm, cl_X5_refused.2.2.1 σ [vR 38 0, vI 3] μ ∧ (∀ ov μ', cl_X5_refused.2.2.2.1 σ [vR 38 0, vI 3] μ ov μ' → Run fam0 none cd_X5_sell ER ET 81 0 [some (vR 38 0), some (vI c), some (vI s), some (vI n), some (vI 1), some (vI (bi (1 ≤ n ∧ n ≤ 500)))] (ov.toList ++ []) μ') ∧ ∀ kx, cl_X5_refused.2.2.2.2 σ [vR 38 0, vI 3] μ kx → thr cd_X5_sell ET (Run fam0 none cd_X5_sell ER ET) 78 0 [some (vR 38 0), some (vI c), some (vI s), some (vI n), some (vI 1), some (vI (bi (1 ≤ n ∧ n ≤ 500)))] μ kx
          refine ⟨μ, ⟨rfl, show True from True.intro⟩, fun ov μ' hq => ?_, fun k hk => hk.elim⟩
          obtain ⟨hov, hmu⟩ : ov = some (vI 1) ∧ μ' = st μ 38 0 0 3 := hq
          rw [hov, hmu]
          show Run fam0 none cd_X5_sell ER ET 81 0 [some (vR 38 0), some (vI c), some (vI s), some (vI n), some (vI 1), some (vI (bi (1 ≤ n ∧ n ≤ 500)))] [vI 1] (st μ 38 0 0 3)
          refine run_k 1 ?_
          show (1 = 0 → Run fam0 none cd_X5_sell ER ET 86 0 [some (vR 38 0), some (vI c), some (vI s), some (vI n), some (vI 1), some (vI (bi (1 ≤ n ∧ n ≤ 500)))] [] (st μ 38 0 0 3)) ∧ (1 ≠ 0 → Run fam0 none cd_X5_sell ER ET 84 0 [some (vR 38 0), some (vI c), some (vI s), some (vI n), some (vI 1), some (vI (bi (1 ≤ n ∧ n ≤ 500)))] [] (st μ 38 0 0 3))
          refine ⟨fun c20 => absurd c20 (by decide), fun c20 => ?_⟩
          refine run_k 2 ?_
          show ER (some (vL 0)) (st μ 38 0 0 3)
          refine hER _ _ ⟨fun h => ?_, fun h => ?_, fun h => ?_, fun h => ?_⟩ <;> first | (exfalso; omega) | exact ⟨rfl, rfl⟩
        · refine run_k 10 ?_
          show (0 ≤ (w32 ((w32 (4 * c)) + s)) ∧ (w32 ((w32 (4 * c)) + s)) < 24) ∧ ((n ≤ (μ 42 0 (w32 ((w32 (4 * c)) + s))) → Run fam0 none cd_X5_sell ER ET 77 0 [some (vR 38 0), some (vI c), some (vI s), some (vI n), some (vI 1), some (vI (bi (1 ≤ n ∧ n ≤ 500)))] [vR 38 0] μ) ∧ ((μ 42 0 (w32 ((w32 (4 * c)) + s))) < n → Run fam0 none cd_X5_sell ER ET 73 0 [some (vR 38 0), some (vI c), some (vI s), some (vI n), some (vI 1), some (vI (bi (1 ≤ n ∧ n ≤ 500)))] [vR 38 0] μ))
          rw [show w32 (4 * c) = 4 * c from w32_id (by simp only [in32]; omega)]
          rw [show w32 ((4 * c) + s) = (4 * c) + s from w32_id (by simp only [in32]; omega)]
          refine ⟨by omega, ?_⟩
          refine ⟨fun c22 => ?_, fun c22 => ?_⟩
          · refine run_k 2 ?_
            show ∃ σ : Mm, cl_X5_refused.2.2.1 σ [vR 38 0, vI 0] μ ∧ (∀ ov μ', cl_X5_refused.2.2.2.1 σ [vR 38 0, vI 0] μ ov μ' → Run fam0 none cd_X5_sell ER ET 81 0 [some (vR 38 0), some (vI c), some (vI s), some (vI n), some (vI 1), some (vI (bi (1 ≤ n ∧ n ≤ 500)))] (ov.toList ++ []) μ') ∧ ∀ kx, cl_X5_refused.2.2.2.2 σ [vR 38 0, vI 0] μ kx → thr cd_X5_sell ET (Run fam0 none cd_X5_sell ER ET) 78 0 [some (vR 38 0), some (vI c), some (vI s), some (vI n), some (vI 1), some (vI (bi (1 ≤ n ∧ n ≤ 500)))] μ kx
            refine ⟨μ, ⟨rfl, show True from True.intro⟩, fun ov μ' hq => ?_, fun k hk => hk.elim⟩
            obtain ⟨hov, hmu⟩ : ov = some (vI 0) ∧ μ' = st μ 38 0 0 0 := hq
            rw [hov, hmu]
            show Run fam0 none cd_X5_sell ER ET 81 0 [some (vR 38 0), some (vI c), some (vI s), some (vI n), some (vI 1), some (vI (bi (1 ≤ n ∧ n ≤ 500)))] [vI 0] (st μ 38 0 0 0)
            refine run_k 1 ?_
            show (0 = 0 → Run fam0 none cd_X5_sell ER ET 86 0 [some (vR 38 0), some (vI c), some (vI s), some (vI n), some (vI 1), some (vI (bi (1 ≤ n ∧ n ≤ 500)))] [] (st μ 38 0 0 0)) ∧ (0 ≠ 0 → Run fam0 none cd_X5_sell ER ET 84 0 [some (vR 38 0), some (vI c), some (vI s), some (vI n), some (vI 1), some (vI (bi (1 ≤ n ∧ n ≤ 500)))] [] (st μ 38 0 0 0))
            refine ⟨fun c24 => ?_, fun c24 => absurd c24 (by decide)⟩
            refine run_k 5 ?_
            show ∃ σ : Mm, cl_X5_sells.2.2.1 σ [vR 38 0, vI c, vI s, vI n] (st μ 38 0 0 0) ∧ (∀ ov μ', cl_X5_sells.2.2.2.1 σ [vR 38 0, vI c, vI s, vI n] (st μ 38 0 0 0) ov μ' → Run fam0 none cd_X5_sell ER ET 93 0 [some (vR 38 0), some (vI c), some (vI s), some (vI n), some (vI 1), some (vI (bi (1 ≤ n ∧ n ≤ 500)))] (ov.toList ++ []) μ') ∧ ∀ kx, cl_X5_sells.2.2.2.2 σ [vR 38 0, vI c, vI s, vI n] (st μ 38 0 0 0) kx → thr cd_X5_sell ET (Run fam0 none cd_X5_sell ER ET) 90 0 [some (vR 38 0), some (vI c), some (vI s), some (vI n), some (vI 1), some (vI (bi (1 ≤ n ∧ n ≤ 500)))] (st μ 38 0 0 0) kx
            refine ⟨μ, ⟨rfl, show Wk (st μ 38 0 0 0) ∧ (0 ≤ c ∧ c ≤ 5) ∧ (0 ≤ s ∧ s ≤ 3) ∧ (1 ≤ n ∧ n ≤ (st μ 38 0 0 0) 42 0 (4 * c + s)) from ⟨(by assumption), by omega, by omega, by omega⟩⟩, fun ov μ' hq => ?_, fun k hk => hk.elim⟩
            obtain ⟨hov, hmu⟩ : ov = none ∧ μ' = sellsF (st μ 38 0 0 0) c s n := hq
            rw [hov, hmu]
            show Run fam0 none cd_X5_sell ER ET 93 0 [some (vR 38 0), some (vI c), some (vI s), some (vI n), some (vI 1), some (vI (bi (1 ≤ n ∧ n ≤ 500)))] [] (sellsF (st μ 38 0 0 0) c s n)
            refine run_k 5 ?_
            show (0 ≤ c ∧ c < 6) ∧ (ER (some (vL ((sellsF (st μ 38 0 0 0) c s n) 41 0 c))) (sellsF (st μ 38 0 0 0) c s n))
            refine ⟨by omega, ?_⟩
            refine hER _ _ ⟨fun h => ?_, fun h => ?_, fun h => ?_, fun h => ?_⟩ <;> first | (exfalso; omega) | exact ⟨rfl, rfl⟩
          · refine run_k 3 ?_
            show ∃ σ : Mm, cl_X5_refused.2.2.1 σ [vR 38 0, vI 3] μ ∧ (∀ ov μ', cl_X5_refused.2.2.2.1 σ [vR 38 0, vI 3] μ ov μ' → Run fam0 none cd_X5_sell ER ET 81 0 [some (vR 38 0), some (vI c), some (vI s), some (vI n), some (vI 1), some (vI (bi (1 ≤ n ∧ n ≤ 500)))] (ov.toList ++ []) μ') ∧ ∀ kx, cl_X5_refused.2.2.2.2 σ [vR 38 0, vI 3] μ kx → thr cd_X5_sell ET (Run fam0 none cd_X5_sell ER ET) 78 0 [some (vR 38 0), some (vI c), some (vI s), some (vI n), some (vI 1), some (vI (bi (1 ≤ n ∧ n ≤ 500)))] μ kx
            refine ⟨μ, ⟨rfl, show True from True.intro⟩, fun ov μ' hq => ?_, fun k hk => hk.elim⟩
            obtain ⟨hov, hmu⟩ : ov = some (vI 1) ∧ μ' = st μ 38 0 0 3 := hq
            rw [hov, hmu]
            show Run fam0 none cd_X5_sell ER ET 81 0 [some (vR 38 0), some (vI c), some (vI s), some (vI n), some (vI 1), some (vI (bi (1 ≤ n ∧ n ≤ 500)))] [vI 1] (st μ 38 0 0 3)
            refine run_k 1 ?_
            show (1 = 0 → Run fam0 none cd_X5_sell ER ET 86 0 [some (vR 38 0), some (vI c), some (vI s), some (vI n), some (vI 1), some (vI (bi (1 ≤ n ∧ n ≤ 500)))] [] (st μ 38 0 0 3)) ∧ (1 ≠ 0 → Run fam0 none cd_X5_sell ER ET 84 0 [some (vR 38 0), some (vI c), some (vI s), some (vI n), some (vI 1), some (vI (bi (1 ≤ n ∧ n ≤ 500)))] [] (st μ 38 0 0 3))
            refine ⟨fun c28 => absurd c28 (by decide), fun c28 => ?_⟩
            refine run_k 2 ?_
            show ER (some (vL 0)) (st μ 38 0 0 3)
            refine hER _ _ ⟨fun h => ?_, fun h => ?_, fun h => ?_, fun h => ?_⟩ <;> first | (exfalso; omega) | exact ⟨rfl, rfl⟩
      · replace c17 := (bi_e0.mp c17)
        refine run_k 3 ?_
        show ∃ σ : Mm, cl_X5_refused.2.2.1 σ [vR 38 0, vI 2] μ ∧ (∀ ov μ', cl_X5_refused.2.2.2.1 σ [vR 38 0, vI 2] μ ov μ' → Run fam0 none cd_X5_sell ER ET 81 0 [some (vR 38 0), some (vI c), some (vI s), some (vI n), some (vI 1), some (vI (bi (1 ≤ n ∧ n ≤ 500)))] (ov.toList ++ []) μ') ∧ ∀ kx, cl_X5_refused.2.2.2.2 σ [vR 38 0, vI 2] μ kx → thr cd_X5_sell ET (Run fam0 none cd_X5_sell ER ET) 78 0 [some (vR 38 0), some (vI c), some (vI s), some (vI n), some (vI 1), some (vI (bi (1 ≤ n ∧ n ≤ 500)))] μ kx
        refine ⟨μ, ⟨rfl, show True from True.intro⟩, fun ov μ' hq => ?_, fun k hk => hk.elim⟩
        obtain ⟨hov, hmu⟩ : ov = some (vI 1) ∧ μ' = st μ 38 0 0 2 := hq
        rw [hov, hmu]
        show Run fam0 none cd_X5_sell ER ET 81 0 [some (vR 38 0), some (vI c), some (vI s), some (vI n), some (vI 1), some (vI (bi (1 ≤ n ∧ n ≤ 500)))] [vI 1] (st μ 38 0 0 2)
        refine run_k 1 ?_
        show (1 = 0 → Run fam0 none cd_X5_sell ER ET 86 0 [some (vR 38 0), some (vI c), some (vI s), some (vI n), some (vI 1), some (vI (bi (1 ≤ n ∧ n ≤ 500)))] [] (st μ 38 0 0 2)) ∧ (1 ≠ 0 → Run fam0 none cd_X5_sell ER ET 84 0 [some (vR 38 0), some (vI c), some (vI s), some (vI n), some (vI 1), some (vI (bi (1 ≤ n ∧ n ≤ 500)))] [] (st μ 38 0 0 2))
        refine ⟨fun c31 => absurd c31 (by decide), fun c31 => ?_⟩
        refine run_k 2 ?_
        show ER (some (vL 0)) (st μ 38 0 0 2)
        refine hER _ _ ⟨fun h => ?_, fun h => ?_, fun h => ?_, fun h => ?_⟩ <;> first | (exfalso; omega) | exact ⟨rfl, rfl⟩
set_option maxRecDepth 20000 in
theorem con_X5_sell (l : Launch) (htr : l.stackTraces = false) (σ : Mm) : CON fam0 63 l yX5_sell (Cond.code yX5_sell cX5_sell 6 (some .long) :: wm) 6 150 0 (cl_X5_sell.2.2.1 σ) (cl_X5_sell.2.2.2.1 σ) (cl_X5_sell.2.2.2.2 σ) :=
  con_of (cd := cd_X5_sell) (own := RX5) (rk := 2) (sc_of htr (by decide) k_X5_sell_ok (by decide +kernel) co_X5_ok fl_X5_ok (all_cons ⟨RX5, yX5_refused, cX5_refused, 2, (some .boolean), 0, 0, 1, con_X5_refused l htr, rfl, vw_X5_127, ⟨rfl, by decide, by decide, by decide +kernel⟩, ⟨by decide, by decide⟩, fun σ as μ h => ⟨38, 0, _, h.1, rfl, TX5, 31, rfl⟩⟩ (all_cons ⟨RX5, yX5_sells, cX5_sells, 5, none, 5, 126, 3, con_X5_sells l htr, rfl, vw_X5_177, ⟨rfl, by decide, by decide, by decide +kernel⟩, ⟨by decide, by decide⟩, fun σ as μ h => ⟨38, 0, _, h.1, rfl, TX5, 31, rfl⟩⟩ all_nil)) (all_cons ⟨yX5_isClient, cX5_isClient, 1, (some .boolean), 1, 22, con_X5_isClient l htr, vw_X5_145, ⟨by decide, by decide, by decide +kernel⟩, ⟨by decide, by decide⟩⟩ (all_cons ⟨yX5_isStock, cX5_isStock, 1, (some .boolean), 1, 22, con_X5_isStock l htr, vw_X5_122, ⟨by decide, by decide, by decide +kernel⟩, ⟨by decide, by decide⟩⟩ (all_cons ⟨yX5_in, cX5_in, 3, (some .boolean), 0, 0, con_X5_in l htr, vw_X5_85, ⟨by decide, by decide, by decide +kernel⟩, ⟨by decide, by decide⟩⟩ all_nil))) all_nil) rfl (by decide +kernel) rfl rfl rfl rfl (fun as μ hs => by rw [hs.1]; exact Nat.le_of_ble_eq_true rfl)
    (fun as μ hs hM hrg => by
      have hs1 := hs.1
      have hmem : ∀ v, v ∈ ([vR 38 0, vI (iaI as 1), vI (iaI as 2), vI (iaI as 3)] : List AV) → rg fam0 v := by rw [← hs1]; exact hrg
      have key := run_X5_sell (ER := cl_X5_sell.2.2.2.1 σ as μ) (ET := fun k μ' => cl_X5_sell.2.2.2.2 σ as μ k ∧ μ' = μ) σ μ (iaI as 1) (iaI as 2) (iaI as 3) hM (hmem (vI (iaI as 1)) (by simp)) (hmem (vI (iaI as 2)) (by simp)) (hmem (vI (iaI as 3)) (by simp)) hs.2 (fun ov μ' h => h)
      have e : entL as 6 = [some (vR 38 0), some (vI (iaI as 1)), some (vI (iaI as 2)), some (vI (iaI as 3)), none, none] := by rw [hs1]; rfl
      rw [e]; exact key)
/-! ### PrimeborrowModel.partAnew -/
def cl_X5_partAnew : Cl := (3, 0, fun σ as μ => as = [vR 38 0, vI (iaI as 1), vI (iaI as 2)] ∧ (Wk μ ∧ Xk μ), fun σ as μ ov μ' => ((¬ ((0 ≤ (iaI as 1) ∧ (iaI as 1) ≤ 5) ∧ (0 ≤ (iaI as 2) ∧ (iaI as 2) ≤ 3))) → ov = some (vI 0) ∧ μ' = st μ 38 0 0 1) ∧ (((0 ≤ (iaI as 1) ∧ (iaI as 1) ≤ 5) ∧ (0 ≤ (iaI as 2) ∧ (iaI as 2) ≤ 3)) → ov = some (vI (partF (st μ 38 0 0 0) (iaI as 1) (iaI as 2))) ∧ μ' = st μ 38 0 0 0), fun σ as μ k => False)
def cd_X5_partAnew : Cd := mkcd k_X5_partAnew co_X5 fl_X5 [(199, cl_X5_part)] [] [] [] 3 1 0
set_option maxHeartbeats 4000000 in
set_option maxRecDepth 20000 in
theorem run_X5_partAnew {ER : Option AV → Mm → Prop} {ET : Nat → Mm → Prop} (σ μ : Mm) (c s : Int) (hM : MR fam0 μ) (h_c : in32 c) (h_s : in32 s) (hP : Wk μ ∧ Xk μ) (hER : ∀ ov μ', (((¬ ((0 ≤ c ∧ c ≤ 5) ∧ (0 ≤ s ∧ s ≤ 3))) → ov = some (vI 0) ∧ μ' = st μ 38 0 0 1) ∧ (((0 ≤ c ∧ c ≤ 5) ∧ (0 ≤ s ∧ s ≤ 3)) → ov = some (vI (partF (st μ 38 0 0 0) c s)) ∧ μ' = st μ 38 0 0 0)) → ER ov μ') : Run fam0 none cd_X5_partAnew ER ET 0 0 [some (vR 38 0), some (vI c), some (vI s)] [] μ := by
  obtain ⟨hW, hX⟩ := hP
  have hW0 : Wk (st μ 38 0 0 0) := Wk_st hW (by decide)
  have hLk := hW.1
  have hLk0 := hW0.1
  have hPk := hW.2.1
  have hPk0 := hW0.2.1
  have hGk := Gk_of hLk hW.2.2.2.2
  have hGk0 := Gk_of hLk0 hW0.2.2.2.2
  have hday := hX.1
  have hloc := hX.2.1.1
  have hrec := hX.2.2.1.1
  have hl0 := hLk.1
  refine run_k 4 ?_
  show ∃ σ : Mm, cl_X5_part.2.2.1 σ [vR 38 0, vI c, vI s] μ ∧ (∀ ov μ', cl_X5_part.2.2.2.1 σ [vR 38 0, vI c, vI s] μ ov μ' → Run fam0 none cd_X5_partAnew ER ET 6 0 [some (vR 38 0), some (vI c), some (vI s)] (ov.toList ++ []) μ') ∧ ∀ kx, cl_X5_part.2.2.2.2 σ [vR 38 0, vI c, vI s] μ kx → thr cd_X5_partAnew ET (Run fam0 none cd_X5_partAnew ER ET) 3 0 [some (vR 38 0), some (vI c), some (vI s)] μ kx
  refine ⟨μ, ⟨rfl, show Wk μ ∧ Xk μ from ⟨hW, hX⟩⟩, fun ov μ' hq => ?_, fun k hk => hk.elim⟩
  obtain ⟨hov, hmu⟩ : ov = some (vI (if (0 ≤ c ∧ c ≤ 5) ∧ (0 ≤ s ∧ s ≤ 3) then partF (st μ 38 0 0 0) c s else 0)) ∧ μ' = st μ 38 0 0 (if (0 ≤ c ∧ c ≤ 5) ∧ (0 ≤ s ∧ s ≤ 3) then 0 else 1) := by
      by_cases hc : (0 ≤ c ∧ c ≤ 5) ∧ (0 ≤ s ∧ s ≤ 3)
      · rw [if_pos hc, if_pos hc]; exact hq.2 hc
      · rw [if_neg hc, if_neg hc]; exact hq.1 hc
  rw [hov, hmu]
  show Run fam0 none cd_X5_partAnew ER ET 6 0 [some (vR 38 0), some (vI c), some (vI s)] [vI (if (0 ≤ c ∧ c ≤ 5) ∧ (0 ≤ s ∧ s ≤ 3) then partF (st μ 38 0 0 0) c s else 0)] (st μ 38 0 0 (if (0 ≤ c ∧ c ≤ 5) ∧ (0 ≤ s ∧ s ≤ 3) then 0 else 1))
  refine run_k 1 ?_
  show ER (some (vI (if (0 ≤ c ∧ c ≤ 5) ∧ (0 ≤ s ∧ s ≤ 3) then partF (st μ 38 0 0 0) c s else 0))) (st μ 38 0 0 (if (0 ≤ c ∧ c ≤ 5) ∧ (0 ≤ s ∧ s ≤ 3) then 0 else 1))
  refine hER _ _ ⟨fun h => ?_, fun h => ?_⟩ <;> first | (exfalso; omega) | exact ⟨by rw [if_pos h], by rw [if_pos h]⟩ | exact ⟨by rw [if_neg h], by rw [if_neg h]⟩
theorem vw_X5_199 : ∀ w ∈ ([.methodLink RX5 199 yX5_part, .instanceMethod yX5_part, .selects RX5 yX5_part yX5_part, .initialized RX5, .code yX5_part cX5_part 3 (some .int)] : List Cond), w ∈ wm := wm_ps _ [964, 957, 958, 55, 959] (by decide +kernel)
set_option maxRecDepth 20000 in
theorem con_X5_partAnew (l : Launch) (htr : l.stackTraces = false) (σ : Mm) : CON fam0 63 l yX5_partAnew (Cond.code yX5_partAnew cX5_partAnew 3 (some .int) :: wm) 3 69 0 (cl_X5_partAnew.2.2.1 σ) (cl_X5_partAnew.2.2.2.1 σ) (cl_X5_partAnew.2.2.2.2 σ) :=
  con_of (cd := cd_X5_partAnew) (own := RX5) (rk := 1) (sc_of htr (by decide) k_X5_partAnew_ok (by decide +kernel) co_X5_ok fl_X5_ok (all_cons ⟨RX5, yX5_part, cX5_part, 3, (some .int), 2, 47, 2, con_X5_part l htr, rfl, vw_X5_199, ⟨rfl, by decide, by decide, by decide +kernel⟩, ⟨by decide, by decide⟩, fun σ as μ h => ⟨38, 0, _, h.1, rfl, TX5, 31, rfl⟩⟩ all_nil) all_nil all_nil) rfl (by decide +kernel) rfl rfl rfl rfl (fun as μ hs => by rw [hs.1]; exact Nat.le_of_ble_eq_true rfl)
    (fun as μ hs hM hrg => by
      have hs1 := hs.1
      have hmem : ∀ v, v ∈ ([vR 38 0, vI (iaI as 1), vI (iaI as 2)] : List AV) → rg fam0 v := by rw [← hs1]; exact hrg
      have key := run_X5_partAnew (ER := cl_X5_partAnew.2.2.2.1 σ as μ) (ET := fun k μ' => cl_X5_partAnew.2.2.2.2 σ as μ k ∧ μ' = μ) σ μ (iaI as 1) (iaI as 2) hM (hmem (vI (iaI as 1)) (by simp)) (hmem (vI (iaI as 2)) (by simp)) hs.2 (fun ov μ' h => h)
      have e : entL as 3 = [some (vR 38 0), some (vI (iaI as 1)), some (vI (iaI as 2))] := by rw [hs1]; rfl
      rw [e]; exact key)
/-! ### PrimeborrowModel.lenderOf -/
def cl_X5_lenderOf : Cl := (4, 0, fun σ as μ => as = [vR 38 0, vI (iaI as 1), vI (iaI as 2), vI (iaI as 3)] ∧ (Wk μ ∧ Xk μ), fun σ as μ ov μ' => ((¬ ((0 ≤ (iaI as 1) ∧ (iaI as 1) ≤ 3) ∧ (0 ≤ (iaI as 2) ∧ (iaI as 2) ≤ 3))) → ov = some (vL 0) ∧ μ' = st μ 38 0 0 1) ∧ ((((0 ≤ (iaI as 1) ∧ (iaI as 1) ≤ 3) ∧ (0 ≤ (iaI as 2) ∧ (iaI as 2) ≤ 3)) ∧ ¬ (0 ≤ (iaI as 3) ∧ (iaI as 3) ≤ 3)) → ov = some (vL 0) ∧ μ' = st μ 38 0 0 2) ∧ ((((0 ≤ (iaI as 1) ∧ (iaI as 1) ≤ 3) ∧ (0 ≤ (iaI as 2) ∧ (iaI as 2) ≤ 3)) ∧ (0 ≤ (iaI as 3) ∧ (iaI as 3) ≤ 3)) → ov = some (vL (if (iaI as 3) = 0 then μ 45 0 (4 * (iaI as 1) + (iaI as 2)) else if (iaI as 3) = 1 then lentF (st μ 38 0 0 0) (10 + (iaI as 1)) (iaI as 2) else if (iaI as 3) = 2 then μ 46 0 (4 * (iaI as 1) + (iaI as 2)) else μ 47 0 (iaI as 1))) ∧ μ' = st μ 38 0 0 0), fun σ as μ k => False)
def cd_X5_lenderOf : Cd := mkcd k_X5_lenderOf co_X5 fl_X5 [(127, cl_X5_refused), (92, cl_X5_lentFrom)] [(150, cl_X5_isLender), (122, cl_X5_isStock), (85, cl_X5_in)] [] [] 5 2 0
set_option maxHeartbeats 4000000 in
set_option maxRecDepth 20000 in
theorem run_X5_lenderOf {ER : Option AV → Mm → Prop} {ET : Nat → Mm → Prop} (σ μ : Mm) (l s w : Int) (hM : MR fam0 μ) (h_l : in32 l) (h_s : in32 s) (h_w : in32 w) (hP : Wk μ ∧ Xk μ) (hER : ∀ ov μ', (((¬ ((0 ≤ l ∧ l ≤ 3) ∧ (0 ≤ s ∧ s ≤ 3))) → ov = some (vL 0) ∧ μ' = st μ 38 0 0 1) ∧ ((((0 ≤ l ∧ l ≤ 3) ∧ (0 ≤ s ∧ s ≤ 3)) ∧ ¬ (0 ≤ w ∧ w ≤ 3)) → ov = some (vL 0) ∧ μ' = st μ 38 0 0 2) ∧ ((((0 ≤ l ∧ l ≤ 3) ∧ (0 ≤ s ∧ s ≤ 3)) ∧ (0 ≤ w ∧ w ≤ 3)) → ov = some (vL (if w = 0 then μ 45 0 (4 * l + s) else if w = 1 then lentF (st μ 38 0 0 0) (10 + l) s else if w = 2 then μ 46 0 (4 * l + s) else μ 47 0 l)) ∧ μ' = st μ 38 0 0 0)) → ER ov μ') : Run fam0 none cd_X5_lenderOf ER ET 0 0 [some (vR 38 0), some (vI l), some (vI s), some (vI w), none] [] μ := by
  obtain ⟨hW, hX⟩ := hP
  have hW0 : Wk (st μ 38 0 0 0) := Wk_st hW (by decide)
  have hLk := hW.1
  have hLk0 := hW0.1
  have hPk := hW.2.1
  have hPk0 := hW0.2.1
  have hGk := Gk_of hLk hW.2.2.2.2
  have hGk0 := Gk_of hLk0 hW0.2.2.2.2
  have hday := hX.1
  have hloc := hX.2.1.1
  have hrec := hX.2.2.1.1
  have hl0 := hLk.1
  refine run_k 2 ?_
  show ∃ σ : Mm, cl_X5_isLender.2.2.1 σ [vI l] μ ∧ (∀ ov μ', cl_X5_isLender.2.2.2.1 σ [vI l] μ ov μ' → Run fam0 none cd_X5_lenderOf ER ET 4 0 [some (vR 38 0), some (vI l), some (vI s), some (vI w), none] (ov.toList ++ []) μ') ∧ ∀ kx, cl_X5_isLender.2.2.2.2 σ [vI l] μ kx → thr cd_X5_lenderOf ET (Run fam0 none cd_X5_lenderOf ER ET) 1 0 [some (vR 38 0), some (vI l), some (vI s), some (vI w), none] μ kx
  refine ⟨μ, ⟨rfl, show True from True.intro⟩, fun ov μ' hq => ?_, fun k hk => hk.elim⟩
  obtain ⟨hov, hmu⟩ : ov = some (vI (bi (0 ≤ l ∧ l ≤ 3))) ∧ μ' = μ := hq
  rw [hov, hmu]
  show Run fam0 none cd_X5_lenderOf ER ET 4 0 [some (vR 38 0), some (vI l), some (vI s), some (vI w), none] [vI (bi (0 ≤ l ∧ l ≤ 3))] μ
  refine run_k 1 ?_
  show ((bi (0 ≤ l ∧ l ≤ 3)) = 0 → Run fam0 none cd_X5_lenderOf ER ET 18 0 [some (vR 38 0), some (vI l), some (vI s), some (vI w), none] [] μ) ∧ ((bi (0 ≤ l ∧ l ≤ 3)) ≠ 0 → Run fam0 none cd_X5_lenderOf ER ET 7 0 [some (vR 38 0), some (vI l), some (vI s), some (vI w), none] [] μ)
  refine ⟨fun c2 => ?_, fun c2 => ?_⟩
  · replace c2 := (bi_e0.mp c2)
    refine run_k 5 ?_
    show (0 ≠ 0 → Run fam0 none cd_X5_lenderOf ER ET 31 0 [some (vR 38 0), some (vI l), some (vI s), some (vI w), some (vI 0)] [vR 38 0] μ) ∧ (0 = 0 → Run fam0 none cd_X5_lenderOf ER ET 27 0 [some (vR 38 0), some (vI l), some (vI s), some (vI w), some (vI 0)] [vR 38 0] μ)
    refine ⟨fun c3 => absurd c3 (by decide), fun c3 => ?_⟩
    refine run_k 3 ?_
    show ∃ σ : Mm, cl_X5_refused.2.2.1 σ [vR 38 0, vI 1] μ ∧ (∀ ov μ', cl_X5_refused.2.2.2.1 σ [vR 38 0, vI 1] μ ov μ' → Run fam0 none cd_X5_lenderOf ER ET 48 0 [some (vR 38 0), some (vI l), some (vI s), some (vI w), some (vI 0)] (ov.toList ++ []) μ') ∧ ∀ kx, cl_X5_refused.2.2.2.2 σ [vR 38 0, vI 1] μ kx → thr cd_X5_lenderOf ET (Run fam0 none cd_X5_lenderOf ER ET) 45 0 [some (vR 38 0), some (vI l), some (vI s), some (vI w), some (vI 0)] μ kx
    refine ⟨μ, ⟨rfl, show True from True.intro⟩, fun ov μ' hq => ?_, fun k hk => hk.elim⟩
    obtain ⟨hov, hmu⟩ : ov = some (vI 1) ∧ μ' = st μ 38 0 0 1 := hq
    rw [hov, hmu]
    show Run fam0 none cd_X5_lenderOf ER ET 48 0 [some (vR 38 0), some (vI l), some (vI s), some (vI w), some (vI 0)] [vI 1] (st μ 38 0 0 1)
    refine run_k 1 ?_
    show (1 = 0 → Run fam0 none cd_X5_lenderOf ER ET 53 0 [some (vR 38 0), some (vI l), some (vI s), some (vI w), some (vI 0)] [] (st μ 38 0 0 1)) ∧ (1 ≠ 0 → Run fam0 none cd_X5_lenderOf ER ET 51 0 [some (vR 38 0), some (vI l), some (vI s), some (vI w), some (vI 0)] [] (st μ 38 0 0 1))
    refine ⟨fun c5 => absurd c5 (by decide), fun c5 => ?_⟩
    refine run_k 2 ?_
    show ER (some (vL 0)) (st μ 38 0 0 1)
    refine hER _ _ ⟨fun h => ?_, fun h => ?_, fun h => ?_⟩ <;> first | (exfalso; omega) | exact ⟨by first | rw [if_pos (by omega)] | (rw [if_neg (by omega)]; first | rw [if_pos (by omega)] | (rw [if_neg (by omega)]; first | rw [if_pos (by omega)] | rw [if_neg (by omega)])), rfl⟩ | exact ⟨rfl, rfl⟩
  · replace c2 := (bi_n0.mp c2)
    refine run_k 2 ?_
    show ∃ σ : Mm, cl_X5_isStock.2.2.1 σ [vI s] μ ∧ (∀ ov μ', cl_X5_isStock.2.2.2.1 σ [vI s] μ ov μ' → Run fam0 none cd_X5_lenderOf ER ET 11 0 [some (vR 38 0), some (vI l), some (vI s), some (vI w), none] (ov.toList ++ []) μ') ∧ ∀ kx, cl_X5_isStock.2.2.2.2 σ [vI s] μ kx → thr cd_X5_lenderOf ET (Run fam0 none cd_X5_lenderOf ER ET) 8 0 [some (vR 38 0), some (vI l), some (vI s), some (vI w), none] μ kx
    refine ⟨μ, ⟨rfl, show True from True.intro⟩, fun ov μ' hq => ?_, fun k hk => hk.elim⟩
    obtain ⟨hov, hmu⟩ : ov = some (vI (bi (0 ≤ s ∧ s ≤ 3))) ∧ μ' = μ := hq
    rw [hov, hmu]
    show Run fam0 none cd_X5_lenderOf ER ET 11 0 [some (vR 38 0), some (vI l), some (vI s), some (vI w), none] [vI (bi (0 ≤ s ∧ s ≤ 3))] μ
    refine run_k 1 ?_
    show ((bi (0 ≤ s ∧ s ≤ 3)) = 0 → Run fam0 none cd_X5_lenderOf ER ET 18 0 [some (vR 38 0), some (vI l), some (vI s), some (vI w), none] [] μ) ∧ ((bi (0 ≤ s ∧ s ≤ 3)) ≠ 0 → Run fam0 none cd_X5_lenderOf ER ET 14 0 [some (vR 38 0), some (vI l), some (vI s), some (vI w), none] [] μ)
    refine ⟨fun c8 => ?_, fun c8 => ?_⟩
    · replace c8 := (bi_e0.mp c8)
      refine run_k 5 ?_
      show (0 ≠ 0 → Run fam0 none cd_X5_lenderOf ER ET 31 0 [some (vR 38 0), some (vI l), some (vI s), some (vI w), some (vI 0)] [vR 38 0] μ) ∧ (0 = 0 → Run fam0 none cd_X5_lenderOf ER ET 27 0 [some (vR 38 0), some (vI l), some (vI s), some (vI w), some (vI 0)] [vR 38 0] μ)
      refine ⟨fun c9 => absurd c9 (by decide), fun c9 => ?_⟩
      refine run_k 3 ?_
      show ∃ σ : Mm, cl_X5_refused.2.2.1 σ [vR 38 0, vI 1] μ ∧ (∀ ov μ', cl_X5_refused.2.2.2.1 σ [vR 38 0, vI 1] μ ov μ' → Run fam0 none cd_X5_lenderOf ER ET 48 0 [some (vR 38 0), some (vI l), some (vI s), some (vI w), some (vI 0)] (ov.toList ++ []) μ') ∧ ∀ kx, cl_X5_refused.2.2.2.2 σ [vR 38 0, vI 1] μ kx → thr cd_X5_lenderOf ET (Run fam0 none cd_X5_lenderOf ER ET) 45 0 [some (vR 38 0), some (vI l), some (vI s), some (vI w), some (vI 0)] μ kx
      refine ⟨μ, ⟨rfl, show True from True.intro⟩, fun ov μ' hq => ?_, fun k hk => hk.elim⟩
      obtain ⟨hov, hmu⟩ : ov = some (vI 1) ∧ μ' = st μ 38 0 0 1 := hq
      rw [hov, hmu]
      show Run fam0 none cd_X5_lenderOf ER ET 48 0 [some (vR 38 0), some (vI l), some (vI s), some (vI w), some (vI 0)] [vI 1] (st μ 38 0 0 1)
      refine run_k 1 ?_
      show (1 = 0 → Run fam0 none cd_X5_lenderOf ER ET 53 0 [some (vR 38 0), some (vI l), some (vI s), some (vI w), some (vI 0)] [] (st μ 38 0 0 1)) ∧ (1 ≠ 0 → Run fam0 none cd_X5_lenderOf ER ET 51 0 [some (vR 38 0), some (vI l), some (vI s), some (vI w), some (vI 0)] [] (st μ 38 0 0 1))
      refine ⟨fun c11 => absurd c11 (by decide), fun c11 => ?_⟩
      refine run_k 2 ?_
      show ER (some (vL 0)) (st μ 38 0 0 1)
      refine hER _ _ ⟨fun h => ?_, fun h => ?_, fun h => ?_⟩ <;> first | (exfalso; omega) | exact ⟨by first | rw [if_pos (by omega)] | (rw [if_neg (by omega)]; first | rw [if_pos (by omega)] | (rw [if_neg (by omega)]; first | rw [if_pos (by omega)] | rw [if_neg (by omega)])), rfl⟩ | exact ⟨rfl, rfl⟩
    · replace c8 := (bi_n0.mp c8)
      refine run_k 6 ?_
      show (1 ≠ 0 → Run fam0 none cd_X5_lenderOf ER ET 31 0 [some (vR 38 0), some (vI l), some (vI s), some (vI w), some (vI 1)] [vR 38 0] μ) ∧ (1 = 0 → Run fam0 none cd_X5_lenderOf ER ET 27 0 [some (vR 38 0), some (vI l), some (vI s), some (vI w), some (vI 1)] [vR 38 0] μ)
      refine ⟨fun c13 => ?_, fun c13 => absurd c13 (by decide)⟩
      refine run_k 4 ?_
      show ∃ σ : Mm, cl_X5_in.2.2.1 σ [vI w, vI 0, vI 3] μ ∧ (∀ ov μ', cl_X5_in.2.2.2.1 σ [vI w, vI 0, vI 3] μ ov μ' → Run fam0 none cd_X5_lenderOf ER ET 37 0 [some (vR 38 0), some (vI l), some (vI s), some (vI w), some (vI 1)] (ov.toList ++ [vR 38 0]) μ') ∧ ∀ kx, cl_X5_in.2.2.2.2 σ [vI w, vI 0, vI 3] μ kx → thr cd_X5_lenderOf ET (Run fam0 none cd_X5_lenderOf ER ET) 34 0 [some (vR 38 0), some (vI l), some (vI s), some (vI w), some (vI 1)] μ kx
      refine ⟨μ, ⟨rfl, show True from True.intro⟩, fun ov μ' hq => ?_, fun k hk => hk.elim⟩
      obtain ⟨hov, hmu⟩ : ov = some (vI (bi (0 ≤ w ∧ w ≤ 3))) ∧ μ' = μ := hq
      rw [hov, hmu]
      show Run fam0 none cd_X5_lenderOf ER ET 37 0 [some (vR 38 0), some (vI l), some (vI s), some (vI w), some (vI 1)] [vI (bi (0 ≤ w ∧ w ≤ 3)), vR 38 0] μ
      refine run_k 1 ?_
      show ((bi (0 ≤ w ∧ w ≤ 3)) ≠ 0 → Run fam0 none cd_X5_lenderOf ER ET 44 0 [some (vR 38 0), some (vI l), some (vI s), some (vI w), some (vI 1)] [vR 38 0] μ) ∧ ((bi (0 ≤ w ∧ w ≤ 3)) = 0 → Run fam0 none cd_X5_lenderOf ER ET 40 0 [some (vR 38 0), some (vI l), some (vI s), some (vI w), some (vI 1)] [vR 38 0] μ)
      refine ⟨fun c15 => ?_, fun c15 => ?_⟩
      · replace c15 := (bi_n0.mp c15)
        refine run_k 2 ?_
        show ∃ σ : Mm, cl_X5_refused.2.2.1 σ [vR 38 0, vI 0] μ ∧ (∀ ov μ', cl_X5_refused.2.2.2.1 σ [vR 38 0, vI 0] μ ov μ' → Run fam0 none cd_X5_lenderOf ER ET 48 0 [some (vR 38 0), some (vI l), some (vI s), some (vI w), some (vI 1)] (ov.toList ++ []) μ') ∧ ∀ kx, cl_X5_refused.2.2.2.2 σ [vR 38 0, vI 0] μ kx → thr cd_X5_lenderOf ET (Run fam0 none cd_X5_lenderOf ER ET) 45 0 [some (vR 38 0), some (vI l), some (vI s), some (vI w), some (vI 1)] μ kx
        refine ⟨μ, ⟨rfl, show True from True.intro⟩, fun ov μ' hq => ?_, fun k hk => hk.elim⟩
        obtain ⟨hov, hmu⟩ : ov = some (vI 0) ∧ μ' = st μ 38 0 0 0 := hq
        rw [hov, hmu]
        show Run fam0 none cd_X5_lenderOf ER ET 48 0 [some (vR 38 0), some (vI l), some (vI s), some (vI w), some (vI 1)] [vI 0] (st μ 38 0 0 0)
        refine run_k 1 ?_
        show (0 = 0 → Run fam0 none cd_X5_lenderOf ER ET 53 0 [some (vR 38 0), some (vI l), some (vI s), some (vI w), some (vI 1)] [] (st μ 38 0 0 0)) ∧ (0 ≠ 0 → Run fam0 none cd_X5_lenderOf ER ET 51 0 [some (vR 38 0), some (vI l), some (vI s), some (vI w), some (vI 1)] [] (st μ 38 0 0 0))
        refine ⟨fun c17 => ?_, fun c17 => absurd c17 (by decide)⟩
        refine run_k 2 ?_
        show (w ≠ 0 → Run fam0 none cd_X5_lenderOf ER ET 71 0 [some (vR 38 0), some (vI l), some (vI s), some (vI w), some (vI 1)] [] (st μ 38 0 0 0)) ∧ (w = 0 → Run fam0 none cd_X5_lenderOf ER ET 57 0 [some (vR 38 0), some (vI l), some (vI s), some (vI w), some (vI 1)] [] (st μ 38 0 0 0))
        refine ⟨fun c18 => ?_, fun c18 => ?_⟩
        · refine run_k 3 ?_
          show (w ≠ 1 → Run fam0 none cd_X5_lenderOf ER ET 89 0 [some (vR 38 0), some (vI l), some (vI s), some (vI w), some (vI 1)] [] (st μ 38 0 0 0)) ∧ (w = 1 → Run fam0 none cd_X5_lenderOf ER ET 76 0 [some (vR 38 0), some (vI l), some (vI s), some (vI w), some (vI 1)] [] (st μ 38 0 0 0))
          refine ⟨fun c19 => ?_, fun c19 => ?_⟩
          · refine run_k 3 ?_
            show (w ≠ 2 → Run fam0 none cd_X5_lenderOf ER ET 108 0 [some (vR 38 0), some (vI l), some (vI s), some (vI w), some (vI 1)] [] (st μ 38 0 0 0)) ∧ (w = 2 → Run fam0 none cd_X5_lenderOf ER ET 94 0 [some (vR 38 0), some (vI l), some (vI s), some (vI w), some (vI 1)] [] (st μ 38 0 0 0))
            refine ⟨fun c20 => ?_, fun c20 => ?_⟩
            · refine run_k 5 ?_
              show (0 ≤ l ∧ l < 4) ∧ (ER (some (vL (μ 47 0 l))) (st μ 38 0 0 0))
              refine ⟨by omega, ?_⟩
              refine hER _ _ ⟨fun h => ?_, fun h => ?_, fun h => ?_⟩ <;> first | (exfalso; omega) | exact ⟨by first | rw [if_pos (by omega)] | (rw [if_neg (by omega)]; first | rw [if_pos (by omega)] | (rw [if_neg (by omega)]; first | rw [if_pos (by omega)] | rw [if_neg (by omega)])), rfl⟩ | exact ⟨rfl, rfl⟩
            · refine run_k 11 ?_
              show (0 ≤ (w32 ((w32 (4 * l)) + s)) ∧ (w32 ((w32 (4 * l)) + s)) < 16) ∧ (ER (some (vL (μ 46 0 (w32 ((w32 (4 * l)) + s))))) (st μ 38 0 0 0))
              rw [show w32 (4 * l) = 4 * l from w32_id (by simp only [in32]; omega)]
              rw [show w32 ((4 * l) + s) = (4 * l) + s from w32_id (by simp only [in32]; omega)]
              refine ⟨by omega, ?_⟩
              refine hER _ _ ⟨fun h => ?_, fun h => ?_, fun h => ?_⟩ <;> first | (exfalso; omega) | exact ⟨by first | rw [if_pos (by omega)] | (rw [if_neg (by omega)]; first | rw [if_pos (by omega)] | (rw [if_neg (by omega)]; first | rw [if_pos (by omega)] | rw [if_neg (by omega)])), rfl⟩ | exact ⟨rfl, rfl⟩
          · refine run_k 6 ?_
            show ∃ σ : Mm, cl_X5_lentFrom.2.2.1 σ [vR 38 0, vI (w32 (10 + l)), vI s] (st μ 38 0 0 0) ∧ (∀ ov μ', cl_X5_lentFrom.2.2.2.1 σ [vR 38 0, vI (w32 (10 + l)), vI s] (st μ 38 0 0 0) ov μ' → Run fam0 none cd_X5_lenderOf ER ET 85 0 [some (vR 38 0), some (vI l), some (vI s), some (vI w), some (vI 1)] (ov.toList ++ []) μ') ∧ ∀ kx, cl_X5_lentFrom.2.2.2.2 σ [vR 38 0, vI (w32 (10 + l)), vI s] (st μ 38 0 0 0) kx → thr cd_X5_lenderOf ET (Run fam0 none cd_X5_lenderOf ER ET) 82 0 [some (vR 38 0), some (vI l), some (vI s), some (vI w), some (vI 1)] (st μ 38 0 0 0) kx
            rw [show w32 (10 + l) = 10 + l from w32_id (by simp only [in32]; omega)]
            refine ⟨μ, ⟨rfl, show Lk (st μ 38 0 0 0) from (by assumption)⟩, fun ov μ' hq => ?_, fun k hk => hk.elim⟩
            obtain ⟨hov, hmu⟩ : ov = some (vI (lentF (st μ 38 0 0 0) (10 + l) s)) ∧ μ' = st μ 38 0 0 0 := hq
            rw [hov, hmu]
            show Run fam0 none cd_X5_lenderOf ER ET 85 0 [some (vR 38 0), some (vI l), some (vI s), some (vI w), some (vI 1)] [vI (lentF (st μ 38 0 0 0) (10 + l) s)] (st μ 38 0 0 0)
            refine run_k 3 ?_
            show ER (some (vL (lentF (st μ 38 0 0 0) (10 + l) s))) (st μ 38 0 0 0)
            refine hER _ _ ⟨fun h => ?_, fun h => ?_, fun h => ?_⟩ <;> first | (exfalso; omega) | exact ⟨by first | rw [if_pos (by omega)] | (rw [if_neg (by omega)]; first | rw [if_pos (by omega)] | (rw [if_neg (by omega)]; first | rw [if_pos (by omega)] | rw [if_neg (by omega)])), rfl⟩ | exact ⟨rfl, rfl⟩
        · refine run_k 11 ?_
          show (0 ≤ (w32 ((w32 (4 * l)) + s)) ∧ (w32 ((w32 (4 * l)) + s)) < 16) ∧ (ER (some (vL (μ 45 0 (w32 ((w32 (4 * l)) + s))))) (st μ 38 0 0 0))
          rw [show w32 (4 * l) = 4 * l from w32_id (by simp only [in32]; omega)]
          rw [show w32 ((4 * l) + s) = (4 * l) + s from w32_id (by simp only [in32]; omega)]
          refine ⟨by omega, ?_⟩
          refine hER _ _ ⟨fun h => ?_, fun h => ?_, fun h => ?_⟩ <;> first | (exfalso; omega) | exact ⟨by first | rw [if_pos (by omega)] | (rw [if_neg (by omega)]; first | rw [if_pos (by omega)] | (rw [if_neg (by omega)]; first | rw [if_pos (by omega)] | rw [if_neg (by omega)])), rfl⟩ | exact ⟨rfl, rfl⟩
      · replace c15 := (bi_e0.mp c15)
        refine run_k 3 ?_
        show ∃ σ : Mm, cl_X5_refused.2.2.1 σ [vR 38 0, vI 2] μ ∧ (∀ ov μ', cl_X5_refused.2.2.2.1 σ [vR 38 0, vI 2] μ ov μ' → Run fam0 none cd_X5_lenderOf ER ET 48 0 [some (vR 38 0), some (vI l), some (vI s), some (vI w), some (vI 1)] (ov.toList ++ []) μ') ∧ ∀ kx, cl_X5_refused.2.2.2.2 σ [vR 38 0, vI 2] μ kx → thr cd_X5_lenderOf ET (Run fam0 none cd_X5_lenderOf ER ET) 45 0 [some (vR 38 0), some (vI l), some (vI s), some (vI w), some (vI 1)] μ kx
        refine ⟨μ, ⟨rfl, show True from True.intro⟩, fun ov μ' hq => ?_, fun k hk => hk.elim⟩
        obtain ⟨hov, hmu⟩ : ov = some (vI 1) ∧ μ' = st μ 38 0 0 2 := hq
        rw [hov, hmu]
        show Run fam0 none cd_X5_lenderOf ER ET 48 0 [some (vR 38 0), some (vI l), some (vI s), some (vI w), some (vI 1)] [vI 1] (st μ 38 0 0 2)
        refine run_k 1 ?_
        show (1 = 0 → Run fam0 none cd_X5_lenderOf ER ET 53 0 [some (vR 38 0), some (vI l), some (vI s), some (vI w), some (vI 1)] [] (st μ 38 0 0 2)) ∧ (1 ≠ 0 → Run fam0 none cd_X5_lenderOf ER ET 51 0 [some (vR 38 0), some (vI l), some (vI s), some (vI w), some (vI 1)] [] (st μ 38 0 0 2))
        refine ⟨fun c27 => absurd c27 (by decide), fun c27 => ?_⟩
        refine run_k 2 ?_
        show ER (some (vL 0)) (st μ 38 0 0 2)
        refine hER _ _ ⟨fun h => ?_, fun h => ?_, fun h => ?_⟩ <;> first | (exfalso; omega) | exact ⟨by first | rw [if_pos (by omega)] | (rw [if_neg (by omega)]; first | rw [if_pos (by omega)] | (rw [if_neg (by omega)]; first | rw [if_pos (by omega)] | rw [if_neg (by omega)])), rfl⟩ | exact ⟨rfl, rfl⟩
set_option maxRecDepth 20000 in
theorem con_X5_lenderOf (l : Launch) (htr : l.stackTraces = false) (σ : Mm) : CON fam0 63 l yX5_lenderOf (Cond.code yX5_lenderOf cX5_lenderOf 5 (some .long) :: wm) 2 42 0 (cl_X5_lenderOf.2.2.1 σ) (cl_X5_lenderOf.2.2.2.1 σ) (cl_X5_lenderOf.2.2.2.2 σ) :=
  con_of (cd := cd_X5_lenderOf) (own := RX5) (rk := 2) (sc_of htr (by decide) k_X5_lenderOf_ok (by decide +kernel) co_X5_ok fl_X5_ok (all_cons ⟨RX5, yX5_refused, cX5_refused, 2, (some .boolean), 0, 0, 1, con_X5_refused l htr, rfl, vw_X5_127, ⟨rfl, by decide, by decide, by decide +kernel⟩, ⟨by decide, by decide⟩, fun σ as μ h => ⟨38, 0, _, h.1, rfl, TX5, 31, rfl⟩⟩ (all_cons ⟨RX5, yX5_lentFrom, cX5_lentFrom, 5, (some .int), 0, 0, 2, con_X5_lentFrom l htr, rfl, vw_X5_92, ⟨rfl, by decide, by decide, by decide +kernel⟩, ⟨by decide, by decide⟩, fun σ as μ h => ⟨38, 0, _, h.1, rfl, TX5, 31, rfl⟩⟩ all_nil)) (all_cons ⟨yX5_isLender, cX5_isLender, 1, (some .boolean), 1, 22, con_X5_isLender l htr, vw_X5_150, ⟨by decide, by decide, by decide +kernel⟩, ⟨by decide, by decide⟩⟩ (all_cons ⟨yX5_isStock, cX5_isStock, 1, (some .boolean), 1, 22, con_X5_isStock l htr, vw_X5_122, ⟨by decide, by decide, by decide +kernel⟩, ⟨by decide, by decide⟩⟩ (all_cons ⟨yX5_in, cX5_in, 3, (some .boolean), 0, 0, con_X5_in l htr, vw_X5_85, ⟨by decide, by decide, by decide +kernel⟩, ⟨by decide, by decide⟩⟩ all_nil))) all_nil) rfl (by decide +kernel) rfl rfl rfl rfl (fun as μ hs => by rw [hs.1]; exact Nat.le_of_ble_eq_true rfl)
    (fun as μ hs hM hrg => by
      have hs1 := hs.1
      have hmem : ∀ v, v ∈ ([vR 38 0, vI (iaI as 1), vI (iaI as 2), vI (iaI as 3)] : List AV) → rg fam0 v := by rw [← hs1]; exact hrg
      have key := run_X5_lenderOf (ER := cl_X5_lenderOf.2.2.2.1 σ as μ) (ET := fun k μ' => cl_X5_lenderOf.2.2.2.2 σ as μ k ∧ μ' = μ) σ μ (iaI as 1) (iaI as 2) (iaI as 3) hM (hmem (vI (iaI as 1)) (by simp)) (hmem (vI (iaI as 2)) (by simp)) (hmem (vI (iaI as 3)) (by simp)) hs.2 (fun ov μ' h => h)
      have e : entL as 5 = [some (vR 38 0), some (vI (iaI as 1)), some (vI (iaI as 2)), some (vI (iaI as 3)), none] := by rw [hs1]; rfl
      rw [e]; exact key)
def holdsF (μ : Mm) (k : Int) : Int := bi (μ 57 0 k = 0 ∧ μ 38 0 1 ≤ μ 56 0 k + 1)
/-! ### PrimeborrowModel.holds -/
def cl_X5_holds : Cl := (2, 0, fun σ as μ => as = [vR 38 0, vI (iaI as 1)] ∧ ((0 ≤ (iaI as 1) ∧ (iaI as 1) ≤ 59) ∧ (0 ≤ μ 56 0 (iaI as 1) ∧ μ 56 0 (iaI as 1) ≤ 500)), fun σ as μ ov μ' => ov = some (vI (holdsF μ (iaI as 1))) ∧ μ' = μ, fun σ as μ k => False)
def cd_X5_holds : Cd := mkcd k_X5_holds co_X5 fl_X5 [] [] [] [] 2 3 0
set_option maxHeartbeats 4000000 in
set_option maxRecDepth 20000 in
theorem run_X5_holds {ER : Option AV → Mm → Prop} {ET : Nat → Mm → Prop} (σ μ : Mm) (k : Int) (hM : MR fam0 μ) (h_k : in32 k) (hP : (0 ≤ k ∧ k ≤ 59) ∧ (0 ≤ μ 56 0 k ∧ μ 56 0 k ≤ 500)) (hER : ∀ ov μ', (ov = some (vI (holdsF μ k)) ∧ μ' = μ) → ER ov μ') : Run fam0 none cd_X5_holds ER ET 0 0 [some (vR 38 0), some (vI k)] [] μ := by
  refine run_k 5 ?_
  show (0 ≤ k ∧ k < 60) ∧ (((μ 57 0 k) ≠ 0 → Run fam0 none cd_X5_holds ER ET 28 0 [some (vR 38 0), some (vI k)] [] μ) ∧ ((μ 57 0 k) = 0 → Run fam0 none cd_X5_holds ER ET 9 0 [some (vR 38 0), some (vI k)] [] μ))
  refine ⟨by omega, ?_⟩
  refine ⟨fun c1 => ?_, fun c1 => ?_⟩
  · refine run_k 2 ?_
    show (0 = 0 ∨ 0 = 1) ∧ ER (some (vI 0)) μ
    refine ⟨by omega, ?_⟩
    exact hER _ _ ⟨by unfold holdsF; first | rw [bi_t (by omega)] | rw [bi_f (by omega)], rfl⟩
  · refine run_k 9 ?_
    show (0 ≤ k ∧ k < 60) ∧ (((w32 ((μ 56 0 k) + 1)) < (μ 38 0 1) → Run fam0 none cd_X5_holds ER ET 28 0 [some (vR 38 0), some (vI k)] [] μ) ∧ ((μ 38 0 1) ≤ (w32 ((μ 56 0 k) + 1)) → Run fam0 none cd_X5_holds ER ET 24 0 [some (vR 38 0), some (vI k)] [] μ))
    rw [show w32 ((μ 56 0 k) + 1) = (μ 56 0 k) + 1 from w32_id (by simp only [in32]; omega)]
    refine ⟨by omega, ?_⟩
    refine ⟨fun c3 => ?_, fun c3 => ?_⟩
    · refine run_k 2 ?_
      show (0 = 0 ∨ 0 = 1) ∧ ER (some (vI 0)) μ
      refine ⟨by omega, ?_⟩
      exact hER _ _ ⟨by unfold holdsF; first | rw [bi_t (by omega)] | rw [bi_f (by omega)], rfl⟩
    · refine run_k 3 ?_
      show (1 = 0 ∨ 1 = 1) ∧ ER (some (vI 1)) μ
      refine ⟨by omega, ?_⟩
      exact hER _ _ ⟨by unfold holdsF; first | rw [bi_t (by omega)] | rw [bi_f (by omega)], rfl⟩
set_option maxRecDepth 20000 in
theorem con_X5_holds (l : Launch) (htr : l.stackTraces = false) (σ : Mm) : CON fam0 63 l yX5_holds (Cond.code yX5_holds cX5_holds 2 (some .boolean) :: wm) 0 0 0 (cl_X5_holds.2.2.1 σ) (cl_X5_holds.2.2.2.1 σ) (cl_X5_holds.2.2.2.2 σ) :=
  con_of (cd := cd_X5_holds) (own := RX5) (rk := 3) (sc_of htr (by decide) k_X5_holds_ok (by decide +kernel) co_X5_ok fl_X5_ok all_nil all_nil all_nil) rfl (by decide +kernel) rfl rfl rfl rfl (fun as μ hs => by rw [hs.1]; exact Nat.le_of_ble_eq_true rfl)
    (fun as μ hs hM hrg => by
      have hs1 := hs.1
      have hmem : ∀ v, v ∈ ([vR 38 0, vI (iaI as 1)] : List AV) → rg fam0 v := by rw [← hs1]; exact hrg
      have key := run_X5_holds (ER := cl_X5_holds.2.2.2.1 σ as μ) (ET := fun k μ' => cl_X5_holds.2.2.2.2 σ as μ k ∧ μ' = μ) σ μ (iaI as 1) hM (hmem (vI (iaI as 1)) (by simp)) hs.2 (fun ov μ' h => h)
      have e : entL as 2 = [some (vR 38 0), some (vI (iaI as 1))] := by rw [hs1]; rfl
      rw [e]; exact key)
/-! ### PrimeborrowModel.locateOf -/
def cl_X5_locateOf : Cl := (3, 0, fun σ as μ => as = [vR 38 0, vI (iaI as 1), vI (iaI as 2)] ∧ (Wk μ ∧ Xk μ), fun σ as μ ov μ' => ((¬ (0 ≤ (iaI as 1) ∧ (iaI as 1) ≤ μ 38 0 17 - 1)) → ov = some (vI 0) ∧ μ' = st μ 38 0 0 1) ∧ (((0 ≤ (iaI as 1) ∧ (iaI as 1) ≤ μ 38 0 17 - 1) ∧ ¬ (0 ≤ (iaI as 2) ∧ (iaI as 2) ≤ 3)) → ov = some (vI 0) ∧ μ' = st μ 38 0 0 2) ∧ (((0 ≤ (iaI as 1) ∧ (iaI as 1) ≤ μ 38 0 17 - 1) ∧ (0 ≤ (iaI as 2) ∧ (iaI as 2) ≤ 3)) → ov = some (vI (if (iaI as 2) = 0 then μ 53 0 (iaI as 1) else if (iaI as 2) = 1 then μ 54 0 (iaI as 1) else if (iaI as 2) = 2 then μ 55 0 (iaI as 1) else holdsF μ (iaI as 1))) ∧ μ' = st μ 38 0 0 0), fun σ as μ k => False)
def cd_X5_locateOf : Cd := mkcd k_X5_locateOf co_X5 fl_X5 [(127, cl_X5_refused), (186, cl_X5_holds)] [(85, cl_X5_in)] [] [] 3 1 0
set_option maxHeartbeats 4000000 in
set_option maxRecDepth 20000 in
theorem run_X5_locateOf {ER : Option AV → Mm → Prop} {ET : Nat → Mm → Prop} (σ μ : Mm) (k w : Int) (hM : MR fam0 μ) (h_k : in32 k) (h_w : in32 w) (hP : Wk μ ∧ Xk μ) (hER : ∀ ov μ', (((¬ (0 ≤ k ∧ k ≤ μ 38 0 17 - 1)) → ov = some (vI 0) ∧ μ' = st μ 38 0 0 1) ∧ (((0 ≤ k ∧ k ≤ μ 38 0 17 - 1) ∧ ¬ (0 ≤ w ∧ w ≤ 3)) → ov = some (vI 0) ∧ μ' = st μ 38 0 0 2) ∧ (((0 ≤ k ∧ k ≤ μ 38 0 17 - 1) ∧ (0 ≤ w ∧ w ≤ 3)) → ov = some (vI (if w = 0 then μ 53 0 k else if w = 1 then μ 54 0 k else if w = 2 then μ 55 0 k else holdsF μ k)) ∧ μ' = st μ 38 0 0 0)) → ER ov μ') : Run fam0 none cd_X5_locateOf ER ET 0 0 [some (vR 38 0), some (vI k), some (vI w)] [] μ := by
  obtain ⟨hW, hX⟩ := hP
  have hW0 : Wk (st μ 38 0 0 0) := Wk_st hW (by decide)
  have hLk := hW.1
  have hLk0 := hW0.1
  have hPk := hW.2.1
  have hPk0 := hW0.2.1
  have hGk := Gk_of hLk hW.2.2.2.2
  have hGk0 := Gk_of hLk0 hW0.2.2.2.2
  have hday := hX.1
  have hloc := hX.2.1.1
  have hrec := hX.2.2.1.1
  have hl0 := hLk.1
  have hlk := hX.2.1.2 k
  refine run_k 8 ?_
  show ∃ σ : Mm, cl_X5_in.2.2.1 σ [vI k, vI 0, vI (w32 ((μ 38 0 17) - 1))] μ ∧ (∀ ov μ', cl_X5_in.2.2.2.1 σ [vI k, vI 0, vI (w32 ((μ 38 0 17) - 1))] μ ov μ' → Run fam0 none cd_X5_locateOf ER ET 12 0 [some (vR 38 0), some (vI k), some (vI w)] (ov.toList ++ [vR 38 0]) μ') ∧ ∀ kx, cl_X5_in.2.2.2.2 σ [vI k, vI 0, vI (w32 ((μ 38 0 17) - 1))] μ kx → thr cd_X5_locateOf ET (Run fam0 none cd_X5_locateOf ER ET) 9 0 [some (vR 38 0), some (vI k), some (vI w)] μ kx
  rw [show w32 ((μ 38 0 17) - 1) = (μ 38 0 17) - 1 from w32_id (by simp only [in32]; omega)]
  refine ⟨μ, ⟨rfl, show True from True.intro⟩, fun ov μ' hq => ?_, fun k hk => hk.elim⟩
  obtain ⟨hov, hmu⟩ : ov = some (vI (bi (0 ≤ k ∧ k ≤ ((μ 38 0 17) - 1)))) ∧ μ' = μ := hq
  rw [hov, hmu]
  show Run fam0 none cd_X5_locateOf ER ET 12 0 [some (vR 38 0), some (vI k), some (vI w)] [vI (bi (0 ≤ k ∧ k ≤ ((μ 38 0 17) - 1))), vR 38 0] μ
  refine run_k 1 ?_
  show ((bi (0 ≤ k ∧ k ≤ ((μ 38 0 17) - 1))) ≠ 0 → Run fam0 none cd_X5_locateOf ER ET 19 0 [some (vR 38 0), some (vI k), some (vI w)] [vR 38 0] μ) ∧ ((bi (0 ≤ k ∧ k ≤ ((μ 38 0 17) - 1))) = 0 → Run fam0 none cd_X5_locateOf ER ET 15 0 [some (vR 38 0), some (vI k), some (vI w)] [vR 38 0] μ)
  refine ⟨fun c2 => ?_, fun c2 => ?_⟩
  · replace c2 := (bi_n0.mp c2)
    refine run_k 4 ?_
    show ∃ σ : Mm, cl_X5_in.2.2.1 σ [vI w, vI 0, vI 3] μ ∧ (∀ ov μ', cl_X5_in.2.2.2.1 σ [vI w, vI 0, vI 3] μ ov μ' → Run fam0 none cd_X5_locateOf ER ET 25 0 [some (vR 38 0), some (vI k), some (vI w)] (ov.toList ++ [vR 38 0]) μ') ∧ ∀ kx, cl_X5_in.2.2.2.2 σ [vI w, vI 0, vI 3] μ kx → thr cd_X5_locateOf ET (Run fam0 none cd_X5_locateOf ER ET) 22 0 [some (vR 38 0), some (vI k), some (vI w)] μ kx
    refine ⟨μ, ⟨rfl, show True from True.intro⟩, fun ov μ' hq => ?_, fun k hk => hk.elim⟩
    obtain ⟨hov, hmu⟩ : ov = some (vI (bi (0 ≤ w ∧ w ≤ 3))) ∧ μ' = μ := hq
    rw [hov, hmu]
    show Run fam0 none cd_X5_locateOf ER ET 25 0 [some (vR 38 0), some (vI k), some (vI w)] [vI (bi (0 ≤ w ∧ w ≤ 3)), vR 38 0] μ
    refine run_k 1 ?_
    show ((bi (0 ≤ w ∧ w ≤ 3)) ≠ 0 → Run fam0 none cd_X5_locateOf ER ET 32 0 [some (vR 38 0), some (vI k), some (vI w)] [vR 38 0] μ) ∧ ((bi (0 ≤ w ∧ w ≤ 3)) = 0 → Run fam0 none cd_X5_locateOf ER ET 28 0 [some (vR 38 0), some (vI k), some (vI w)] [vR 38 0] μ)
    refine ⟨fun c4 => ?_, fun c4 => ?_⟩
    · replace c4 := (bi_n0.mp c4)
      refine run_k 2 ?_
      show ∃ σ : Mm, cl_X5_refused.2.2.1 σ [vR 38 0, vI 0] μ ∧ (∀ ov μ', cl_X5_refused.2.2.2.1 σ [vR 38 0, vI 0] μ ov μ' → Run fam0 none cd_X5_locateOf ER ET 36 0 [some (vR 38 0), some (vI k), some (vI w)] (ov.toList ++ []) μ') ∧ ∀ kx, cl_X5_refused.2.2.2.2 σ [vR 38 0, vI 0] μ kx → thr cd_X5_locateOf ET (Run fam0 none cd_X5_locateOf ER ET) 33 0 [some (vR 38 0), some (vI k), some (vI w)] μ kx
      refine ⟨μ, ⟨rfl, show True from True.intro⟩, fun ov μ' hq => ?_, fun k hk => hk.elim⟩
      obtain ⟨hov, hmu⟩ : ov = some (vI 0) ∧ μ' = st μ 38 0 0 0 := hq
      rw [hov, hmu]
      show Run fam0 none cd_X5_locateOf ER ET 36 0 [some (vR 38 0), some (vI k), some (vI w)] [vI 0] (st μ 38 0 0 0)
      refine run_k 1 ?_
      show (0 = 0 → Run fam0 none cd_X5_locateOf ER ET 41 0 [some (vR 38 0), some (vI k), some (vI w)] [] (st μ 38 0 0 0)) ∧ (0 ≠ 0 → Run fam0 none cd_X5_locateOf ER ET 39 0 [some (vR 38 0), some (vI k), some (vI w)] [] (st μ 38 0 0 0))
      refine ⟨fun c6 => ?_, fun c6 => absurd c6 (by decide)⟩
      refine run_k 2 ?_
      show (w ≠ 0 → Run fam0 none cd_X5_locateOf ER ET 54 0 [some (vR 38 0), some (vI k), some (vI w)] [] (st μ 38 0 0 0)) ∧ (w = 0 → Run fam0 none cd_X5_locateOf ER ET 45 0 [some (vR 38 0), some (vI k), some (vI w)] [] (st μ 38 0 0 0))
      refine ⟨fun c7 => ?_, fun c7 => ?_⟩
      · refine run_k 3 ?_
        show (w ≠ 1 → Run fam0 none cd_X5_locateOf ER ET 68 0 [some (vR 38 0), some (vI k), some (vI w)] [] (st μ 38 0 0 0)) ∧ (w = 1 → Run fam0 none cd_X5_locateOf ER ET 59 0 [some (vR 38 0), some (vI k), some (vI w)] [] (st μ 38 0 0 0))
        refine ⟨fun c8 => ?_, fun c8 => ?_⟩
        · refine run_k 3 ?_
          show (w ≠ 2 → Run fam0 none cd_X5_locateOf ER ET 82 0 [some (vR 38 0), some (vI k), some (vI w)] [] (st μ 38 0 0 0)) ∧ (w = 2 → Run fam0 none cd_X5_locateOf ER ET 73 0 [some (vR 38 0), some (vI k), some (vI w)] [] (st μ 38 0 0 0))
          refine ⟨fun c9 => ?_, fun c9 => ?_⟩
          · refine run_k 3 ?_
            show ∃ σ : Mm, cl_X5_holds.2.2.1 σ [vR 38 0, vI k] (st μ 38 0 0 0) ∧ (∀ ov μ', cl_X5_holds.2.2.2.1 σ [vR 38 0, vI k] (st μ 38 0 0 0) ov μ' → Run fam0 none cd_X5_locateOf ER ET 87 0 [some (vR 38 0), some (vI k), some (vI w)] (ov.toList ++ []) μ') ∧ ∀ kx, cl_X5_holds.2.2.2.2 σ [vR 38 0, vI k] (st μ 38 0 0 0) kx → thr cd_X5_locateOf ET (Run fam0 none cd_X5_locateOf ER ET) 84 0 [some (vR 38 0), some (vI k), some (vI w)] (st μ 38 0 0 0) kx
            refine ⟨μ, ⟨rfl, show (0 ≤ k ∧ k ≤ 59) ∧ (0 ≤ (st μ 38 0 0 0) 56 0 k ∧ (st μ 38 0 0 0) 56 0 k ≤ 500) from ⟨by omega, by show 0 ≤ μ 56 0 k ∧ μ 56 0 k ≤ 500; omega⟩⟩, fun ov μ' hq => ?_, fun k hk => hk.elim⟩
            obtain ⟨hov, hmu⟩ : ov = some (vI (bi (μ 57 0 k = 0 ∧ μ 38 0 1 ≤ μ 56 0 k + 1))) ∧ μ' = st μ 38 0 0 0 := hq
            rw [hov, hmu]
            show Run fam0 none cd_X5_locateOf ER ET 87 0 [some (vR 38 0), some (vI k), some (vI w)] [vI (bi (μ 57 0 k = 0 ∧ μ 38 0 1 ≤ μ 56 0 k + 1))] (st μ 38 0 0 0)
            refine run_k 1 ?_
            show ((bi (μ 57 0 k = 0 ∧ μ 38 0 1 ≤ μ 56 0 k + 1)) = 0 → Run fam0 none cd_X5_locateOf ER ET 94 0 [some (vR 38 0), some (vI k), some (vI w)] [] (st μ 38 0 0 0)) ∧ ((bi (μ 57 0 k = 0 ∧ μ 38 0 1 ≤ μ 56 0 k + 1)) ≠ 0 → Run fam0 none cd_X5_locateOf ER ET 90 0 [some (vR 38 0), some (vI k), some (vI w)] [] (st μ 38 0 0 0))
            refine ⟨fun c11 => ?_, fun c11 => ?_⟩
            · replace c11 := (bi_e0.mp c11)
              refine run_k 2 ?_
              show ER (some (vI 0)) (st μ 38 0 0 0)
              refine hER _ _ ⟨fun h => ?_, fun h => ?_, fun h => ?_⟩ <;> first | (exfalso; omega) | exact ⟨by first | rw [if_pos (by omega)] | (rw [if_neg (by omega)]; first | rw [if_pos (by omega)] | (rw [if_neg (by omega)]; first | rw [if_pos (by omega)] | (rw [if_neg (by omega)]; unfold holdsF; first | rw [bi_t (by omega)] | rw [bi_f (by omega)]))), rfl⟩ | exact ⟨rfl, rfl⟩
            · replace c11 := (bi_n0.mp c11)
              refine run_k 3 ?_
              show ER (some (vI 1)) (st μ 38 0 0 0)
              refine hER _ _ ⟨fun h => ?_, fun h => ?_, fun h => ?_⟩ <;> first | (exfalso; omega) | exact ⟨by first | rw [if_pos (by omega)] | (rw [if_neg (by omega)]; first | rw [if_pos (by omega)] | (rw [if_neg (by omega)]; first | rw [if_pos (by omega)] | (rw [if_neg (by omega)]; unfold holdsF; first | rw [bi_t (by omega)] | rw [bi_f (by omega)]))), rfl⟩ | exact ⟨rfl, rfl⟩
          · refine run_k 6 ?_
            show (0 ≤ k ∧ k < 60) ∧ (ER (some (vI (μ 55 0 k))) (st μ 38 0 0 0))
            refine ⟨by omega, ?_⟩
            refine hER _ _ ⟨fun h => ?_, fun h => ?_, fun h => ?_⟩ <;> first | (exfalso; omega) | exact ⟨by first | rw [if_pos (by omega)] | (rw [if_neg (by omega)]; first | rw [if_pos (by omega)] | (rw [if_neg (by omega)]; first | rw [if_pos (by omega)] | (rw [if_neg (by omega)]; unfold holdsF; first | rw [bi_t (by omega)] | rw [bi_f (by omega)]))), rfl⟩ | exact ⟨rfl, rfl⟩
        · refine run_k 6 ?_
          show (0 ≤ k ∧ k < 60) ∧ (ER (some (vI (μ 54 0 k))) (st μ 38 0 0 0))
          refine ⟨by omega, ?_⟩
          refine hER _ _ ⟨fun h => ?_, fun h => ?_, fun h => ?_⟩ <;> first | (exfalso; omega) | exact ⟨by first | rw [if_pos (by omega)] | (rw [if_neg (by omega)]; first | rw [if_pos (by omega)] | (rw [if_neg (by omega)]; first | rw [if_pos (by omega)] | (rw [if_neg (by omega)]; unfold holdsF; first | rw [bi_t (by omega)] | rw [bi_f (by omega)]))), rfl⟩ | exact ⟨rfl, rfl⟩
      · refine run_k 6 ?_
        show (0 ≤ k ∧ k < 60) ∧ (ER (some (vI (μ 53 0 k))) (st μ 38 0 0 0))
        refine ⟨by omega, ?_⟩
        refine hER _ _ ⟨fun h => ?_, fun h => ?_, fun h => ?_⟩ <;> first | (exfalso; omega) | exact ⟨by first | rw [if_pos (by omega)] | (rw [if_neg (by omega)]; first | rw [if_pos (by omega)] | (rw [if_neg (by omega)]; first | rw [if_pos (by omega)] | (rw [if_neg (by omega)]; unfold holdsF; first | rw [bi_t (by omega)] | rw [bi_f (by omega)]))), rfl⟩ | exact ⟨rfl, rfl⟩
    · replace c4 := (bi_e0.mp c4)
      refine run_k 3 ?_
      show ∃ σ : Mm, cl_X5_refused.2.2.1 σ [vR 38 0, vI 2] μ ∧ (∀ ov μ', cl_X5_refused.2.2.2.1 σ [vR 38 0, vI 2] μ ov μ' → Run fam0 none cd_X5_locateOf ER ET 36 0 [some (vR 38 0), some (vI k), some (vI w)] (ov.toList ++ []) μ') ∧ ∀ kx, cl_X5_refused.2.2.2.2 σ [vR 38 0, vI 2] μ kx → thr cd_X5_locateOf ET (Run fam0 none cd_X5_locateOf ER ET) 33 0 [some (vR 38 0), some (vI k), some (vI w)] μ kx
      refine ⟨μ, ⟨rfl, show True from True.intro⟩, fun ov μ' hq => ?_, fun k hk => hk.elim⟩
      obtain ⟨hov, hmu⟩ : ov = some (vI 1) ∧ μ' = st μ 38 0 0 2 := hq
      rw [hov, hmu]
      show Run fam0 none cd_X5_locateOf ER ET 36 0 [some (vR 38 0), some (vI k), some (vI w)] [vI 1] (st μ 38 0 0 2)
      refine run_k 1 ?_
      show (1 = 0 → Run fam0 none cd_X5_locateOf ER ET 41 0 [some (vR 38 0), some (vI k), some (vI w)] [] (st μ 38 0 0 2)) ∧ (1 ≠ 0 → Run fam0 none cd_X5_locateOf ER ET 39 0 [some (vR 38 0), some (vI k), some (vI w)] [] (st μ 38 0 0 2))
      refine ⟨fun c18 => absurd c18 (by decide), fun c18 => ?_⟩
      refine run_k 2 ?_
      show ER (some (vI 0)) (st μ 38 0 0 2)
      refine hER _ _ ⟨fun h => ?_, fun h => ?_, fun h => ?_⟩ <;> first | (exfalso; omega) | exact ⟨by first | rw [if_pos (by omega)] | (rw [if_neg (by omega)]; first | rw [if_pos (by omega)] | (rw [if_neg (by omega)]; first | rw [if_pos (by omega)] | (rw [if_neg (by omega)]; unfold holdsF; first | rw [bi_t (by omega)] | rw [bi_f (by omega)]))), rfl⟩ | exact ⟨rfl, rfl⟩
  · replace c2 := (bi_e0.mp c2)
    refine run_k 3 ?_
    show ∃ σ : Mm, cl_X5_refused.2.2.1 σ [vR 38 0, vI 1] μ ∧ (∀ ov μ', cl_X5_refused.2.2.2.1 σ [vR 38 0, vI 1] μ ov μ' → Run fam0 none cd_X5_locateOf ER ET 36 0 [some (vR 38 0), some (vI k), some (vI w)] (ov.toList ++ []) μ') ∧ ∀ kx, cl_X5_refused.2.2.2.2 σ [vR 38 0, vI 1] μ kx → thr cd_X5_locateOf ET (Run fam0 none cd_X5_locateOf ER ET) 33 0 [some (vR 38 0), some (vI k), some (vI w)] μ kx
    refine ⟨μ, ⟨rfl, show True from True.intro⟩, fun ov μ' hq => ?_, fun k hk => hk.elim⟩
    obtain ⟨hov, hmu⟩ : ov = some (vI 1) ∧ μ' = st μ 38 0 0 1 := hq
    rw [hov, hmu]
    show Run fam0 none cd_X5_locateOf ER ET 36 0 [some (vR 38 0), some (vI k), some (vI w)] [vI 1] (st μ 38 0 0 1)
    refine run_k 1 ?_
    show (1 = 0 → Run fam0 none cd_X5_locateOf ER ET 41 0 [some (vR 38 0), some (vI k), some (vI w)] [] (st μ 38 0 0 1)) ∧ (1 ≠ 0 → Run fam0 none cd_X5_locateOf ER ET 39 0 [some (vR 38 0), some (vI k), some (vI w)] [] (st μ 38 0 0 1))
    refine ⟨fun c21 => absurd c21 (by decide), fun c21 => ?_⟩
    refine run_k 2 ?_
    show ER (some (vI 0)) (st μ 38 0 0 1)
    refine hER _ _ ⟨fun h => ?_, fun h => ?_, fun h => ?_⟩ <;> first | (exfalso; omega) | exact ⟨by first | rw [if_pos (by omega)] | (rw [if_neg (by omega)]; first | rw [if_pos (by omega)] | (rw [if_neg (by omega)]; first | rw [if_pos (by omega)] | (rw [if_neg (by omega)]; unfold holdsF; first | rw [bi_t (by omega)] | rw [bi_f (by omega)]))), rfl⟩ | exact ⟨rfl, rfl⟩
theorem vw_X5_186 : ∀ w ∈ ([.methodLink RX5 186 yX5_holds, .instanceMethod yX5_holds, .selects RX5 yX5_holds yX5_holds, .initialized RX5, .code yX5_holds cX5_holds 2 (some .boolean)] : List Cond), w ∈ wm := wm_ps _ [924, 926, 46, 55, 927] (by decide +kernel)
set_option maxRecDepth 20000 in
theorem con_X5_locateOf (l : Launch) (htr : l.stackTraces = false) (σ : Mm) : CON fam0 63 l yX5_locateOf (Cond.code yX5_locateOf cX5_locateOf 3 (some .int) :: wm) 1 22 0 (cl_X5_locateOf.2.2.1 σ) (cl_X5_locateOf.2.2.2.1 σ) (cl_X5_locateOf.2.2.2.2 σ) :=
  con_of (cd := cd_X5_locateOf) (own := RX5) (rk := 1) (sc_of htr (by decide) k_X5_locateOf_ok (by decide +kernel) co_X5_ok fl_X5_ok (all_cons ⟨RX5, yX5_refused, cX5_refused, 2, (some .boolean), 0, 0, 1, con_X5_refused l htr, rfl, vw_X5_127, ⟨rfl, by decide, by decide, by decide +kernel⟩, ⟨by decide, by decide⟩, fun σ as μ h => ⟨38, 0, _, h.1, rfl, TX5, 31, rfl⟩⟩ (all_cons ⟨RX5, yX5_holds, cX5_holds, 2, (some .boolean), 0, 0, 1, con_X5_holds l htr, rfl, vw_X5_186, ⟨rfl, by decide, by decide, by decide +kernel⟩, ⟨by decide, by decide⟩, fun σ as μ h => ⟨38, 0, _, h.1, rfl, TX5, 31, rfl⟩⟩ all_nil)) (all_cons ⟨yX5_in, cX5_in, 3, (some .boolean), 0, 0, con_X5_in l htr, vw_X5_85, ⟨by decide, by decide, by decide +kernel⟩, ⟨by decide, by decide⟩⟩ all_nil) all_nil) rfl (by decide +kernel) rfl rfl rfl rfl (fun as μ hs => by rw [hs.1]; exact Nat.le_of_ble_eq_true rfl)
    (fun as μ hs hM hrg => by
      have hs1 := hs.1
      have hmem : ∀ v, v ∈ ([vR 38 0, vI (iaI as 1), vI (iaI as 2)] : List AV) → rg fam0 v := by rw [← hs1]; exact hrg
      have key := run_X5_locateOf (ER := cl_X5_locateOf.2.2.2.1 σ as μ) (ET := fun k μ' => cl_X5_locateOf.2.2.2.2 σ as μ k ∧ μ' = μ) σ μ (iaI as 1) (iaI as 2) hM (hmem (vI (iaI as 1)) (by simp)) (hmem (vI (iaI as 2)) (by simp)) hs.2 (fun ov μ' h => h)
      have e : entL as 3 = [some (vR 38 0), some (vI (iaI as 1)), some (vI (iaI as 2))] := by rw [hs1]; rfl
      rw [e]; exact key)
/-! ### PrimeborrowModel.locate -/
def cl_X5_locate : Cl := (4, 0, fun σ as μ => as = [vR 38 0, vI (iaI as 1), vI (iaI as 2), vI (iaI as 3)] ∧ (Wk μ ∧ Xk μ), fun σ as μ ov μ' => ((¬ ((0 ≤ (iaI as 1) ∧ (iaI as 1) ≤ 5) ∧ (0 ≤ (iaI as 2) ∧ (iaI as 2) ≤ 3))) → ov = some (vI 0) ∧ μ' = st μ 38 0 0 1) ∧ ((((0 ≤ (iaI as 1) ∧ (iaI as 1) ≤ 5) ∧ (0 ≤ (iaI as 2) ∧ (iaI as 2) ≤ 3)) ∧ ¬ (1 ≤ (iaI as 3) ∧ (iaI as 3) ≤ 500)) → ov = some (vI 0) ∧ μ' = st μ 38 0 0 2) ∧ (((((0 ≤ (iaI as 1) ∧ (iaI as 1) ≤ 5) ∧ (0 ≤ (iaI as 2) ∧ (iaI as 2) ≤ 3)) ∧ (1 ≤ (iaI as 3) ∧ (iaI as 3) ≤ 500)) ∧ (μ 44 0 (iaI as 1) ≠ 0 ∨ canF μ (iaI as 1) (iaI as 2) < (iaI as 3) ∨ μ 38 0 17 = 60)) → ov = some (vI 0) ∧ μ' = st μ 38 0 0 3) ∧ (((((0 ≤ (iaI as 1) ∧ (iaI as 1) ≤ 5) ∧ (0 ≤ (iaI as 2) ∧ (iaI as 2) ≤ 3)) ∧ (1 ≤ (iaI as 3) ∧ (iaI as 3) ≤ 500)) ∧ (μ 44 0 (iaI as 1) = 0 ∧ (iaI as 3) ≤ canF μ (iaI as 1) (iaI as 2) ∧ μ 38 0 17 ≠ 60)) → ov = some (vI (μ 38 0 17)) ∧ μ' = st (st (st (st (st (st μ 38 0 0 0) 53 0 (μ 38 0 17) (iaI as 1)) 54 0 (μ 38 0 17) (iaI as 2)) 55 0 (μ 38 0 17) (iaI as 3)) 56 0 (μ 38 0 17) (μ 38 0 1)) 38 0 17 (μ 38 0 17 + 1)), fun σ as μ k => False)
def cd_X5_locate : Cd := mkcd k_X5_locate co_X5 fl_X5 [(180, cl_X5_canBorrow), (127, cl_X5_refused)] [(145, cl_X5_isClient), (122, cl_X5_isStock), (85, cl_X5_in)] [] [] 6 1 0
set_option maxHeartbeats 4000000 in
set_option maxRecDepth 20000 in
theorem run_X5_locate {ER : Option AV → Mm → Prop} {ET : Nat → Mm → Prop} (σ μ : Mm) (c s n : Int) (hM : MR fam0 μ) (h_c : in32 c) (h_s : in32 s) (h_n : in32 n) (hP : Wk μ ∧ Xk μ) (hER : ∀ ov μ', (((¬ ((0 ≤ c ∧ c ≤ 5) ∧ (0 ≤ s ∧ s ≤ 3))) → ov = some (vI 0) ∧ μ' = st μ 38 0 0 1) ∧ ((((0 ≤ c ∧ c ≤ 5) ∧ (0 ≤ s ∧ s ≤ 3)) ∧ ¬ (1 ≤ n ∧ n ≤ 500)) → ov = some (vI 0) ∧ μ' = st μ 38 0 0 2) ∧ (((((0 ≤ c ∧ c ≤ 5) ∧ (0 ≤ s ∧ s ≤ 3)) ∧ (1 ≤ n ∧ n ≤ 500)) ∧ (μ 44 0 c ≠ 0 ∨ canF μ c s < n ∨ μ 38 0 17 = 60)) → ov = some (vI 0) ∧ μ' = st μ 38 0 0 3) ∧ (((((0 ≤ c ∧ c ≤ 5) ∧ (0 ≤ s ∧ s ≤ 3)) ∧ (1 ≤ n ∧ n ≤ 500)) ∧ (μ 44 0 c = 0 ∧ n ≤ canF μ c s ∧ μ 38 0 17 ≠ 60)) → ov = some (vI (μ 38 0 17)) ∧ μ' = st (st (st (st (st (st μ 38 0 0 0) 53 0 (μ 38 0 17) c) 54 0 (μ 38 0 17) s) 55 0 (μ 38 0 17) n) 56 0 (μ 38 0 17) (μ 38 0 1)) 38 0 17 (μ 38 0 17 + 1))) → ER ov μ') : Run fam0 none cd_X5_locate ER ET 0 0 [some (vR 38 0), some (vI c), some (vI s), some (vI n), none, none] [] μ := by
  obtain ⟨hW, hX⟩ := hP
  have hW0 : Wk (st μ 38 0 0 0) := Wk_st hW (by decide)
  have hLk := hW.1
  have hLk0 := hW0.1
  have hPk := hW.2.1
  have hPk0 := hW0.2.1
  have hGk := Gk_of hLk hW.2.2.2.2
  have hGk0 := Gk_of hLk0 hW0.2.2.2.2
  have hday := hX.1
  have hloc := hX.2.1.1
  have hrec := hX.2.2.1.1
  have hl0 := hLk.1
  refine run_k 2 ?_
  show ∃ σ : Mm, cl_X5_isClient.2.2.1 σ [vI c] μ ∧ (∀ ov μ', cl_X5_isClient.2.2.2.1 σ [vI c] μ ov μ' → Run fam0 none cd_X5_locate ER ET 4 0 [some (vR 38 0), some (vI c), some (vI s), some (vI n), none, none] (ov.toList ++ []) μ') ∧ ∀ kx, cl_X5_isClient.2.2.2.2 σ [vI c] μ kx → thr cd_X5_locate ET (Run fam0 none cd_X5_locate ER ET) 1 0 [some (vR 38 0), some (vI c), some (vI s), some (vI n), none, none] μ kx
  refine ⟨μ, ⟨rfl, show True from True.intro⟩, fun ov μ' hq => ?_, fun k hk => hk.elim⟩
  obtain ⟨hov, hmu⟩ : ov = some (vI (bi (0 ≤ c ∧ c ≤ 5))) ∧ μ' = μ := hq
  rw [hov, hmu]
  show Run fam0 none cd_X5_locate ER ET 4 0 [some (vR 38 0), some (vI c), some (vI s), some (vI n), none, none] [vI (bi (0 ≤ c ∧ c ≤ 5))] μ
  refine run_k 1 ?_
  show ((bi (0 ≤ c ∧ c ≤ 5)) = 0 → Run fam0 none cd_X5_locate ER ET 18 0 [some (vR 38 0), some (vI c), some (vI s), some (vI n), none, none] [] μ) ∧ ((bi (0 ≤ c ∧ c ≤ 5)) ≠ 0 → Run fam0 none cd_X5_locate ER ET 7 0 [some (vR 38 0), some (vI c), some (vI s), some (vI n), none, none] [] μ)
  refine ⟨fun c2 => ?_, fun c2 => ?_⟩
  · replace c2 := (bi_e0.mp c2)
    refine run_k 6 ?_
    show ∃ σ : Mm, cl_X5_in.2.2.1 σ [vI n, vI 1, vI 500] μ ∧ (∀ ov μ', cl_X5_in.2.2.2.1 σ [vI n, vI 1, vI 500] μ ov μ' → Run fam0 none cd_X5_locate ER ET 29 0 [some (vR 38 0), some (vI c), some (vI s), some (vI n), some (vI 0), none] (ov.toList ++ []) μ') ∧ ∀ kx, cl_X5_in.2.2.2.2 σ [vI n, vI 1, vI 500] μ kx → thr cd_X5_locate ET (Run fam0 none cd_X5_locate ER ET) 26 0 [some (vR 38 0), some (vI c), some (vI s), some (vI n), some (vI 0), none] μ kx
    refine ⟨μ, ⟨rfl, show True from True.intro⟩, fun ov μ' hq => ?_, fun k hk => hk.elim⟩
    obtain ⟨hov, hmu⟩ : ov = some (vI (bi (1 ≤ n ∧ n ≤ 500))) ∧ μ' = μ := hq
    rw [hov, hmu]
    show Run fam0 none cd_X5_locate ER ET 29 0 [some (vR 38 0), some (vI c), some (vI s), some (vI n), some (vI 0), none] [vI (bi (1 ≤ n ∧ n ≤ 500))] μ
    refine run_k 4 ?_
    show (0 ≠ 0 → Run fam0 none cd_X5_locate ER ET 41 0 [some (vR 38 0), some (vI c), some (vI s), some (vI n), some (vI 0), some (vI (bi (1 ≤ n ∧ n ≤ 500)))] [vR 38 0] μ) ∧ (0 = 0 → Run fam0 none cd_X5_locate ER ET 37 0 [some (vR 38 0), some (vI c), some (vI s), some (vI n), some (vI 0), some (vI (bi (1 ≤ n ∧ n ≤ 500)))] [vR 38 0] μ)
    refine ⟨fun c4 => absurd c4 (by decide), fun c4 => ?_⟩
    refine run_k 3 ?_
    show ∃ σ : Mm, cl_X5_refused.2.2.1 σ [vR 38 0, vI 1] μ ∧ (∀ ov μ', cl_X5_refused.2.2.2.1 σ [vR 38 0, vI 1] μ ov μ' → Run fam0 none cd_X5_locate ER ET 86 0 [some (vR 38 0), some (vI c), some (vI s), some (vI n), some (vI 0), some (vI (bi (1 ≤ n ∧ n ≤ 500)))] (ov.toList ++ []) μ') ∧ ∀ kx, cl_X5_refused.2.2.2.2 σ [vR 38 0, vI 1] μ kx → thr cd_X5_locate ET (Run fam0 none cd_X5_locate ER ET) 83 0 [some (vR 38 0), some (vI c), some (vI s), some (vI n), some (vI 0), some (vI (bi (1 ≤ n ∧ n ≤ 500)))] μ kx
    refine ⟨μ, ⟨rfl, show True from True.intro⟩, fun ov μ' hq => ?_, fun k hk => hk.elim⟩
    obtain ⟨hov, hmu⟩ : ov = some (vI 1) ∧ μ' = st μ 38 0 0 1 := hq
    rw [hov, hmu]
    show Run fam0 none cd_X5_locate ER ET 86 0 [some (vR 38 0), some (vI c), some (vI s), some (vI n), some (vI 0), some (vI (bi (1 ≤ n ∧ n ≤ 500)))] [vI 1] (st μ 38 0 0 1)
    refine run_k 1 ?_
    show (1 = 0 → Run fam0 none cd_X5_locate ER ET 91 0 [some (vR 38 0), some (vI c), some (vI s), some (vI n), some (vI 0), some (vI (bi (1 ≤ n ∧ n ≤ 500)))] [] (st μ 38 0 0 1)) ∧ (1 ≠ 0 → Run fam0 none cd_X5_locate ER ET 89 0 [some (vR 38 0), some (vI c), some (vI s), some (vI n), some (vI 0), some (vI (bi (1 ≤ n ∧ n ≤ 500)))] [] (st μ 38 0 0 1))
    refine ⟨fun c6 => absurd c6 (by decide), fun c6 => ?_⟩
    refine run_k 2 ?_
    show ER (some (vI 0)) (st μ 38 0 0 1)
    refine hER _ _ ⟨fun h => ?_, fun h => ?_, fun h => ?_, fun h => ?_⟩ <;> first | (exfalso; omega) | exact ⟨congrArg (fun z => some (vI z)) (by omega), rfl⟩ | exact ⟨rfl, rfl⟩
  · replace c2 := (bi_n0.mp c2)
    refine run_k 2 ?_
    show ∃ σ : Mm, cl_X5_isStock.2.2.1 σ [vI s] μ ∧ (∀ ov μ', cl_X5_isStock.2.2.2.1 σ [vI s] μ ov μ' → Run fam0 none cd_X5_locate ER ET 11 0 [some (vR 38 0), some (vI c), some (vI s), some (vI n), none, none] (ov.toList ++ []) μ') ∧ ∀ kx, cl_X5_isStock.2.2.2.2 σ [vI s] μ kx → thr cd_X5_locate ET (Run fam0 none cd_X5_locate ER ET) 8 0 [some (vR 38 0), some (vI c), some (vI s), some (vI n), none, none] μ kx
    refine ⟨μ, ⟨rfl, show True from True.intro⟩, fun ov μ' hq => ?_, fun k hk => hk.elim⟩
    obtain ⟨hov, hmu⟩ : ov = some (vI (bi (0 ≤ s ∧ s ≤ 3))) ∧ μ' = μ := hq
    rw [hov, hmu]
    show Run fam0 none cd_X5_locate ER ET 11 0 [some (vR 38 0), some (vI c), some (vI s), some (vI n), none, none] [vI (bi (0 ≤ s ∧ s ≤ 3))] μ
    refine run_k 1 ?_
    show ((bi (0 ≤ s ∧ s ≤ 3)) = 0 → Run fam0 none cd_X5_locate ER ET 18 0 [some (vR 38 0), some (vI c), some (vI s), some (vI n), none, none] [] μ) ∧ ((bi (0 ≤ s ∧ s ≤ 3)) ≠ 0 → Run fam0 none cd_X5_locate ER ET 14 0 [some (vR 38 0), some (vI c), some (vI s), some (vI n), none, none] [] μ)
    refine ⟨fun c9 => ?_, fun c9 => ?_⟩
    · replace c9 := (bi_e0.mp c9)
      refine run_k 6 ?_
      show ∃ σ : Mm, cl_X5_in.2.2.1 σ [vI n, vI 1, vI 500] μ ∧ (∀ ov μ', cl_X5_in.2.2.2.1 σ [vI n, vI 1, vI 500] μ ov μ' → Run fam0 none cd_X5_locate ER ET 29 0 [some (vR 38 0), some (vI c), some (vI s), some (vI n), some (vI 0), none] (ov.toList ++ []) μ') ∧ ∀ kx, cl_X5_in.2.2.2.2 σ [vI n, vI 1, vI 500] μ kx → thr cd_X5_locate ET (Run fam0 none cd_X5_locate ER ET) 26 0 [some (vR 38 0), some (vI c), some (vI s), some (vI n), some (vI 0), none] μ kx
      refine ⟨μ, ⟨rfl, show True from True.intro⟩, fun ov μ' hq => ?_, fun k hk => hk.elim⟩
      obtain ⟨hov, hmu⟩ : ov = some (vI (bi (1 ≤ n ∧ n ≤ 500))) ∧ μ' = μ := hq
      rw [hov, hmu]
      show Run fam0 none cd_X5_locate ER ET 29 0 [some (vR 38 0), some (vI c), some (vI s), some (vI n), some (vI 0), none] [vI (bi (1 ≤ n ∧ n ≤ 500))] μ
      refine run_k 4 ?_
      show (0 ≠ 0 → Run fam0 none cd_X5_locate ER ET 41 0 [some (vR 38 0), some (vI c), some (vI s), some (vI n), some (vI 0), some (vI (bi (1 ≤ n ∧ n ≤ 500)))] [vR 38 0] μ) ∧ (0 = 0 → Run fam0 none cd_X5_locate ER ET 37 0 [some (vR 38 0), some (vI c), some (vI s), some (vI n), some (vI 0), some (vI (bi (1 ≤ n ∧ n ≤ 500)))] [vR 38 0] μ)
      refine ⟨fun c11 => absurd c11 (by decide), fun c11 => ?_⟩
      refine run_k 3 ?_
      show ∃ σ : Mm, cl_X5_refused.2.2.1 σ [vR 38 0, vI 1] μ ∧ (∀ ov μ', cl_X5_refused.2.2.2.1 σ [vR 38 0, vI 1] μ ov μ' → Run fam0 none cd_X5_locate ER ET 86 0 [some (vR 38 0), some (vI c), some (vI s), some (vI n), some (vI 0), some (vI (bi (1 ≤ n ∧ n ≤ 500)))] (ov.toList ++ []) μ') ∧ ∀ kx, cl_X5_refused.2.2.2.2 σ [vR 38 0, vI 1] μ kx → thr cd_X5_locate ET (Run fam0 none cd_X5_locate ER ET) 83 0 [some (vR 38 0), some (vI c), some (vI s), some (vI n), some (vI 0), some (vI (bi (1 ≤ n ∧ n ≤ 500)))] μ kx
      refine ⟨μ, ⟨rfl, show True from True.intro⟩, fun ov μ' hq => ?_, fun k hk => hk.elim⟩
      obtain ⟨hov, hmu⟩ : ov = some (vI 1) ∧ μ' = st μ 38 0 0 1 := hq
      rw [hov, hmu]
      show Run fam0 none cd_X5_locate ER ET 86 0 [some (vR 38 0), some (vI c), some (vI s), some (vI n), some (vI 0), some (vI (bi (1 ≤ n ∧ n ≤ 500)))] [vI 1] (st μ 38 0 0 1)
      refine run_k 1 ?_
      show (1 = 0 → Run fam0 none cd_X5_locate ER ET 91 0 [some (vR 38 0), some (vI c), some (vI s), some (vI n), some (vI 0), some (vI (bi (1 ≤ n ∧ n ≤ 500)))] [] (st μ 38 0 0 1)) ∧ (1 ≠ 0 → Run fam0 none cd_X5_locate ER ET 89 0 [some (vR 38 0), some (vI c), some (vI s), some (vI n), some (vI 0), some (vI (bi (1 ≤ n ∧ n ≤ 500)))] [] (st μ 38 0 0 1))
      refine ⟨fun c13 => absurd c13 (by decide), fun c13 => ?_⟩
      refine run_k 2 ?_
      show ER (some (vI 0)) (st μ 38 0 0 1)
      refine hER _ _ ⟨fun h => ?_, fun h => ?_, fun h => ?_, fun h => ?_⟩ <;> first | (exfalso; omega) | exact ⟨congrArg (fun z => some (vI z)) (by omega), rfl⟩ | exact ⟨rfl, rfl⟩
    · replace c9 := (bi_n0.mp c9)
      refine run_k 7 ?_
      show ∃ σ : Mm, cl_X5_in.2.2.1 σ [vI n, vI 1, vI 500] μ ∧ (∀ ov μ', cl_X5_in.2.2.2.1 σ [vI n, vI 1, vI 500] μ ov μ' → Run fam0 none cd_X5_locate ER ET 29 0 [some (vR 38 0), some (vI c), some (vI s), some (vI n), some (vI 1), none] (ov.toList ++ []) μ') ∧ ∀ kx, cl_X5_in.2.2.2.2 σ [vI n, vI 1, vI 500] μ kx → thr cd_X5_locate ET (Run fam0 none cd_X5_locate ER ET) 26 0 [some (vR 38 0), some (vI c), some (vI s), some (vI n), some (vI 1), none] μ kx
      refine ⟨μ, ⟨rfl, show True from True.intro⟩, fun ov μ' hq => ?_, fun k hk => hk.elim⟩
      obtain ⟨hov, hmu⟩ : ov = some (vI (bi (1 ≤ n ∧ n ≤ 500))) ∧ μ' = μ := hq
      rw [hov, hmu]
      show Run fam0 none cd_X5_locate ER ET 29 0 [some (vR 38 0), some (vI c), some (vI s), some (vI n), some (vI 1), none] [vI (bi (1 ≤ n ∧ n ≤ 500))] μ
      refine run_k 4 ?_
      show (1 ≠ 0 → Run fam0 none cd_X5_locate ER ET 41 0 [some (vR 38 0), some (vI c), some (vI s), some (vI n), some (vI 1), some (vI (bi (1 ≤ n ∧ n ≤ 500)))] [vR 38 0] μ) ∧ (1 = 0 → Run fam0 none cd_X5_locate ER ET 37 0 [some (vR 38 0), some (vI c), some (vI s), some (vI n), some (vI 1), some (vI (bi (1 ≤ n ∧ n ≤ 500)))] [vR 38 0] μ)
      refine ⟨fun c16 => ?_, fun c16 => absurd c16 (by decide)⟩
      refine run_k 2 ?_
      show ((bi (1 ≤ n ∧ n ≤ 500)) ≠ 0 → Run fam0 none cd_X5_locate ER ET 50 0 [some (vR 38 0), some (vI c), some (vI s), some (vI n), some (vI 1), some (vI (bi (1 ≤ n ∧ n ≤ 500)))] [vR 38 0] μ) ∧ ((bi (1 ≤ n ∧ n ≤ 500)) = 0 → Run fam0 none cd_X5_locate ER ET 46 0 [some (vR 38 0), some (vI c), some (vI s), some (vI n), some (vI 1), some (vI (bi (1 ≤ n ∧ n ≤ 500)))] [vR 38 0] μ)
      refine ⟨fun c17 => ?_, fun c17 => ?_⟩
      · replace c17 := (bi_n0.mp c17)
        refine run_k 5 ?_
        show (0 ≤ c ∧ c < 6) ∧ (((μ 44 0 c) ≠ 0 → Run fam0 none cd_X5_locate ER ET 78 0 [some (vR 38 0), some (vI c), some (vI s), some (vI n), some (vI 1), some (vI (bi (1 ≤ n ∧ n ≤ 500)))] [vR 38 0] μ) ∧ ((μ 44 0 c) = 0 → Run fam0 none cd_X5_locate ER ET 59 0 [some (vR 38 0), some (vI c), some (vI s), some (vI n), some (vI 1), some (vI (bi (1 ≤ n ∧ n ≤ 500)))] [vR 38 0] μ))
        refine ⟨by omega, ?_⟩
        refine ⟨fun c18 => ?_, fun c18 => ?_⟩
        · refine run_k 3 ?_
          show ∃ σ : Mm, cl_X5_refused.2.2.1 σ [vR 38 0, vI 3] μ ∧ (∀ ov μ', cl_X5_refused.2.2.2.1 σ [vR 38 0, vI 3] μ ov μ' → Run fam0 none cd_X5_locate ER ET 86 0 [some (vR 38 0), some (vI c), some (vI s), some (vI n), some (vI 1), some (vI (bi (1 ≤ n ∧ n ≤ 500)))] (ov.toList ++ []) μ') ∧ ∀ kx, cl_X5_refused.2.2.2.2 σ [vR 38 0, vI 3] μ kx → thr cd_X5_locate ET (Run fam0 none cd_X5_locate ER ET) 83 0 [some (vR 38 0), some (vI c), some (vI s), some (vI n), some (vI 1), some (vI (bi (1 ≤ n ∧ n ≤ 500)))] μ kx
          refine ⟨μ, ⟨rfl, show True from True.intro⟩, fun ov μ' hq => ?_, fun k hk => hk.elim⟩
          obtain ⟨hov, hmu⟩ : ov = some (vI 1) ∧ μ' = st μ 38 0 0 3 := hq
          rw [hov, hmu]
          show Run fam0 none cd_X5_locate ER ET 86 0 [some (vR 38 0), some (vI c), some (vI s), some (vI n), some (vI 1), some (vI (bi (1 ≤ n ∧ n ≤ 500)))] [vI 1] (st μ 38 0 0 3)
          refine run_k 1 ?_
          show (1 = 0 → Run fam0 none cd_X5_locate ER ET 91 0 [some (vR 38 0), some (vI c), some (vI s), some (vI n), some (vI 1), some (vI (bi (1 ≤ n ∧ n ≤ 500)))] [] (st μ 38 0 0 3)) ∧ (1 ≠ 0 → Run fam0 none cd_X5_locate ER ET 89 0 [some (vR 38 0), some (vI c), some (vI s), some (vI n), some (vI 1), some (vI (bi (1 ≤ n ∧ n ≤ 500)))] [] (st μ 38 0 0 3))
          refine ⟨fun c20 => absurd c20 (by decide), fun c20 => ?_⟩
          refine run_k 2 ?_
          show ER (some (vI 0)) (st μ 38 0 0 3)
          refine hER _ _ ⟨fun h => ?_, fun h => ?_, fun h => ?_, fun h => ?_⟩ <;> first | (exfalso; omega) | exact ⟨congrArg (fun z => some (vI z)) (by omega), rfl⟩ | exact ⟨rfl, rfl⟩
        · refine run_k 4 ?_
          show ∃ σ : Mm, cl_X5_canBorrow.2.2.1 σ [vR 38 0, vI c, vI s] μ ∧ (∀ ov μ', cl_X5_canBorrow.2.2.2.1 σ [vR 38 0, vI c, vI s] μ ov μ' → Run fam0 none cd_X5_locate ER ET 65 0 [some (vR 38 0), some (vI c), some (vI s), some (vI n), some (vI 1), some (vI (bi (1 ≤ n ∧ n ≤ 500)))] (ov.toList ++ [vR 38 0]) μ') ∧ ∀ kx, cl_X5_canBorrow.2.2.2.2 σ [vR 38 0, vI c, vI s] μ kx → thr cd_X5_locate ET (Run fam0 none cd_X5_locate ER ET) 62 0 [some (vR 38 0), some (vI c), some (vI s), some (vI n), some (vI 1), some (vI (bi (1 ≤ n ∧ n ≤ 500)))] μ kx
          refine ⟨μ, ⟨rfl, show Lk μ ∧ Pk μ ∧ Gk μ ∧ (0 ≤ s ∧ s ≤ 3) from ⟨(by assumption), (by assumption), (by assumption), by omega⟩⟩, fun ov μ' hq => ?_, fun k hk => hk.elim⟩
          obtain ⟨hov, hmu⟩ : ov = some (vI (canF μ c s)) ∧ μ' = μ := hq
          rw [hov, hmu]
          show Run fam0 none cd_X5_locate ER ET 65 0 [some (vR 38 0), some (vI c), some (vI s), some (vI n), some (vI 1), some (vI (bi (1 ≤ n ∧ n ≤ 500)))] [vI (canF μ c s), vR 38 0] μ
          refine run_k 2 ?_
          show ((canF μ c s) < n → Run fam0 none cd_X5_locate ER ET 78 0 [some (vR 38 0), some (vI c), some (vI s), some (vI n), some (vI 1), some (vI (bi (1 ≤ n ∧ n ≤ 500)))] [vR 38 0] μ) ∧ (n ≤ (canF μ c s) → Run fam0 none cd_X5_locate ER ET 69 0 [some (vR 38 0), some (vI c), some (vI s), some (vI n), some (vI 1), some (vI (bi (1 ≤ n ∧ n ≤ 500)))] [vR 38 0] μ)
          refine ⟨fun c23 => ?_, fun c23 => ?_⟩
          · refine run_k 3 ?_
            show ∃ σ : Mm, cl_X5_refused.2.2.1 σ [vR 38 0, vI 3] μ ∧ (∀ ov μ', cl_X5_refused.2.2.2.1 σ [vR 38 0, vI 3] μ ov μ' → Run fam0 none cd_X5_locate ER ET 86 0 [some (vR 38 0), some (vI c), some (vI s), some (vI n), some (vI 1), some (vI (bi (1 ≤ n ∧ n ≤ 500)))] (ov.toList ++ []) μ') ∧ ∀ kx, cl_X5_refused.2.2.2.2 σ [vR 38 0, vI 3] μ kx → thr cd_X5_locate ET (Run fam0 none cd_X5_locate ER ET) 83 0 [some (vR 38 0), some (vI c), some (vI s), some (vI n), some (vI 1), some (vI (bi (1 ≤ n ∧ n ≤ 500)))] μ kx
            refine ⟨μ, ⟨rfl, show True from True.intro⟩, fun ov μ' hq => ?_, fun k hk => hk.elim⟩
            obtain ⟨hov, hmu⟩ : ov = some (vI 1) ∧ μ' = st μ 38 0 0 3 := hq
            rw [hov, hmu]
            show Run fam0 none cd_X5_locate ER ET 86 0 [some (vR 38 0), some (vI c), some (vI s), some (vI n), some (vI 1), some (vI (bi (1 ≤ n ∧ n ≤ 500)))] [vI 1] (st μ 38 0 0 3)
            refine run_k 1 ?_
            show (1 = 0 → Run fam0 none cd_X5_locate ER ET 91 0 [some (vR 38 0), some (vI c), some (vI s), some (vI n), some (vI 1), some (vI (bi (1 ≤ n ∧ n ≤ 500)))] [] (st μ 38 0 0 3)) ∧ (1 ≠ 0 → Run fam0 none cd_X5_locate ER ET 89 0 [some (vR 38 0), some (vI c), some (vI s), some (vI n), some (vI 1), some (vI (bi (1 ≤ n ∧ n ≤ 500)))] [] (st μ 38 0 0 3))
            refine ⟨fun c25 => absurd c25 (by decide), fun c25 => ?_⟩
            refine run_k 2 ?_
            show ER (some (vI 0)) (st μ 38 0 0 3)
            refine hER _ _ ⟨fun h => ?_, fun h => ?_, fun h => ?_, fun h => ?_⟩ <;> first | (exfalso; omega) | exact ⟨congrArg (fun z => some (vI z)) (by omega), rfl⟩ | exact ⟨rfl, rfl⟩
          · refine run_k 4 ?_
            show ((μ 38 0 17) ≠ 60 → Run fam0 none cd_X5_locate ER ET 82 0 [some (vR 38 0), some (vI c), some (vI s), some (vI n), some (vI 1), some (vI (bi (1 ≤ n ∧ n ≤ 500)))] [vR 38 0] μ) ∧ ((μ 38 0 17) = 60 → Run fam0 none cd_X5_locate ER ET 78 0 [some (vR 38 0), some (vI c), some (vI s), some (vI n), some (vI 1), some (vI (bi (1 ≤ n ∧ n ≤ 500)))] [vR 38 0] μ)
            refine ⟨fun c27 => ?_, fun c27 => ?_⟩
            · refine run_k 2 ?_
              show ∃ σ : Mm, cl_X5_refused.2.2.1 σ [vR 38 0, vI 0] μ ∧ (∀ ov μ', cl_X5_refused.2.2.2.1 σ [vR 38 0, vI 0] μ ov μ' → Run fam0 none cd_X5_locate ER ET 86 0 [some (vR 38 0), some (vI c), some (vI s), some (vI n), some (vI 1), some (vI (bi (1 ≤ n ∧ n ≤ 500)))] (ov.toList ++ []) μ') ∧ ∀ kx, cl_X5_refused.2.2.2.2 σ [vR 38 0, vI 0] μ kx → thr cd_X5_locate ET (Run fam0 none cd_X5_locate ER ET) 83 0 [some (vR 38 0), some (vI c), some (vI s), some (vI n), some (vI 1), some (vI (bi (1 ≤ n ∧ n ≤ 500)))] μ kx
              refine ⟨μ, ⟨rfl, show True from True.intro⟩, fun ov μ' hq => ?_, fun k hk => hk.elim⟩
              obtain ⟨hov, hmu⟩ : ov = some (vI 0) ∧ μ' = st μ 38 0 0 0 := hq
              rw [hov, hmu]
              show Run fam0 none cd_X5_locate ER ET 86 0 [some (vR 38 0), some (vI c), some (vI s), some (vI n), some (vI 1), some (vI (bi (1 ≤ n ∧ n ≤ 500)))] [vI 0] (st μ 38 0 0 0)
              refine run_k 1 ?_
              show (0 = 0 → Run fam0 none cd_X5_locate ER ET 91 0 [some (vR 38 0), some (vI c), some (vI s), some (vI n), some (vI 1), some (vI (bi (1 ≤ n ∧ n ≤ 500)))] [] (st μ 38 0 0 0)) ∧ (0 ≠ 0 → Run fam0 none cd_X5_locate ER ET 89 0 [some (vR 38 0), some (vI c), some (vI s), some (vI n), some (vI 1), some (vI (bi (1 ≤ n ∧ n ≤ 500)))] [] (st μ 38 0 0 0))
              refine ⟨fun c29 => ?_, fun c29 => absurd c29 (by decide)⟩
              refine run_k 36 ?_
              show (0 ≤ (μ 38 0 17) ∧ (μ 38 0 17) < 60) ∧ ((0 ≤ (μ 38 0 17) ∧ (μ 38 0 17) < 60) ∧ ((0 ≤ (μ 38 0 17) ∧ (μ 38 0 17) < 60) ∧ ((0 ≤ (μ 38 0 17) ∧ (μ 38 0 17) < 60) ∧ (ER (some (vI (w32 ((w32 ((μ 38 0 17) + 1)) - 1)))) (st (st (st (st (st (st μ 38 0 0 0) 53 0 (μ 38 0 17) c) 54 0 (μ 38 0 17) s) 55 0 (μ 38 0 17) n) 56 0 (μ 38 0 17) (μ 38 0 1)) 38 0 17 (w32 ((μ 38 0 17) + 1)))))))
              rw [show w32 ((μ 38 0 17) + 1) = (μ 38 0 17) + 1 from w32_id (by simp only [in32]; omega)]
              rw [show w32 (((μ 38 0 17) + 1) - 1) = ((μ 38 0 17) + 1) - 1 from w32_id (by simp only [in32]; omega)]
              refine ⟨by omega, ?_⟩
              refine ⟨by omega, ?_⟩
              refine ⟨by omega, ?_⟩
              refine ⟨by omega, ?_⟩
              refine hER _ _ ⟨fun h => ?_, fun h => ?_, fun h => ?_, fun h => ?_⟩ <;> first | (exfalso; omega) | exact ⟨congrArg (fun z => some (vI z)) (by omega), rfl⟩ | exact ⟨rfl, rfl⟩
            · refine run_k 3 ?_
              show ∃ σ : Mm, cl_X5_refused.2.2.1 σ [vR 38 0, vI 3] μ ∧ (∀ ov μ', cl_X5_refused.2.2.2.1 σ [vR 38 0, vI 3] μ ov μ' → Run fam0 none cd_X5_locate ER ET 86 0 [some (vR 38 0), some (vI c), some (vI s), some (vI n), some (vI 1), some (vI (bi (1 ≤ n ∧ n ≤ 500)))] (ov.toList ++ []) μ') ∧ ∀ kx, cl_X5_refused.2.2.2.2 σ [vR 38 0, vI 3] μ kx → thr cd_X5_locate ET (Run fam0 none cd_X5_locate ER ET) 83 0 [some (vR 38 0), some (vI c), some (vI s), some (vI n), some (vI 1), some (vI (bi (1 ≤ n ∧ n ≤ 500)))] μ kx
              refine ⟨μ, ⟨rfl, show True from True.intro⟩, fun ov μ' hq => ?_, fun k hk => hk.elim⟩
              obtain ⟨hov, hmu⟩ : ov = some (vI 1) ∧ μ' = st μ 38 0 0 3 := hq
              rw [hov, hmu]
              show Run fam0 none cd_X5_locate ER ET 86 0 [some (vR 38 0), some (vI c), some (vI s), some (vI n), some (vI 1), some (vI (bi (1 ≤ n ∧ n ≤ 500)))] [vI 1] (st μ 38 0 0 3)
              refine run_k 1 ?_
              show (1 = 0 → Run fam0 none cd_X5_locate ER ET 91 0 [some (vR 38 0), some (vI c), some (vI s), some (vI n), some (vI 1), some (vI (bi (1 ≤ n ∧ n ≤ 500)))] [] (st μ 38 0 0 3)) ∧ (1 ≠ 0 → Run fam0 none cd_X5_locate ER ET 89 0 [some (vR 38 0), some (vI c), some (vI s), some (vI n), some (vI 1), some (vI (bi (1 ≤ n ∧ n ≤ 500)))] [] (st μ 38 0 0 3))
              refine ⟨fun c32 => absurd c32 (by decide), fun c32 => ?_⟩
              refine run_k 2 ?_
              show ER (some (vI 0)) (st μ 38 0 0 3)
              refine hER _ _ ⟨fun h => ?_, fun h => ?_, fun h => ?_, fun h => ?_⟩ <;> first | (exfalso; omega) | exact ⟨congrArg (fun z => some (vI z)) (by omega), rfl⟩ | exact ⟨rfl, rfl⟩
      · replace c17 := (bi_e0.mp c17)
        refine run_k 3 ?_
        show ∃ σ : Mm, cl_X5_refused.2.2.1 σ [vR 38 0, vI 2] μ ∧ (∀ ov μ', cl_X5_refused.2.2.2.1 σ [vR 38 0, vI 2] μ ov μ' → Run fam0 none cd_X5_locate ER ET 86 0 [some (vR 38 0), some (vI c), some (vI s), some (vI n), some (vI 1), some (vI (bi (1 ≤ n ∧ n ≤ 500)))] (ov.toList ++ []) μ') ∧ ∀ kx, cl_X5_refused.2.2.2.2 σ [vR 38 0, vI 2] μ kx → thr cd_X5_locate ET (Run fam0 none cd_X5_locate ER ET) 83 0 [some (vR 38 0), some (vI c), some (vI s), some (vI n), some (vI 1), some (vI (bi (1 ≤ n ∧ n ≤ 500)))] μ kx
        refine ⟨μ, ⟨rfl, show True from True.intro⟩, fun ov μ' hq => ?_, fun k hk => hk.elim⟩
        obtain ⟨hov, hmu⟩ : ov = some (vI 1) ∧ μ' = st μ 38 0 0 2 := hq
        rw [hov, hmu]
        show Run fam0 none cd_X5_locate ER ET 86 0 [some (vR 38 0), some (vI c), some (vI s), some (vI n), some (vI 1), some (vI (bi (1 ≤ n ∧ n ≤ 500)))] [vI 1] (st μ 38 0 0 2)
        refine run_k 1 ?_
        show (1 = 0 → Run fam0 none cd_X5_locate ER ET 91 0 [some (vR 38 0), some (vI c), some (vI s), some (vI n), some (vI 1), some (vI (bi (1 ≤ n ∧ n ≤ 500)))] [] (st μ 38 0 0 2)) ∧ (1 ≠ 0 → Run fam0 none cd_X5_locate ER ET 89 0 [some (vR 38 0), some (vI c), some (vI s), some (vI n), some (vI 1), some (vI (bi (1 ≤ n ∧ n ≤ 500)))] [] (st μ 38 0 0 2))
        refine ⟨fun c35 => absurd c35 (by decide), fun c35 => ?_⟩
        refine run_k 2 ?_
        show ER (some (vI 0)) (st μ 38 0 0 2)
        refine hER _ _ ⟨fun h => ?_, fun h => ?_, fun h => ?_, fun h => ?_⟩ <;> first | (exfalso; omega) | exact ⟨congrArg (fun z => some (vI z)) (by omega), rfl⟩ | exact ⟨rfl, rfl⟩
theorem vw_X5_180 : ∀ w ∈ ([.methodLink RX5 180 yX5_canBorrow, .instanceMethod yX5_canBorrow, .selects RX5 yX5_canBorrow yX5_canBorrow, .initialized RX5, .code yX5_canBorrow cX5_canBorrow 7 (some .int)] : List Cond), w ∈ wm := wm_ps _ [916, 918, 45, 55, 919] (by decide +kernel)
set_option maxRecDepth 20000 in
theorem con_X5_locate (l : Launch) (htr : l.stackTraces = false) (σ : Mm) : CON fam0 63 l yX5_locate (Cond.code yX5_locate cX5_locate 6 (some .int) :: wm) 4 97 0 (cl_X5_locate.2.2.1 σ) (cl_X5_locate.2.2.2.1 σ) (cl_X5_locate.2.2.2.2 σ) :=
  con_of (cd := cd_X5_locate) (own := RX5) (rk := 1) (sc_of htr (by decide) k_X5_locate_ok (by decide +kernel) co_X5_ok fl_X5_ok (all_cons ⟨RX5, yX5_canBorrow, cX5_canBorrow, 7, (some .int), 3, 71, 2, con_X5_canBorrow l htr, rfl, vw_X5_180, ⟨rfl, by decide, by decide, by decide +kernel⟩, ⟨by decide, by decide⟩, fun σ as μ h => ⟨38, 0, _, h.1, rfl, TX5, 31, rfl⟩⟩ (all_cons ⟨RX5, yX5_refused, cX5_refused, 2, (some .boolean), 0, 0, 1, con_X5_refused l htr, rfl, vw_X5_127, ⟨rfl, by decide, by decide, by decide +kernel⟩, ⟨by decide, by decide⟩, fun σ as μ h => ⟨38, 0, _, h.1, rfl, TX5, 31, rfl⟩⟩ all_nil)) (all_cons ⟨yX5_isClient, cX5_isClient, 1, (some .boolean), 1, 22, con_X5_isClient l htr, vw_X5_145, ⟨by decide, by decide, by decide +kernel⟩, ⟨by decide, by decide⟩⟩ (all_cons ⟨yX5_isStock, cX5_isStock, 1, (some .boolean), 1, 22, con_X5_isStock l htr, vw_X5_122, ⟨by decide, by decide, by decide +kernel⟩, ⟨by decide, by decide⟩⟩ (all_cons ⟨yX5_in, cX5_in, 3, (some .boolean), 0, 0, con_X5_in l htr, vw_X5_85, ⟨by decide, by decide, by decide +kernel⟩, ⟨by decide, by decide⟩⟩ all_nil))) all_nil) rfl (by decide +kernel) rfl rfl rfl rfl (fun as μ hs => by rw [hs.1]; exact Nat.le_of_ble_eq_true rfl)
    (fun as μ hs hM hrg => by
      have hs1 := hs.1
      have hmem : ∀ v, v ∈ ([vR 38 0, vI (iaI as 1), vI (iaI as 2), vI (iaI as 3)] : List AV) → rg fam0 v := by rw [← hs1]; exact hrg
      have key := run_X5_locate (ER := cl_X5_locate.2.2.2.1 σ as μ) (ET := fun k μ' => cl_X5_locate.2.2.2.2 σ as μ k ∧ μ' = μ) σ μ (iaI as 1) (iaI as 2) (iaI as 3) hM (hmem (vI (iaI as 1)) (by simp)) (hmem (vI (iaI as 2)) (by simp)) (hmem (vI (iaI as 3)) (by simp)) hs.2 (fun ov μ' h => h)
      have e : entL as 6 = [some (vR 38 0), some (vI (iaI as 1)), some (vI (iaI as 2)), some (vI (iaI as 3)), none, none] := by rw [hs1]; rfl
      rw [e]; exact key)
def shortF (μ : Mm) (k n : Int) : Mm :=
  let b := (borF (st μ 57 0 k 1) (μ 53 0 k) (μ 54 0 k) n (-1)).1
  st (st b 42 0 (4 * μ 53 0 k + μ 54 0 k) (b 42 0 (4 * μ 53 0 k + μ 54 0 k) - n)) 41 0 (μ 53 0 k) (w64 (b 41 0 (μ 53 0 k) + w64 (n * b 39 0 (μ 54 0 k))))
/-! ### PrimeborrowModel.sellShort -/
def cl_X5_sellShort : Cl := (3, 0, fun σ as μ => as = [vR 38 0, vI (iaI as 1), vI (iaI as 2)] ∧ (Wk μ ∧ Xk μ), fun σ as μ ov μ' => ((¬ (0 ≤ (iaI as 1) ∧ (iaI as 1) ≤ μ 38 0 17 - 1)) → ov = some (vL 0) ∧ μ' = st μ 38 0 0 1) ∧ (((0 ≤ (iaI as 1) ∧ (iaI as 1) ≤ μ 38 0 17 - 1) ∧ ¬ (1 ≤ (iaI as 2) ∧ (iaI as 2) ≤ μ 55 0 (iaI as 1))) → ov = some (vL 0) ∧ μ' = st μ 38 0 0 2) ∧ ((((0 ≤ (iaI as 1) ∧ (iaI as 1) ≤ μ 38 0 17 - 1) ∧ (1 ≤ (iaI as 2) ∧ (iaI as 2) ≤ μ 55 0 (iaI as 1))) ∧ ¬ ((((holdsF μ (iaI as 1) = 1 ∧ μ 44 0 (μ 53 0 (iaI as 1)) = 0) ∧ μ 42 0 (4 * μ 53 0 (iaI as 1) + μ 54 0 (iaI as 1)) ≤ 0) ∧ -500 ≤ μ 42 0 (4 * μ 53 0 (iaI as 1) + μ 54 0 (iaI as 1)) - (iaI as 2)) ∧ (iaI as 2) ≤ canF μ (μ 53 0 (iaI as 1)) (μ 54 0 (iaI as 1)))) → ov = some (vL 0) ∧ μ' = st μ 38 0 0 3) ∧ ((((0 ≤ (iaI as 1) ∧ (iaI as 1) ≤ μ 38 0 17 - 1) ∧ (1 ≤ (iaI as 2) ∧ (iaI as 2) ≤ μ 55 0 (iaI as 1))) ∧ ((((holdsF μ (iaI as 1) = 1 ∧ μ 44 0 (μ 53 0 (iaI as 1)) = 0) ∧ μ 42 0 (4 * μ 53 0 (iaI as 1) + μ 54 0 (iaI as 1)) ≤ 0) ∧ -500 ≤ μ 42 0 (4 * μ 53 0 (iaI as 1) + μ 54 0 (iaI as 1)) - (iaI as 2)) ∧ (iaI as 2) ≤ canF μ (μ 53 0 (iaI as 1)) (μ 54 0 (iaI as 1)))) → ov = some (vL (shortF (st μ 38 0 0 0) (iaI as 1) (iaI as 2) 41 0 (μ 53 0 (iaI as 1)))) ∧ μ' = shortF (st μ 38 0 0 0) (iaI as 1) (iaI as 2)), fun σ as μ k => False)
def cd_X5_sellShort : Cd := mkcd k_X5_sellShort co_X5 fl_X5 [(186, cl_X5_holds), (180, cl_X5_canBorrow), (127, cl_X5_refused), (109, cl_X5_borrow)] [(85, cl_X5_in)] [] [] 9 2 0
set_option maxHeartbeats 4000000 in
set_option maxRecDepth 20000 in
theorem run_X5_sellShort {ER : Option AV → Mm → Prop} {ET : Nat → Mm → Prop} (σ μ : Mm) (k n : Int) (hM : MR fam0 μ) (h_k : in32 k) (h_n : in32 n) (hP : Wk μ ∧ Xk μ) (hER : ∀ ov μ', (((¬ (0 ≤ k ∧ k ≤ μ 38 0 17 - 1)) → ov = some (vL 0) ∧ μ' = st μ 38 0 0 1) ∧ (((0 ≤ k ∧ k ≤ μ 38 0 17 - 1) ∧ ¬ (1 ≤ n ∧ n ≤ μ 55 0 k)) → ov = some (vL 0) ∧ μ' = st μ 38 0 0 2) ∧ ((((0 ≤ k ∧ k ≤ μ 38 0 17 - 1) ∧ (1 ≤ n ∧ n ≤ μ 55 0 k)) ∧ ¬ ((((holdsF μ k = 1 ∧ μ 44 0 (μ 53 0 k) = 0) ∧ μ 42 0 (4 * μ 53 0 k + μ 54 0 k) ≤ 0) ∧ -500 ≤ μ 42 0 (4 * μ 53 0 k + μ 54 0 k) - n) ∧ n ≤ canF μ (μ 53 0 k) (μ 54 0 k))) → ov = some (vL 0) ∧ μ' = st μ 38 0 0 3) ∧ ((((0 ≤ k ∧ k ≤ μ 38 0 17 - 1) ∧ (1 ≤ n ∧ n ≤ μ 55 0 k)) ∧ ((((holdsF μ k = 1 ∧ μ 44 0 (μ 53 0 k) = 0) ∧ μ 42 0 (4 * μ 53 0 k + μ 54 0 k) ≤ 0) ∧ -500 ≤ μ 42 0 (4 * μ 53 0 k + μ 54 0 k) - n) ∧ n ≤ canF μ (μ 53 0 k) (μ 54 0 k))) → ov = some (vL (shortF (st μ 38 0 0 0) k n 41 0 (μ 53 0 k))) ∧ μ' = shortF (st μ 38 0 0 0) k n)) → ER ov μ') : Run fam0 none cd_X5_sellShort ER ET 0 0 [some (vR 38 0), some (vI k), some (vI n), none, none, none, none, none, none] [] μ := by
  obtain ⟨hW, hX⟩ := hP
  have hW0 : Wk (st μ 38 0 0 0) := Wk_st hW (by decide)
  have hLk := hW.1
  have hLk0 := hW0.1
  have hPk := hW.2.1
  have hPk0 := hW0.2.1
  have hGk := Gk_of hLk hW.2.2.2.2
  have hGk0 := Gk_of hLk0 hW0.2.2.2.2
  have hday := hX.1
  have hloc := hX.2.1.1
  have hrec := hX.2.2.1.1
  have hl0 := hLk.1
  have hlk := hX.2.1.2 k
  have hp := hPk (4 * μ 53 0 k + μ 54 0 k)
  have hp0 := hPk (4 * 0 + 0)
  have hW1 : Wk (st (st μ 38 0 0 0) 57 0 k 1) := Wk_st hW0 (by omega)
  have hLk1 := hW1.1
  have hPk1 := hW1.2.1
  have hGk1 := Gk_of hLk1 hW1.2.2.2.2
  have hh : holdsF μ k = 1 ↔ (μ 57 0 k = 0 ∧ μ 38 0 1 ≤ μ 56 0 k + 1) := by unfold holdsF bi; split <;> simp [*]
  refine run_k 7 ?_
  show ∃ σ : Mm, cl_X5_in.2.2.1 σ [vI k, vI 0, vI (w32 ((μ 38 0 17) - 1))] μ ∧ (∀ ov μ', cl_X5_in.2.2.2.1 σ [vI k, vI 0, vI (w32 ((μ 38 0 17) - 1))] μ ov μ' → Run fam0 none cd_X5_sellShort ER ET 11 0 [some (vR 38 0), some (vI k), some (vI n), none, none, none, none, none, none] (ov.toList ++ []) μ') ∧ ∀ kx, cl_X5_in.2.2.2.2 σ [vI k, vI 0, vI (w32 ((μ 38 0 17) - 1))] μ kx → thr cd_X5_sellShort ET (Run fam0 none cd_X5_sellShort ER ET) 8 0 [some (vR 38 0), some (vI k), some (vI n), none, none, none, none, none, none] μ kx
  rw [show w32 ((μ 38 0 17) - 1) = (μ 38 0 17) - 1 from w32_id (by simp only [in32]; omega)]
  refine ⟨μ, ⟨rfl, show True from True.intro⟩, fun ov μ' hq => ?_, fun k hk => hk.elim⟩
  obtain ⟨hov, hmu⟩ : ov = some (vI (bi (0 ≤ k ∧ k ≤ ((μ 38 0 17) - 1)))) ∧ μ' = μ := hq
  rw [hov, hmu]
  show Run fam0 none cd_X5_sellShort ER ET 11 0 [some (vR 38 0), some (vI k), some (vI n), none, none, none, none, none, none] [vI (bi (0 ≤ k ∧ k ≤ ((μ 38 0 17) - 1)))] μ
  refine run_k 3 ?_
  show ((bi (0 ≤ k ∧ k ≤ ((μ 38 0 17) - 1))) = 0 → Run fam0 none cd_X5_sellShort ER ET 34 0 [some (vR 38 0), some (vI k), some (vI n), some (vI (bi (0 ≤ k ∧ k ≤ ((μ 38 0 17) - 1)))), none, none, none, none, none] [] μ) ∧ ((bi (0 ≤ k ∧ k ≤ ((μ 38 0 17) - 1))) ≠ 0 → Run fam0 none cd_X5_sellShort ER ET 16 0 [some (vR 38 0), some (vI k), some (vI n), some (vI (bi (0 ≤ k ∧ k ≤ ((μ 38 0 17) - 1)))), none, none, none, none, none] [] μ)
  refine ⟨fun c2 => ?_, fun c2 => ?_⟩
  · replace c2 := (bi_e0.mp c2)
    refine run_k 4 ?_
    show ((bi (0 ≤ k ∧ k ≤ ((μ 38 0 17) - 1))) = 0 → Run fam0 none cd_X5_sellShort ER ET 50 0 [some (vR 38 0), some (vI k), some (vI n), some (vI (bi (0 ≤ k ∧ k ≤ ((μ 38 0 17) - 1)))), some (vI 0), none, none, none, none] [] μ) ∧ ((bi (0 ≤ k ∧ k ≤ ((μ 38 0 17) - 1))) ≠ 0 → Run fam0 none cd_X5_sellShort ER ET 41 0 [some (vR 38 0), some (vI k), some (vI n), some (vI (bi (0 ≤ k ∧ k ≤ ((μ 38 0 17) - 1)))), some (vI 0), none, none, none, none] [] μ)
    refine ⟨fun c3 => ?_, fun c3 => absurd (bi_n0.mp c3) (by omega)⟩
    refine run_k 4 ?_
    show ((bi (0 ≤ k ∧ k ≤ ((μ 38 0 17) - 1))) = 0 → Run fam0 none cd_X5_sellShort ER ET 66 0 [some (vR 38 0), some (vI k), some (vI n), some (vI (bi (0 ≤ k ∧ k ≤ ((μ 38 0 17) - 1)))), some (vI 0), some (vI 0), none, none, none] [] μ) ∧ ((bi (0 ≤ k ∧ k ≤ ((μ 38 0 17) - 1))) ≠ 0 → Run fam0 none cd_X5_sellShort ER ET 57 0 [some (vR 38 0), some (vI k), some (vI n), some (vI (bi (0 ≤ k ∧ k ≤ ((μ 38 0 17) - 1)))), some (vI 0), some (vI 0), none, none, none] [] μ)
    refine ⟨fun c4 => ?_, fun c4 => absurd (bi_n0.mp c4) (by omega)⟩
    refine run_k 13 ?_
    show (0 ≤ (w32 ((w32 (4 * 0)) + 0)) ∧ (w32 ((w32 (4 * 0)) + 0)) < 24) ∧ ((0 = 0 → Run fam0 none cd_X5_sellShort ER ET 137 0 [some (vR 38 0), some (vI k), some (vI n), some (vI (bi (0 ≤ k ∧ k ≤ ((μ 38 0 17) - 1)))), some (vI 0), some (vI 0), some (vI 0), some (vI (μ 42 0 (w32 ((w32 (4 * 0)) + 0)))), none] [] μ) ∧ (0 ≠ 0 → Run fam0 none cd_X5_sellShort ER ET 88 0 [some (vR 38 0), some (vI k), some (vI n), some (vI (bi (0 ≤ k ∧ k ≤ ((μ 38 0 17) - 1)))), some (vI 0), some (vI 0), some (vI 0), some (vI (μ 42 0 (w32 ((w32 (4 * 0)) + 0)))), none] [] μ))
    rw [show w32 (4 * 0) = 4 * 0 from w32_id (by simp only [in32]; omega)]
    rw [show w32 ((4 * 0) + 0) = (4 * 0) + 0 from w32_id (by simp only [in32]; omega)]
    refine ⟨by omega, ?_⟩
    refine ⟨fun c5 => ?_, fun c5 => absurd c5 (by decide)⟩
    refine run_k 5 ?_
    show ((bi (0 ≤ k ∧ k ≤ ((μ 38 0 17) - 1))) ≠ 0 → Run fam0 none cd_X5_sellShort ER ET 149 0 [some (vR 38 0), some (vI k), some (vI n), some (vI (bi (0 ≤ k ∧ k ≤ ((μ 38 0 17) - 1)))), some (vI 0), some (vI 0), some (vI 0), some (vI (μ 42 0 ((4 * 0) + 0))), some (vI 0)] [vR 38 0] μ) ∧ ((bi (0 ≤ k ∧ k ≤ ((μ 38 0 17) - 1))) = 0 → Run fam0 none cd_X5_sellShort ER ET 145 0 [some (vR 38 0), some (vI k), some (vI n), some (vI (bi (0 ≤ k ∧ k ≤ ((μ 38 0 17) - 1)))), some (vI 0), some (vI 0), some (vI 0), some (vI (μ 42 0 ((4 * 0) + 0))), some (vI 0)] [vR 38 0] μ)
    refine ⟨fun c6 => absurd (bi_n0.mp c6) (by omega), fun c6 => ?_⟩
    refine run_k 3 ?_
    show ∃ σ : Mm, cl_X5_refused.2.2.1 σ [vR 38 0, vI 1] μ ∧ (∀ ov μ', cl_X5_refused.2.2.2.1 σ [vR 38 0, vI 1] μ ov μ' → Run fam0 none cd_X5_sellShort ER ET 171 0 [some (vR 38 0), some (vI k), some (vI n), some (vI (bi (0 ≤ k ∧ k ≤ ((μ 38 0 17) - 1)))), some (vI 0), some (vI 0), some (vI 0), some (vI (μ 42 0 ((4 * 0) + 0))), some (vI 0)] (ov.toList ++ []) μ') ∧ ∀ kx, cl_X5_refused.2.2.2.2 σ [vR 38 0, vI 1] μ kx → thr cd_X5_sellShort ET (Run fam0 none cd_X5_sellShort ER ET) 168 0 [some (vR 38 0), some (vI k), some (vI n), some (vI (bi (0 ≤ k ∧ k ≤ ((μ 38 0 17) - 1)))), some (vI 0), some (vI 0), some (vI 0), some (vI (μ 42 0 ((4 * 0) + 0))), some (vI 0)] μ kx
    refine ⟨μ, ⟨rfl, show True from True.intro⟩, fun ov μ' hq => ?_, fun k hk => hk.elim⟩
    obtain ⟨hov, hmu⟩ : ov = some (vI 1) ∧ μ' = st μ 38 0 0 1 := hq
    rw [hov, hmu]
    show Run fam0 none cd_X5_sellShort ER ET 171 0 [some (vR 38 0), some (vI k), some (vI n), some (vI (bi (0 ≤ k ∧ k ≤ ((μ 38 0 17) - 1)))), some (vI 0), some (vI 0), some (vI 0), some (vI (μ 42 0 ((4 * 0) + 0))), some (vI 0)] [vI 1] (st μ 38 0 0 1)
    refine run_k 1 ?_
    show (1 = 0 → Run fam0 none cd_X5_sellShort ER ET 176 0 [some (vR 38 0), some (vI k), some (vI n), some (vI (bi (0 ≤ k ∧ k ≤ ((μ 38 0 17) - 1)))), some (vI 0), some (vI 0), some (vI 0), some (vI (μ 42 0 ((4 * 0) + 0))), some (vI 0)] [] (st μ 38 0 0 1)) ∧ (1 ≠ 0 → Run fam0 none cd_X5_sellShort ER ET 174 0 [some (vR 38 0), some (vI k), some (vI n), some (vI (bi (0 ≤ k ∧ k ≤ ((μ 38 0 17) - 1)))), some (vI 0), some (vI 0), some (vI 0), some (vI (μ 42 0 ((4 * 0) + 0))), some (vI 0)] [] (st μ 38 0 0 1))
    refine ⟨fun c8 => absurd c8 (by decide), fun c8 => ?_⟩
    refine run_k 2 ?_
    show ER (some (vL 0)) (st μ 38 0 0 1)
    refine hER _ _ ⟨fun h => ?_, fun h => ?_, fun h => ?_, fun h => ?_⟩ <;> first | (exfalso; omega) | exact ⟨rfl, rfl⟩
  · replace c2 := (bi_n0.mp c2)
    refine run_k 7 ?_
    show (0 ≤ k ∧ k < 60) ∧ (∃ σ : Mm, cl_X5_in.2.2.1 σ [vI n, vI 1, vI (μ 55 0 k)] μ ∧ (∀ ov μ', cl_X5_in.2.2.2.1 σ [vI n, vI 1, vI (μ 55 0 k)] μ ov μ' → Run fam0 none cd_X5_sellShort ER ET 27 0 [some (vR 38 0), some (vI k), some (vI n), some (vI (bi (0 ≤ k ∧ k ≤ ((μ 38 0 17) - 1)))), none, none, none, none, none] (ov.toList ++ []) μ') ∧ ∀ kx, cl_X5_in.2.2.2.2 σ [vI n, vI 1, vI (μ 55 0 k)] μ kx → thr cd_X5_sellShort ET (Run fam0 none cd_X5_sellShort ER ET) 24 0 [some (vR 38 0), some (vI k), some (vI n), some (vI (bi (0 ≤ k ∧ k ≤ ((μ 38 0 17) - 1)))), none, none, none, none, none] μ kx)
    refine ⟨by omega, ?_⟩
    refine ⟨μ, ⟨rfl, show True from True.intro⟩, fun ov μ' hq => ?_, fun k hk => hk.elim⟩
    obtain ⟨hov, hmu⟩ : ov = some (vI (bi (1 ≤ n ∧ n ≤ (μ 55 0 k)))) ∧ μ' = μ := hq
    rw [hov, hmu]
    show Run fam0 none cd_X5_sellShort ER ET 27 0 [some (vR 38 0), some (vI k), some (vI n), some (vI (bi (0 ≤ k ∧ k ≤ ((μ 38 0 17) - 1)))), none, none, none, none, none] [vI (bi (1 ≤ n ∧ n ≤ (μ 55 0 k)))] μ
    refine run_k 1 ?_
    show ((bi (1 ≤ n ∧ n ≤ (μ 55 0 k))) = 0 → Run fam0 none cd_X5_sellShort ER ET 34 0 [some (vR 38 0), some (vI k), some (vI n), some (vI (bi (0 ≤ k ∧ k ≤ ((μ 38 0 17) - 1)))), none, none, none, none, none] [] μ) ∧ ((bi (1 ≤ n ∧ n ≤ (μ 55 0 k))) ≠ 0 → Run fam0 none cd_X5_sellShort ER ET 30 0 [some (vR 38 0), some (vI k), some (vI n), some (vI (bi (0 ≤ k ∧ k ≤ ((μ 38 0 17) - 1)))), none, none, none, none, none] [] μ)
    refine ⟨fun c11 => ?_, fun c11 => ?_⟩
    · replace c11 := (bi_e0.mp c11)
      refine run_k 4 ?_
      show ((bi (0 ≤ k ∧ k ≤ ((μ 38 0 17) - 1))) = 0 → Run fam0 none cd_X5_sellShort ER ET 50 0 [some (vR 38 0), some (vI k), some (vI n), some (vI (bi (0 ≤ k ∧ k ≤ ((μ 38 0 17) - 1)))), some (vI 0), none, none, none, none] [] μ) ∧ ((bi (0 ≤ k ∧ k ≤ ((μ 38 0 17) - 1))) ≠ 0 → Run fam0 none cd_X5_sellShort ER ET 41 0 [some (vR 38 0), some (vI k), some (vI n), some (vI (bi (0 ≤ k ∧ k ≤ ((μ 38 0 17) - 1)))), some (vI 0), none, none, none, none] [] μ)
      refine ⟨fun c12 => absurd (bi_e0.mp c12) (by omega), fun c12 => ?_⟩
      refine run_k 8 ?_
      show (0 ≤ k ∧ k < 60) ∧ (((bi (0 ≤ k ∧ k ≤ ((μ 38 0 17) - 1))) = 0 → Run fam0 none cd_X5_sellShort ER ET 66 0 [some (vR 38 0), some (vI k), some (vI n), some (vI (bi (0 ≤ k ∧ k ≤ ((μ 38 0 17) - 1)))), some (vI 0), some (vI (μ 53 0 k)), none, none, none] [] μ) ∧ ((bi (0 ≤ k ∧ k ≤ ((μ 38 0 17) - 1))) ≠ 0 → Run fam0 none cd_X5_sellShort ER ET 57 0 [some (vR 38 0), some (vI k), some (vI n), some (vI (bi (0 ≤ k ∧ k ≤ ((μ 38 0 17) - 1)))), some (vI 0), some (vI (μ 53 0 k)), none, none, none] [] μ))
      refine ⟨by omega, ?_⟩
      refine ⟨fun c13 => absurd (bi_e0.mp c13) (by omega), fun c13 => ?_⟩
      refine run_k 17 ?_
      show (0 ≤ k ∧ k < 60) ∧ ((0 ≤ (w32 ((w32 (4 * (μ 53 0 k))) + (μ 54 0 k))) ∧ (w32 ((w32 (4 * (μ 53 0 k))) + (μ 54 0 k))) < 24) ∧ ((0 = 0 → Run fam0 none cd_X5_sellShort ER ET 137 0 [some (vR 38 0), some (vI k), some (vI n), some (vI (bi (0 ≤ k ∧ k ≤ ((μ 38 0 17) - 1)))), some (vI 0), some (vI (μ 53 0 k)), some (vI (μ 54 0 k)), some (vI (μ 42 0 (w32 ((w32 (4 * (μ 53 0 k))) + (μ 54 0 k))))), none] [] μ) ∧ (0 ≠ 0 → Run fam0 none cd_X5_sellShort ER ET 88 0 [some (vR 38 0), some (vI k), some (vI n), some (vI (bi (0 ≤ k ∧ k ≤ ((μ 38 0 17) - 1)))), some (vI 0), some (vI (μ 53 0 k)), some (vI (μ 54 0 k)), some (vI (μ 42 0 (w32 ((w32 (4 * (μ 53 0 k))) + (μ 54 0 k))))), none] [] μ)))
      rw [show w32 (4 * (μ 53 0 k)) = 4 * (μ 53 0 k) from w32_id (by simp only [in32]; omega)]
      rw [show w32 ((4 * (μ 53 0 k)) + (μ 54 0 k)) = (4 * (μ 53 0 k)) + (μ 54 0 k) from w32_id (by simp only [in32]; omega)]
      refine ⟨by omega, ?_⟩
      refine ⟨by omega, ?_⟩
      refine ⟨fun c14 => ?_, fun c14 => absurd c14 (by decide)⟩
      refine run_k 5 ?_
      show ((bi (0 ≤ k ∧ k ≤ ((μ 38 0 17) - 1))) ≠ 0 → Run fam0 none cd_X5_sellShort ER ET 149 0 [some (vR 38 0), some (vI k), some (vI n), some (vI (bi (0 ≤ k ∧ k ≤ ((μ 38 0 17) - 1)))), some (vI 0), some (vI (μ 53 0 k)), some (vI (μ 54 0 k)), some (vI (μ 42 0 ((4 * (μ 53 0 k)) + (μ 54 0 k)))), some (vI 0)] [vR 38 0] μ) ∧ ((bi (0 ≤ k ∧ k ≤ ((μ 38 0 17) - 1))) = 0 → Run fam0 none cd_X5_sellShort ER ET 145 0 [some (vR 38 0), some (vI k), some (vI n), some (vI (bi (0 ≤ k ∧ k ≤ ((μ 38 0 17) - 1)))), some (vI 0), some (vI (μ 53 0 k)), some (vI (μ 54 0 k)), some (vI (μ 42 0 ((4 * (μ 53 0 k)) + (μ 54 0 k)))), some (vI 0)] [vR 38 0] μ)
      refine ⟨fun c15 => ?_, fun c15 => absurd (bi_e0.mp c15) (by omega)⟩
      refine run_k 2 ?_
      show (0 ≠ 0 → Run fam0 none cd_X5_sellShort ER ET 158 0 [some (vR 38 0), some (vI k), some (vI n), some (vI (bi (0 ≤ k ∧ k ≤ ((μ 38 0 17) - 1)))), some (vI 0), some (vI (μ 53 0 k)), some (vI (μ 54 0 k)), some (vI (μ 42 0 ((4 * (μ 53 0 k)) + (μ 54 0 k)))), some (vI 0)] [vR 38 0] μ) ∧ (0 = 0 → Run fam0 none cd_X5_sellShort ER ET 154 0 [some (vR 38 0), some (vI k), some (vI n), some (vI (bi (0 ≤ k ∧ k ≤ ((μ 38 0 17) - 1)))), some (vI 0), some (vI (μ 53 0 k)), some (vI (μ 54 0 k)), some (vI (μ 42 0 ((4 * (μ 53 0 k)) + (μ 54 0 k)))), some (vI 0)] [vR 38 0] μ)
      refine ⟨fun c16 => absurd c16 (by decide), fun c16 => ?_⟩
      refine run_k 3 ?_
      show ∃ σ : Mm, cl_X5_refused.2.2.1 σ [vR 38 0, vI 2] μ ∧ (∀ ov μ', cl_X5_refused.2.2.2.1 σ [vR 38 0, vI 2] μ ov μ' → Run fam0 none cd_X5_sellShort ER ET 171 0 [some (vR 38 0), some (vI k), some (vI n), some (vI (bi (0 ≤ k ∧ k ≤ ((μ 38 0 17) - 1)))), some (vI 0), some (vI (μ 53 0 k)), some (vI (μ 54 0 k)), some (vI (μ 42 0 ((4 * (μ 53 0 k)) + (μ 54 0 k)))), some (vI 0)] (ov.toList ++ []) μ') ∧ ∀ kx, cl_X5_refused.2.2.2.2 σ [vR 38 0, vI 2] μ kx → thr cd_X5_sellShort ET (Run fam0 none cd_X5_sellShort ER ET) 168 0 [some (vR 38 0), some (vI k), some (vI n), some (vI (bi (0 ≤ k ∧ k ≤ ((μ 38 0 17) - 1)))), some (vI 0), some (vI (μ 53 0 k)), some (vI (μ 54 0 k)), some (vI (μ 42 0 ((4 * (μ 53 0 k)) + (μ 54 0 k)))), some (vI 0)] μ kx
      refine ⟨μ, ⟨rfl, show True from True.intro⟩, fun ov μ' hq => ?_, fun k hk => hk.elim⟩
      obtain ⟨hov, hmu⟩ : ov = some (vI 1) ∧ μ' = st μ 38 0 0 2 := hq
      rw [hov, hmu]
      show Run fam0 none cd_X5_sellShort ER ET 171 0 [some (vR 38 0), some (vI k), some (vI n), some (vI (bi (0 ≤ k ∧ k ≤ ((μ 38 0 17) - 1)))), some (vI 0), some (vI (μ 53 0 k)), some (vI (μ 54 0 k)), some (vI (μ 42 0 ((4 * (μ 53 0 k)) + (μ 54 0 k)))), some (vI 0)] [vI 1] (st μ 38 0 0 2)
      refine run_k 1 ?_
      show (1 = 0 → Run fam0 none cd_X5_sellShort ER ET 176 0 [some (vR 38 0), some (vI k), some (vI n), some (vI (bi (0 ≤ k ∧ k ≤ ((μ 38 0 17) - 1)))), some (vI 0), some (vI (μ 53 0 k)), some (vI (μ 54 0 k)), some (vI (μ 42 0 ((4 * (μ 53 0 k)) + (μ 54 0 k)))), some (vI 0)] [] (st μ 38 0 0 2)) ∧ (1 ≠ 0 → Run fam0 none cd_X5_sellShort ER ET 174 0 [some (vR 38 0), some (vI k), some (vI n), some (vI (bi (0 ≤ k ∧ k ≤ ((μ 38 0 17) - 1)))), some (vI 0), some (vI (μ 53 0 k)), some (vI (μ 54 0 k)), some (vI (μ 42 0 ((4 * (μ 53 0 k)) + (μ 54 0 k)))), some (vI 0)] [] (st μ 38 0 0 2))
      refine ⟨fun c18 => absurd c18 (by decide), fun c18 => ?_⟩
      refine run_k 2 ?_
      show ER (some (vL 0)) (st μ 38 0 0 2)
      refine hER _ _ ⟨fun h => ?_, fun h => ?_, fun h => ?_, fun h => ?_⟩ <;> first | (exfalso; omega) | exact ⟨rfl, rfl⟩
    · replace c11 := (bi_n0.mp c11)
      refine run_k 5 ?_
      show ((bi (0 ≤ k ∧ k ≤ ((μ 38 0 17) - 1))) = 0 → Run fam0 none cd_X5_sellShort ER ET 50 0 [some (vR 38 0), some (vI k), some (vI n), some (vI (bi (0 ≤ k ∧ k ≤ ((μ 38 0 17) - 1)))), some (vI 1), none, none, none, none] [] μ) ∧ ((bi (0 ≤ k ∧ k ≤ ((μ 38 0 17) - 1))) ≠ 0 → Run fam0 none cd_X5_sellShort ER ET 41 0 [some (vR 38 0), some (vI k), some (vI n), some (vI (bi (0 ≤ k ∧ k ≤ ((μ 38 0 17) - 1)))), some (vI 1), none, none, none, none] [] μ)
      refine ⟨fun c20 => absurd (bi_e0.mp c20) (by omega), fun c20 => ?_⟩
      refine run_k 8 ?_
      show (0 ≤ k ∧ k < 60) ∧ (((bi (0 ≤ k ∧ k ≤ ((μ 38 0 17) - 1))) = 0 → Run fam0 none cd_X5_sellShort ER ET 66 0 [some (vR 38 0), some (vI k), some (vI n), some (vI (bi (0 ≤ k ∧ k ≤ ((μ 38 0 17) - 1)))), some (vI 1), some (vI (μ 53 0 k)), none, none, none] [] μ) ∧ ((bi (0 ≤ k ∧ k ≤ ((μ 38 0 17) - 1))) ≠ 0 → Run fam0 none cd_X5_sellShort ER ET 57 0 [some (vR 38 0), some (vI k), some (vI n), some (vI (bi (0 ≤ k ∧ k ≤ ((μ 38 0 17) - 1)))), some (vI 1), some (vI (μ 53 0 k)), none, none, none] [] μ))
      refine ⟨by omega, ?_⟩
      refine ⟨fun c21 => absurd (bi_e0.mp c21) (by omega), fun c21 => ?_⟩
      refine run_k 17 ?_
      show (0 ≤ k ∧ k < 60) ∧ ((0 ≤ (w32 ((w32 (4 * (μ 53 0 k))) + (μ 54 0 k))) ∧ (w32 ((w32 (4 * (μ 53 0 k))) + (μ 54 0 k))) < 24) ∧ ((1 = 0 → Run fam0 none cd_X5_sellShort ER ET 137 0 [some (vR 38 0), some (vI k), some (vI n), some (vI (bi (0 ≤ k ∧ k ≤ ((μ 38 0 17) - 1)))), some (vI 1), some (vI (μ 53 0 k)), some (vI (μ 54 0 k)), some (vI (μ 42 0 (w32 ((w32 (4 * (μ 53 0 k))) + (μ 54 0 k))))), none] [] μ) ∧ (1 ≠ 0 → Run fam0 none cd_X5_sellShort ER ET 88 0 [some (vR 38 0), some (vI k), some (vI n), some (vI (bi (0 ≤ k ∧ k ≤ ((μ 38 0 17) - 1)))), some (vI 1), some (vI (μ 53 0 k)), some (vI (μ 54 0 k)), some (vI (μ 42 0 (w32 ((w32 (4 * (μ 53 0 k))) + (μ 54 0 k))))), none] [] μ)))
      rw [show w32 (4 * (μ 53 0 k)) = 4 * (μ 53 0 k) from w32_id (by simp only [in32]; omega)]
      rw [show w32 ((4 * (μ 53 0 k)) + (μ 54 0 k)) = (4 * (μ 53 0 k)) + (μ 54 0 k) from w32_id (by simp only [in32]; omega)]
      refine ⟨by omega, ?_⟩
      refine ⟨by omega, ?_⟩
      refine ⟨fun c22 => absurd c22 (by decide), fun c22 => ?_⟩
      refine run_k 3 ?_
      show ∃ σ : Mm, cl_X5_holds.2.2.1 σ [vR 38 0, vI k] μ ∧ (∀ ov μ', cl_X5_holds.2.2.2.1 σ [vR 38 0, vI k] μ ov μ' → Run fam0 none cd_X5_sellShort ER ET 93 0 [some (vR 38 0), some (vI k), some (vI n), some (vI (bi (0 ≤ k ∧ k ≤ ((μ 38 0 17) - 1)))), some (vI 1), some (vI (μ 53 0 k)), some (vI (μ 54 0 k)), some (vI (μ 42 0 ((4 * (μ 53 0 k)) + (μ 54 0 k)))), none] (ov.toList ++ []) μ') ∧ ∀ kx, cl_X5_holds.2.2.2.2 σ [vR 38 0, vI k] μ kx → thr cd_X5_sellShort ET (Run fam0 none cd_X5_sellShort ER ET) 90 0 [some (vR 38 0), some (vI k), some (vI n), some (vI (bi (0 ≤ k ∧ k ≤ ((μ 38 0 17) - 1)))), some (vI 1), some (vI (μ 53 0 k)), some (vI (μ 54 0 k)), some (vI (μ 42 0 ((4 * (μ 53 0 k)) + (μ 54 0 k)))), none] μ kx
      refine ⟨μ, ⟨rfl, show (0 ≤ k ∧ k ≤ 59) ∧ (0 ≤ μ 56 0 k ∧ μ 56 0 k ≤ 500) from ⟨by omega, by show 0 ≤ μ 56 0 k ∧ μ 56 0 k ≤ 500; omega⟩⟩, fun ov μ' hq => ?_, fun k hk => hk.elim⟩
      obtain ⟨hov, hmu⟩ : ov = some (vI (bi (μ 57 0 k = 0 ∧ μ 38 0 1 ≤ μ 56 0 k + 1))) ∧ μ' = μ := hq
      rw [hov, hmu]
      show Run fam0 none cd_X5_sellShort ER ET 93 0 [some (vR 38 0), some (vI k), some (vI n), some (vI (bi (0 ≤ k ∧ k ≤ ((μ 38 0 17) - 1)))), some (vI 1), some (vI (μ 53 0 k)), some (vI (μ 54 0 k)), some (vI (μ 42 0 ((4 * (μ 53 0 k)) + (μ 54 0 k)))), none] [vI (bi (μ 57 0 k = 0 ∧ μ 38 0 1 ≤ μ 56 0 k + 1))] μ
      refine run_k 1 ?_
      show ((bi (μ 57 0 k = 0 ∧ μ 38 0 1 ≤ μ 56 0 k + 1)) = 0 → Run fam0 none cd_X5_sellShort ER ET 137 0 [some (vR 38 0), some (vI k), some (vI n), some (vI (bi (0 ≤ k ∧ k ≤ ((μ 38 0 17) - 1)))), some (vI 1), some (vI (μ 53 0 k)), some (vI (μ 54 0 k)), some (vI (μ 42 0 ((4 * (μ 53 0 k)) + (μ 54 0 k)))), none] [] μ) ∧ ((bi (μ 57 0 k = 0 ∧ μ 38 0 1 ≤ μ 56 0 k + 1)) ≠ 0 → Run fam0 none cd_X5_sellShort ER ET 96 0 [some (vR 38 0), some (vI k), some (vI n), some (vI (bi (0 ≤ k ∧ k ≤ ((μ 38 0 17) - 1)))), some (vI 1), some (vI (μ 53 0 k)), some (vI (μ 54 0 k)), some (vI (μ 42 0 ((4 * (μ 53 0 k)) + (μ 54 0 k)))), none] [] μ)
      refine ⟨fun c24 => ?_, fun c24 => ?_⟩
      · replace c24 := (bi_e0.mp c24)
        refine run_k 5 ?_
        show ((bi (0 ≤ k ∧ k ≤ ((μ 38 0 17) - 1))) ≠ 0 → Run fam0 none cd_X5_sellShort ER ET 149 0 [some (vR 38 0), some (vI k), some (vI n), some (vI (bi (0 ≤ k ∧ k ≤ ((μ 38 0 17) - 1)))), some (vI 1), some (vI (μ 53 0 k)), some (vI (μ 54 0 k)), some (vI (μ 42 0 ((4 * (μ 53 0 k)) + (μ 54 0 k)))), some (vI 0)] [vR 38 0] μ) ∧ ((bi (0 ≤ k ∧ k ≤ ((μ 38 0 17) - 1))) = 0 → Run fam0 none cd_X5_sellShort ER ET 145 0 [some (vR 38 0), some (vI k), some (vI n), some (vI (bi (0 ≤ k ∧ k ≤ ((μ 38 0 17) - 1)))), some (vI 1), some (vI (μ 53 0 k)), some (vI (μ 54 0 k)), some (vI (μ 42 0 ((4 * (μ 53 0 k)) + (μ 54 0 k)))), some (vI 0)] [vR 38 0] μ)
        refine ⟨fun c25 => ?_, fun c25 => absurd (bi_e0.mp c25) (by omega)⟩
        refine run_k 2 ?_
        show (1 ≠ 0 → Run fam0 none cd_X5_sellShort ER ET 158 0 [some (vR 38 0), some (vI k), some (vI n), some (vI (bi (0 ≤ k ∧ k ≤ ((μ 38 0 17) - 1)))), some (vI 1), some (vI (μ 53 0 k)), some (vI (μ 54 0 k)), some (vI (μ 42 0 ((4 * (μ 53 0 k)) + (μ 54 0 k)))), some (vI 0)] [vR 38 0] μ) ∧ (1 = 0 → Run fam0 none cd_X5_sellShort ER ET 154 0 [some (vR 38 0), some (vI k), some (vI n), some (vI (bi (0 ≤ k ∧ k ≤ ((μ 38 0 17) - 1)))), some (vI 1), some (vI (μ 53 0 k)), some (vI (μ 54 0 k)), some (vI (μ 42 0 ((4 * (μ 53 0 k)) + (μ 54 0 k)))), some (vI 0)] [vR 38 0] μ)
        refine ⟨fun c26 => ?_, fun c26 => absurd c26 (by decide)⟩
        refine run_k 2 ?_
        show (0 = 0 → Run fam0 none cd_X5_sellShort ER ET 167 0 [some (vR 38 0), some (vI k), some (vI n), some (vI (bi (0 ≤ k ∧ k ≤ ((μ 38 0 17) - 1)))), some (vI 1), some (vI (μ 53 0 k)), some (vI (μ 54 0 k)), some (vI (μ 42 0 ((4 * (μ 53 0 k)) + (μ 54 0 k)))), some (vI 0)] [vR 38 0] μ) ∧ (0 ≠ 0 → Run fam0 none cd_X5_sellShort ER ET 163 0 [some (vR 38 0), some (vI k), some (vI n), some (vI (bi (0 ≤ k ∧ k ≤ ((μ 38 0 17) - 1)))), some (vI 1), some (vI (μ 53 0 k)), some (vI (μ 54 0 k)), some (vI (μ 42 0 ((4 * (μ 53 0 k)) + (μ 54 0 k)))), some (vI 0)] [vR 38 0] μ)
        refine ⟨fun c27 => ?_, fun c27 => absurd c27 (by decide)⟩
        refine run_k 2 ?_
        show ∃ σ : Mm, cl_X5_refused.2.2.1 σ [vR 38 0, vI 3] μ ∧ (∀ ov μ', cl_X5_refused.2.2.2.1 σ [vR 38 0, vI 3] μ ov μ' → Run fam0 none cd_X5_sellShort ER ET 171 0 [some (vR 38 0), some (vI k), some (vI n), some (vI (bi (0 ≤ k ∧ k ≤ ((μ 38 0 17) - 1)))), some (vI 1), some (vI (μ 53 0 k)), some (vI (μ 54 0 k)), some (vI (μ 42 0 ((4 * (μ 53 0 k)) + (μ 54 0 k)))), some (vI 0)] (ov.toList ++ []) μ') ∧ ∀ kx, cl_X5_refused.2.2.2.2 σ [vR 38 0, vI 3] μ kx → thr cd_X5_sellShort ET (Run fam0 none cd_X5_sellShort ER ET) 168 0 [some (vR 38 0), some (vI k), some (vI n), some (vI (bi (0 ≤ k ∧ k ≤ ((μ 38 0 17) - 1)))), some (vI 1), some (vI (μ 53 0 k)), some (vI (μ 54 0 k)), some (vI (μ 42 0 ((4 * (μ 53 0 k)) + (μ 54 0 k)))), some (vI 0)] μ kx
        refine ⟨μ, ⟨rfl, show True from True.intro⟩, fun ov μ' hq => ?_, fun k hk => hk.elim⟩
        obtain ⟨hov, hmu⟩ : ov = some (vI 1) ∧ μ' = st μ 38 0 0 3 := hq
        rw [hov, hmu]
        show Run fam0 none cd_X5_sellShort ER ET 171 0 [some (vR 38 0), some (vI k), some (vI n), some (vI (bi (0 ≤ k ∧ k ≤ ((μ 38 0 17) - 1)))), some (vI 1), some (vI (μ 53 0 k)), some (vI (μ 54 0 k)), some (vI (μ 42 0 ((4 * (μ 53 0 k)) + (μ 54 0 k)))), some (vI 0)] [vI 1] (st μ 38 0 0 3)
        refine run_k 1 ?_
        show (1 = 0 → Run fam0 none cd_X5_sellShort ER ET 176 0 [some (vR 38 0), some (vI k), some (vI n), some (vI (bi (0 ≤ k ∧ k ≤ ((μ 38 0 17) - 1)))), some (vI 1), some (vI (μ 53 0 k)), some (vI (μ 54 0 k)), some (vI (μ 42 0 ((4 * (μ 53 0 k)) + (μ 54 0 k)))), some (vI 0)] [] (st μ 38 0 0 3)) ∧ (1 ≠ 0 → Run fam0 none cd_X5_sellShort ER ET 174 0 [some (vR 38 0), some (vI k), some (vI n), some (vI (bi (0 ≤ k ∧ k ≤ ((μ 38 0 17) - 1)))), some (vI 1), some (vI (μ 53 0 k)), some (vI (μ 54 0 k)), some (vI (μ 42 0 ((4 * (μ 53 0 k)) + (μ 54 0 k)))), some (vI 0)] [] (st μ 38 0 0 3))
        refine ⟨fun c29 => absurd c29 (by decide), fun c29 => ?_⟩
        refine run_k 2 ?_
        show ER (some (vL 0)) (st μ 38 0 0 3)
        refine hER _ _ ⟨fun h => ?_, fun h => ?_, fun h => ?_, fun h => ?_⟩ <;> first | (exfalso; omega) | exact ⟨rfl, rfl⟩
      · replace c24 := (bi_n0.mp c24)
        refine run_k 5 ?_
        show (0 ≤ (μ 53 0 k) ∧ (μ 53 0 k) < 6) ∧ (((μ 44 0 (μ 53 0 k)) ≠ 0 → Run fam0 none cd_X5_sellShort ER ET 137 0 [some (vR 38 0), some (vI k), some (vI n), some (vI (bi (0 ≤ k ∧ k ≤ ((μ 38 0 17) - 1)))), some (vI 1), some (vI (μ 53 0 k)), some (vI (μ 54 0 k)), some (vI (μ 42 0 ((4 * (μ 53 0 k)) + (μ 54 0 k)))), none] [] μ) ∧ ((μ 44 0 (μ 53 0 k)) = 0 → Run fam0 none cd_X5_sellShort ER ET 106 0 [some (vR 38 0), some (vI k), some (vI n), some (vI (bi (0 ≤ k ∧ k ≤ ((μ 38 0 17) - 1)))), some (vI 1), some (vI (μ 53 0 k)), some (vI (μ 54 0 k)), some (vI (μ 42 0 ((4 * (μ 53 0 k)) + (μ 54 0 k)))), none] [] μ))
        refine ⟨by omega, ?_⟩
        refine ⟨fun c31 => ?_, fun c31 => ?_⟩
        · refine run_k 5 ?_
          show ((bi (0 ≤ k ∧ k ≤ ((μ 38 0 17) - 1))) ≠ 0 → Run fam0 none cd_X5_sellShort ER ET 149 0 [some (vR 38 0), some (vI k), some (vI n), some (vI (bi (0 ≤ k ∧ k ≤ ((μ 38 0 17) - 1)))), some (vI 1), some (vI (μ 53 0 k)), some (vI (μ 54 0 k)), some (vI (μ 42 0 ((4 * (μ 53 0 k)) + (μ 54 0 k)))), some (vI 0)] [vR 38 0] μ) ∧ ((bi (0 ≤ k ∧ k ≤ ((μ 38 0 17) - 1))) = 0 → Run fam0 none cd_X5_sellShort ER ET 145 0 [some (vR 38 0), some (vI k), some (vI n), some (vI (bi (0 ≤ k ∧ k ≤ ((μ 38 0 17) - 1)))), some (vI 1), some (vI (μ 53 0 k)), some (vI (μ 54 0 k)), some (vI (μ 42 0 ((4 * (μ 53 0 k)) + (μ 54 0 k)))), some (vI 0)] [vR 38 0] μ)
          refine ⟨fun c32 => ?_, fun c32 => absurd (bi_e0.mp c32) (by omega)⟩
          refine run_k 2 ?_
          show (1 ≠ 0 → Run fam0 none cd_X5_sellShort ER ET 158 0 [some (vR 38 0), some (vI k), some (vI n), some (vI (bi (0 ≤ k ∧ k ≤ ((μ 38 0 17) - 1)))), some (vI 1), some (vI (μ 53 0 k)), some (vI (μ 54 0 k)), some (vI (μ 42 0 ((4 * (μ 53 0 k)) + (μ 54 0 k)))), some (vI 0)] [vR 38 0] μ) ∧ (1 = 0 → Run fam0 none cd_X5_sellShort ER ET 154 0 [some (vR 38 0), some (vI k), some (vI n), some (vI (bi (0 ≤ k ∧ k ≤ ((μ 38 0 17) - 1)))), some (vI 1), some (vI (μ 53 0 k)), some (vI (μ 54 0 k)), some (vI (μ 42 0 ((4 * (μ 53 0 k)) + (μ 54 0 k)))), some (vI 0)] [vR 38 0] μ)
          refine ⟨fun c33 => ?_, fun c33 => absurd c33 (by decide)⟩
          refine run_k 2 ?_
          show (0 = 0 → Run fam0 none cd_X5_sellShort ER ET 167 0 [some (vR 38 0), some (vI k), some (vI n), some (vI (bi (0 ≤ k ∧ k ≤ ((μ 38 0 17) - 1)))), some (vI 1), some (vI (μ 53 0 k)), some (vI (μ 54 0 k)), some (vI (μ 42 0 ((4 * (μ 53 0 k)) + (μ 54 0 k)))), some (vI 0)] [vR 38 0] μ) ∧ (0 ≠ 0 → Run fam0 none cd_X5_sellShort ER ET 163 0 [some (vR 38 0), some (vI k), some (vI n), some (vI (bi (0 ≤ k ∧ k ≤ ((μ 38 0 17) - 1)))), some (vI 1), some (vI (μ 53 0 k)), some (vI (μ 54 0 k)), some (vI (μ 42 0 ((4 * (μ 53 0 k)) + (μ 54 0 k)))), some (vI 0)] [vR 38 0] μ)
          refine ⟨fun c34 => ?_, fun c34 => absurd c34 (by decide)⟩
          refine run_k 2 ?_
          show ∃ σ : Mm, cl_X5_refused.2.2.1 σ [vR 38 0, vI 3] μ ∧ (∀ ov μ', cl_X5_refused.2.2.2.1 σ [vR 38 0, vI 3] μ ov μ' → Run fam0 none cd_X5_sellShort ER ET 171 0 [some (vR 38 0), some (vI k), some (vI n), some (vI (bi (0 ≤ k ∧ k ≤ ((μ 38 0 17) - 1)))), some (vI 1), some (vI (μ 53 0 k)), some (vI (μ 54 0 k)), some (vI (μ 42 0 ((4 * (μ 53 0 k)) + (μ 54 0 k)))), some (vI 0)] (ov.toList ++ []) μ') ∧ ∀ kx, cl_X5_refused.2.2.2.2 σ [vR 38 0, vI 3] μ kx → thr cd_X5_sellShort ET (Run fam0 none cd_X5_sellShort ER ET) 168 0 [some (vR 38 0), some (vI k), some (vI n), some (vI (bi (0 ≤ k ∧ k ≤ ((μ 38 0 17) - 1)))), some (vI 1), some (vI (μ 53 0 k)), some (vI (μ 54 0 k)), some (vI (μ 42 0 ((4 * (μ 53 0 k)) + (μ 54 0 k)))), some (vI 0)] μ kx
          refine ⟨μ, ⟨rfl, show True from True.intro⟩, fun ov μ' hq => ?_, fun k hk => hk.elim⟩
          obtain ⟨hov, hmu⟩ : ov = some (vI 1) ∧ μ' = st μ 38 0 0 3 := hq
          rw [hov, hmu]
          show Run fam0 none cd_X5_sellShort ER ET 171 0 [some (vR 38 0), some (vI k), some (vI n), some (vI (bi (0 ≤ k ∧ k ≤ ((μ 38 0 17) - 1)))), some (vI 1), some (vI (μ 53 0 k)), some (vI (μ 54 0 k)), some (vI (μ 42 0 ((4 * (μ 53 0 k)) + (μ 54 0 k)))), some (vI 0)] [vI 1] (st μ 38 0 0 3)
          refine run_k 1 ?_
          show (1 = 0 → Run fam0 none cd_X5_sellShort ER ET 176 0 [some (vR 38 0), some (vI k), some (vI n), some (vI (bi (0 ≤ k ∧ k ≤ ((μ 38 0 17) - 1)))), some (vI 1), some (vI (μ 53 0 k)), some (vI (μ 54 0 k)), some (vI (μ 42 0 ((4 * (μ 53 0 k)) + (μ 54 0 k)))), some (vI 0)] [] (st μ 38 0 0 3)) ∧ (1 ≠ 0 → Run fam0 none cd_X5_sellShort ER ET 174 0 [some (vR 38 0), some (vI k), some (vI n), some (vI (bi (0 ≤ k ∧ k ≤ ((μ 38 0 17) - 1)))), some (vI 1), some (vI (μ 53 0 k)), some (vI (μ 54 0 k)), some (vI (μ 42 0 ((4 * (μ 53 0 k)) + (μ 54 0 k)))), some (vI 0)] [] (st μ 38 0 0 3))
          refine ⟨fun c36 => absurd c36 (by decide), fun c36 => ?_⟩
          refine run_k 2 ?_
          show ER (some (vL 0)) (st μ 38 0 0 3)
          refine hER _ _ ⟨fun h => ?_, fun h => ?_, fun h => ?_, fun h => ?_⟩ <;> first | (exfalso; omega) | exact ⟨rfl, rfl⟩
        · refine run_k 2 ?_
          show (0 < (μ 42 0 ((4 * (μ 53 0 k)) + (μ 54 0 k))) → Run fam0 none cd_X5_sellShort ER ET 137 0 [some (vR 38 0), some (vI k), some (vI n), some (vI (bi (0 ≤ k ∧ k ≤ ((μ 38 0 17) - 1)))), some (vI 1), some (vI (μ 53 0 k)), some (vI (μ 54 0 k)), some (vI (μ 42 0 ((4 * (μ 53 0 k)) + (μ 54 0 k)))), none] [] μ) ∧ ((μ 42 0 ((4 * (μ 53 0 k)) + (μ 54 0 k))) ≤ 0 → Run fam0 none cd_X5_sellShort ER ET 111 0 [some (vR 38 0), some (vI k), some (vI n), some (vI (bi (0 ≤ k ∧ k ≤ ((μ 38 0 17) - 1)))), some (vI 1), some (vI (μ 53 0 k)), some (vI (μ 54 0 k)), some (vI (μ 42 0 ((4 * (μ 53 0 k)) + (μ 54 0 k)))), none] [] μ)
          refine ⟨fun c38 => ?_, fun c38 => ?_⟩
          · refine run_k 5 ?_
            show ((bi (0 ≤ k ∧ k ≤ ((μ 38 0 17) - 1))) ≠ 0 → Run fam0 none cd_X5_sellShort ER ET 149 0 [some (vR 38 0), some (vI k), some (vI n), some (vI (bi (0 ≤ k ∧ k ≤ ((μ 38 0 17) - 1)))), some (vI 1), some (vI (μ 53 0 k)), some (vI (μ 54 0 k)), some (vI (μ 42 0 ((4 * (μ 53 0 k)) + (μ 54 0 k)))), some (vI 0)] [vR 38 0] μ) ∧ ((bi (0 ≤ k ∧ k ≤ ((μ 38 0 17) - 1))) = 0 → Run fam0 none cd_X5_sellShort ER ET 145 0 [some (vR 38 0), some (vI k), some (vI n), some (vI (bi (0 ≤ k ∧ k ≤ ((μ 38 0 17) - 1)))), some (vI 1), some (vI (μ 53 0 k)), some (vI (μ 54 0 k)), some (vI (μ 42 0 ((4 * (μ 53 0 k)) + (μ 54 0 k)))), some (vI 0)] [vR 38 0] μ)
            refine ⟨fun c39 => ?_, fun c39 => absurd (bi_e0.mp c39) (by omega)⟩
            refine run_k 2 ?_
            show (1 ≠ 0 → Run fam0 none cd_X5_sellShort ER ET 158 0 [some (vR 38 0), some (vI k), some (vI n), some (vI (bi (0 ≤ k ∧ k ≤ ((μ 38 0 17) - 1)))), some (vI 1), some (vI (μ 53 0 k)), some (vI (μ 54 0 k)), some (vI (μ 42 0 ((4 * (μ 53 0 k)) + (μ 54 0 k)))), some (vI 0)] [vR 38 0] μ) ∧ (1 = 0 → Run fam0 none cd_X5_sellShort ER ET 154 0 [some (vR 38 0), some (vI k), some (vI n), some (vI (bi (0 ≤ k ∧ k ≤ ((μ 38 0 17) - 1)))), some (vI 1), some (vI (μ 53 0 k)), some (vI (μ 54 0 k)), some (vI (μ 42 0 ((4 * (μ 53 0 k)) + (μ 54 0 k)))), some (vI 0)] [vR 38 0] μ)
            refine ⟨fun c40 => ?_, fun c40 => absurd c40 (by decide)⟩
            refine run_k 2 ?_
            show (0 = 0 → Run fam0 none cd_X5_sellShort ER ET 167 0 [some (vR 38 0), some (vI k), some (vI n), some (vI (bi (0 ≤ k ∧ k ≤ ((μ 38 0 17) - 1)))), some (vI 1), some (vI (μ 53 0 k)), some (vI (μ 54 0 k)), some (vI (μ 42 0 ((4 * (μ 53 0 k)) + (μ 54 0 k)))), some (vI 0)] [vR 38 0] μ) ∧ (0 ≠ 0 → Run fam0 none cd_X5_sellShort ER ET 163 0 [some (vR 38 0), some (vI k), some (vI n), some (vI (bi (0 ≤ k ∧ k ≤ ((μ 38 0 17) - 1)))), some (vI 1), some (vI (μ 53 0 k)), some (vI (μ 54 0 k)), some (vI (μ 42 0 ((4 * (μ 53 0 k)) + (μ 54 0 k)))), some (vI 0)] [vR 38 0] μ)
            refine ⟨fun c41 => ?_, fun c41 => absurd c41 (by decide)⟩
            refine run_k 2 ?_
            show ∃ σ : Mm, cl_X5_refused.2.2.1 σ [vR 38 0, vI 3] μ ∧ (∀ ov μ', cl_X5_refused.2.2.2.1 σ [vR 38 0, vI 3] μ ov μ' → Run fam0 none cd_X5_sellShort ER ET 171 0 [some (vR 38 0), some (vI k), some (vI n), some (vI (bi (0 ≤ k ∧ k ≤ ((μ 38 0 17) - 1)))), some (vI 1), some (vI (μ 53 0 k)), some (vI (μ 54 0 k)), some (vI (μ 42 0 ((4 * (μ 53 0 k)) + (μ 54 0 k)))), some (vI 0)] (ov.toList ++ []) μ') ∧ ∀ kx, cl_X5_refused.2.2.2.2 σ [vR 38 0, vI 3] μ kx → thr cd_X5_sellShort ET (Run fam0 none cd_X5_sellShort ER ET) 168 0 [some (vR 38 0), some (vI k), some (vI n), some (vI (bi (0 ≤ k ∧ k ≤ ((μ 38 0 17) - 1)))), some (vI 1), some (vI (μ 53 0 k)), some (vI (μ 54 0 k)), some (vI (μ 42 0 ((4 * (μ 53 0 k)) + (μ 54 0 k)))), some (vI 0)] μ kx
            refine ⟨μ, ⟨rfl, show True from True.intro⟩, fun ov μ' hq => ?_, fun k hk => hk.elim⟩
            obtain ⟨hov, hmu⟩ : ov = some (vI 1) ∧ μ' = st μ 38 0 0 3 := hq
            rw [hov, hmu]
            show Run fam0 none cd_X5_sellShort ER ET 171 0 [some (vR 38 0), some (vI k), some (vI n), some (vI (bi (0 ≤ k ∧ k ≤ ((μ 38 0 17) - 1)))), some (vI 1), some (vI (μ 53 0 k)), some (vI (μ 54 0 k)), some (vI (μ 42 0 ((4 * (μ 53 0 k)) + (μ 54 0 k)))), some (vI 0)] [vI 1] (st μ 38 0 0 3)
            refine run_k 1 ?_
            show (1 = 0 → Run fam0 none cd_X5_sellShort ER ET 176 0 [some (vR 38 0), some (vI k), some (vI n), some (vI (bi (0 ≤ k ∧ k ≤ ((μ 38 0 17) - 1)))), some (vI 1), some (vI (μ 53 0 k)), some (vI (μ 54 0 k)), some (vI (μ 42 0 ((4 * (μ 53 0 k)) + (μ 54 0 k)))), some (vI 0)] [] (st μ 38 0 0 3)) ∧ (1 ≠ 0 → Run fam0 none cd_X5_sellShort ER ET 174 0 [some (vR 38 0), some (vI k), some (vI n), some (vI (bi (0 ≤ k ∧ k ≤ ((μ 38 0 17) - 1)))), some (vI 1), some (vI (μ 53 0 k)), some (vI (μ 54 0 k)), some (vI (μ 42 0 ((4 * (μ 53 0 k)) + (μ 54 0 k)))), some (vI 0)] [] (st μ 38 0 0 3))
            refine ⟨fun c43 => absurd c43 (by decide), fun c43 => ?_⟩
            refine run_k 2 ?_
            show ER (some (vL 0)) (st μ 38 0 0 3)
            refine hER _ _ ⟨fun h => ?_, fun h => ?_, fun h => ?_, fun h => ?_⟩ <;> first | (exfalso; omega) | exact ⟨rfl, rfl⟩
          · refine run_k 5 ?_
            show ((w32 ((μ 42 0 ((4 * (μ 53 0 k)) + (μ 54 0 k))) - n)) < (-500) → Run fam0 none cd_X5_sellShort ER ET 137 0 [some (vR 38 0), some (vI k), some (vI n), some (vI (bi (0 ≤ k ∧ k ≤ ((μ 38 0 17) - 1)))), some (vI 1), some (vI (μ 53 0 k)), some (vI (μ 54 0 k)), some (vI (μ 42 0 ((4 * (μ 53 0 k)) + (μ 54 0 k)))), none] [] μ) ∧ ((-500) ≤ (w32 ((μ 42 0 ((4 * (μ 53 0 k)) + (μ 54 0 k))) - n)) → Run fam0 none cd_X5_sellShort ER ET 121 0 [some (vR 38 0), some (vI k), some (vI n), some (vI (bi (0 ≤ k ∧ k ≤ ((μ 38 0 17) - 1)))), some (vI 1), some (vI (μ 53 0 k)), some (vI (μ 54 0 k)), some (vI (μ 42 0 ((4 * (μ 53 0 k)) + (μ 54 0 k)))), none] [] μ)
            rw [show w32 ((μ 42 0 ((4 * (μ 53 0 k)) + (μ 54 0 k))) - n) = (μ 42 0 ((4 * (μ 53 0 k)) + (μ 54 0 k))) - n from w32_id (by simp only [in32]; omega)]
            refine ⟨fun c45 => ?_, fun c45 => ?_⟩
            · refine run_k 5 ?_
              show ((bi (0 ≤ k ∧ k ≤ ((μ 38 0 17) - 1))) ≠ 0 → Run fam0 none cd_X5_sellShort ER ET 149 0 [some (vR 38 0), some (vI k), some (vI n), some (vI (bi (0 ≤ k ∧ k ≤ ((μ 38 0 17) - 1)))), some (vI 1), some (vI (μ 53 0 k)), some (vI (μ 54 0 k)), some (vI (μ 42 0 ((4 * (μ 53 0 k)) + (μ 54 0 k)))), some (vI 0)] [vR 38 0] μ) ∧ ((bi (0 ≤ k ∧ k ≤ ((μ 38 0 17) - 1))) = 0 → Run fam0 none cd_X5_sellShort ER ET 145 0 [some (vR 38 0), some (vI k), some (vI n), some (vI (bi (0 ≤ k ∧ k ≤ ((μ 38 0 17) - 1)))), some (vI 1), some (vI (μ 53 0 k)), some (vI (μ 54 0 k)), some (vI (μ 42 0 ((4 * (μ 53 0 k)) + (μ 54 0 k)))), some (vI 0)] [vR 38 0] μ)
              refine ⟨fun c46 => ?_, fun c46 => absurd (bi_e0.mp c46) (by omega)⟩
              refine run_k 2 ?_
              show (1 ≠ 0 → Run fam0 none cd_X5_sellShort ER ET 158 0 [some (vR 38 0), some (vI k), some (vI n), some (vI (bi (0 ≤ k ∧ k ≤ ((μ 38 0 17) - 1)))), some (vI 1), some (vI (μ 53 0 k)), some (vI (μ 54 0 k)), some (vI (μ 42 0 ((4 * (μ 53 0 k)) + (μ 54 0 k)))), some (vI 0)] [vR 38 0] μ) ∧ (1 = 0 → Run fam0 none cd_X5_sellShort ER ET 154 0 [some (vR 38 0), some (vI k), some (vI n), some (vI (bi (0 ≤ k ∧ k ≤ ((μ 38 0 17) - 1)))), some (vI 1), some (vI (μ 53 0 k)), some (vI (μ 54 0 k)), some (vI (μ 42 0 ((4 * (μ 53 0 k)) + (μ 54 0 k)))), some (vI 0)] [vR 38 0] μ)
              refine ⟨fun c47 => ?_, fun c47 => absurd c47 (by decide)⟩
              refine run_k 2 ?_
              show (0 = 0 → Run fam0 none cd_X5_sellShort ER ET 167 0 [some (vR 38 0), some (vI k), some (vI n), some (vI (bi (0 ≤ k ∧ k ≤ ((μ 38 0 17) - 1)))), some (vI 1), some (vI (μ 53 0 k)), some (vI (μ 54 0 k)), some (vI (μ 42 0 ((4 * (μ 53 0 k)) + (μ 54 0 k)))), some (vI 0)] [vR 38 0] μ) ∧ (0 ≠ 0 → Run fam0 none cd_X5_sellShort ER ET 163 0 [some (vR 38 0), some (vI k), some (vI n), some (vI (bi (0 ≤ k ∧ k ≤ ((μ 38 0 17) - 1)))), some (vI 1), some (vI (μ 53 0 k)), some (vI (μ 54 0 k)), some (vI (μ 42 0 ((4 * (μ 53 0 k)) + (μ 54 0 k)))), some (vI 0)] [vR 38 0] μ)
              refine ⟨fun c48 => ?_, fun c48 => absurd c48 (by decide)⟩
              refine run_k 2 ?_
              show ∃ σ : Mm, cl_X5_refused.2.2.1 σ [vR 38 0, vI 3] μ ∧ (∀ ov μ', cl_X5_refused.2.2.2.1 σ [vR 38 0, vI 3] μ ov μ' → Run fam0 none cd_X5_sellShort ER ET 171 0 [some (vR 38 0), some (vI k), some (vI n), some (vI (bi (0 ≤ k ∧ k ≤ ((μ 38 0 17) - 1)))), some (vI 1), some (vI (μ 53 0 k)), some (vI (μ 54 0 k)), some (vI (μ 42 0 ((4 * (μ 53 0 k)) + (μ 54 0 k)))), some (vI 0)] (ov.toList ++ []) μ') ∧ ∀ kx, cl_X5_refused.2.2.2.2 σ [vR 38 0, vI 3] μ kx → thr cd_X5_sellShort ET (Run fam0 none cd_X5_sellShort ER ET) 168 0 [some (vR 38 0), some (vI k), some (vI n), some (vI (bi (0 ≤ k ∧ k ≤ ((μ 38 0 17) - 1)))), some (vI 1), some (vI (μ 53 0 k)), some (vI (μ 54 0 k)), some (vI (μ 42 0 ((4 * (μ 53 0 k)) + (μ 54 0 k)))), some (vI 0)] μ kx
              refine ⟨μ, ⟨rfl, show True from True.intro⟩, fun ov μ' hq => ?_, fun k hk => hk.elim⟩
              obtain ⟨hov, hmu⟩ : ov = some (vI 1) ∧ μ' = st μ 38 0 0 3 := hq
              rw [hov, hmu]
              show Run fam0 none cd_X5_sellShort ER ET 171 0 [some (vR 38 0), some (vI k), some (vI n), some (vI (bi (0 ≤ k ∧ k ≤ ((μ 38 0 17) - 1)))), some (vI 1), some (vI (μ 53 0 k)), some (vI (μ 54 0 k)), some (vI (μ 42 0 ((4 * (μ 53 0 k)) + (μ 54 0 k)))), some (vI 0)] [vI 1] (st μ 38 0 0 3)
              refine run_k 1 ?_
              show (1 = 0 → Run fam0 none cd_X5_sellShort ER ET 176 0 [some (vR 38 0), some (vI k), some (vI n), some (vI (bi (0 ≤ k ∧ k ≤ ((μ 38 0 17) - 1)))), some (vI 1), some (vI (μ 53 0 k)), some (vI (μ 54 0 k)), some (vI (μ 42 0 ((4 * (μ 53 0 k)) + (μ 54 0 k)))), some (vI 0)] [] (st μ 38 0 0 3)) ∧ (1 ≠ 0 → Run fam0 none cd_X5_sellShort ER ET 174 0 [some (vR 38 0), some (vI k), some (vI n), some (vI (bi (0 ≤ k ∧ k ≤ ((μ 38 0 17) - 1)))), some (vI 1), some (vI (μ 53 0 k)), some (vI (μ 54 0 k)), some (vI (μ 42 0 ((4 * (μ 53 0 k)) + (μ 54 0 k)))), some (vI 0)] [] (st μ 38 0 0 3))
              refine ⟨fun c50 => absurd c50 (by decide), fun c50 => ?_⟩
              refine run_k 2 ?_
              show ER (some (vL 0)) (st μ 38 0 0 3)
              refine hER _ _ ⟨fun h => ?_, fun h => ?_, fun h => ?_, fun h => ?_⟩ <;> first | (exfalso; omega) | exact ⟨rfl, rfl⟩
            · refine run_k 4 ?_
              show ∃ σ : Mm, cl_X5_canBorrow.2.2.1 σ [vR 38 0, vI (μ 53 0 k), vI (μ 54 0 k)] μ ∧ (∀ ov μ', cl_X5_canBorrow.2.2.2.1 σ [vR 38 0, vI (μ 53 0 k), vI (μ 54 0 k)] μ ov μ' → Run fam0 none cd_X5_sellShort ER ET 129 0 [some (vR 38 0), some (vI k), some (vI n), some (vI (bi (0 ≤ k ∧ k ≤ ((μ 38 0 17) - 1)))), some (vI 1), some (vI (μ 53 0 k)), some (vI (μ 54 0 k)), some (vI (μ 42 0 ((4 * (μ 53 0 k)) + (μ 54 0 k)))), none] (ov.toList ++ []) μ') ∧ ∀ kx, cl_X5_canBorrow.2.2.2.2 σ [vR 38 0, vI (μ 53 0 k), vI (μ 54 0 k)] μ kx → thr cd_X5_sellShort ET (Run fam0 none cd_X5_sellShort ER ET) 126 0 [some (vR 38 0), some (vI k), some (vI n), some (vI (bi (0 ≤ k ∧ k ≤ ((μ 38 0 17) - 1)))), some (vI 1), some (vI (μ 53 0 k)), some (vI (μ 54 0 k)), some (vI (μ 42 0 ((4 * (μ 53 0 k)) + (μ 54 0 k)))), none] μ kx
              refine ⟨μ, ⟨rfl, show Lk μ ∧ Pk μ ∧ Gk μ ∧ (0 ≤ (μ 54 0 k) ∧ (μ 54 0 k) ≤ 3) from ⟨(by assumption), (by assumption), (by assumption), by omega⟩⟩, fun ov μ' hq => ?_, fun k hk => hk.elim⟩
              obtain ⟨hov, hmu⟩ : ov = some (vI (canF μ (μ 53 0 k) (μ 54 0 k))) ∧ μ' = μ := hq
              rw [hov, hmu]
              show Run fam0 none cd_X5_sellShort ER ET 129 0 [some (vR 38 0), some (vI k), some (vI n), some (vI (bi (0 ≤ k ∧ k ≤ ((μ 38 0 17) - 1)))), some (vI 1), some (vI (μ 53 0 k)), some (vI (μ 54 0 k)), some (vI (μ 42 0 ((4 * (μ 53 0 k)) + (μ 54 0 k)))), none] [vI (canF μ (μ 53 0 k) (μ 54 0 k))] μ
              refine run_k 2 ?_
              show ((canF μ (μ 53 0 k) (μ 54 0 k)) < n → Run fam0 none cd_X5_sellShort ER ET 137 0 [some (vR 38 0), some (vI k), some (vI n), some (vI (bi (0 ≤ k ∧ k ≤ ((μ 38 0 17) - 1)))), some (vI 1), some (vI (μ 53 0 k)), some (vI (μ 54 0 k)), some (vI (μ 42 0 ((4 * (μ 53 0 k)) + (μ 54 0 k)))), none] [] μ) ∧ (n ≤ (canF μ (μ 53 0 k) (μ 54 0 k)) → Run fam0 none cd_X5_sellShort ER ET 133 0 [some (vR 38 0), some (vI k), some (vI n), some (vI (bi (0 ≤ k ∧ k ≤ ((μ 38 0 17) - 1)))), some (vI 1), some (vI (μ 53 0 k)), some (vI (μ 54 0 k)), some (vI (μ 42 0 ((4 * (μ 53 0 k)) + (μ 54 0 k)))), none] [] μ)
              refine ⟨fun c53 => ?_, fun c53 => ?_⟩
              · refine run_k 5 ?_
                show ((bi (0 ≤ k ∧ k ≤ ((μ 38 0 17) - 1))) ≠ 0 → Run fam0 none cd_X5_sellShort ER ET 149 0 [some (vR 38 0), some (vI k), some (vI n), some (vI (bi (0 ≤ k ∧ k ≤ ((μ 38 0 17) - 1)))), some (vI 1), some (vI (μ 53 0 k)), some (vI (μ 54 0 k)), some (vI (μ 42 0 ((4 * (μ 53 0 k)) + (μ 54 0 k)))), some (vI 0)] [vR 38 0] μ) ∧ ((bi (0 ≤ k ∧ k ≤ ((μ 38 0 17) - 1))) = 0 → Run fam0 none cd_X5_sellShort ER ET 145 0 [some (vR 38 0), some (vI k), some (vI n), some (vI (bi (0 ≤ k ∧ k ≤ ((μ 38 0 17) - 1)))), some (vI 1), some (vI (μ 53 0 k)), some (vI (μ 54 0 k)), some (vI (μ 42 0 ((4 * (μ 53 0 k)) + (μ 54 0 k)))), some (vI 0)] [vR 38 0] μ)
                refine ⟨fun c54 => ?_, fun c54 => absurd (bi_e0.mp c54) (by omega)⟩
                refine run_k 2 ?_
                show (1 ≠ 0 → Run fam0 none cd_X5_sellShort ER ET 158 0 [some (vR 38 0), some (vI k), some (vI n), some (vI (bi (0 ≤ k ∧ k ≤ ((μ 38 0 17) - 1)))), some (vI 1), some (vI (μ 53 0 k)), some (vI (μ 54 0 k)), some (vI (μ 42 0 ((4 * (μ 53 0 k)) + (μ 54 0 k)))), some (vI 0)] [vR 38 0] μ) ∧ (1 = 0 → Run fam0 none cd_X5_sellShort ER ET 154 0 [some (vR 38 0), some (vI k), some (vI n), some (vI (bi (0 ≤ k ∧ k ≤ ((μ 38 0 17) - 1)))), some (vI 1), some (vI (μ 53 0 k)), some (vI (μ 54 0 k)), some (vI (μ 42 0 ((4 * (μ 53 0 k)) + (μ 54 0 k)))), some (vI 0)] [vR 38 0] μ)
                refine ⟨fun c55 => ?_, fun c55 => absurd c55 (by decide)⟩
                refine run_k 2 ?_
                show (0 = 0 → Run fam0 none cd_X5_sellShort ER ET 167 0 [some (vR 38 0), some (vI k), some (vI n), some (vI (bi (0 ≤ k ∧ k ≤ ((μ 38 0 17) - 1)))), some (vI 1), some (vI (μ 53 0 k)), some (vI (μ 54 0 k)), some (vI (μ 42 0 ((4 * (μ 53 0 k)) + (μ 54 0 k)))), some (vI 0)] [vR 38 0] μ) ∧ (0 ≠ 0 → Run fam0 none cd_X5_sellShort ER ET 163 0 [some (vR 38 0), some (vI k), some (vI n), some (vI (bi (0 ≤ k ∧ k ≤ ((μ 38 0 17) - 1)))), some (vI 1), some (vI (μ 53 0 k)), some (vI (μ 54 0 k)), some (vI (μ 42 0 ((4 * (μ 53 0 k)) + (μ 54 0 k)))), some (vI 0)] [vR 38 0] μ)
                refine ⟨fun c56 => ?_, fun c56 => absurd c56 (by decide)⟩
                refine run_k 2 ?_
                show ∃ σ : Mm, cl_X5_refused.2.2.1 σ [vR 38 0, vI 3] μ ∧ (∀ ov μ', cl_X5_refused.2.2.2.1 σ [vR 38 0, vI 3] μ ov μ' → Run fam0 none cd_X5_sellShort ER ET 171 0 [some (vR 38 0), some (vI k), some (vI n), some (vI (bi (0 ≤ k ∧ k ≤ ((μ 38 0 17) - 1)))), some (vI 1), some (vI (μ 53 0 k)), some (vI (μ 54 0 k)), some (vI (μ 42 0 ((4 * (μ 53 0 k)) + (μ 54 0 k)))), some (vI 0)] (ov.toList ++ []) μ') ∧ ∀ kx, cl_X5_refused.2.2.2.2 σ [vR 38 0, vI 3] μ kx → thr cd_X5_sellShort ET (Run fam0 none cd_X5_sellShort ER ET) 168 0 [some (vR 38 0), some (vI k), some (vI n), some (vI (bi (0 ≤ k ∧ k ≤ ((μ 38 0 17) - 1)))), some (vI 1), some (vI (μ 53 0 k)), some (vI (μ 54 0 k)), some (vI (μ 42 0 ((4 * (μ 53 0 k)) + (μ 54 0 k)))), some (vI 0)] μ kx
                refine ⟨μ, ⟨rfl, show True from True.intro⟩, fun ov μ' hq => ?_, fun k hk => hk.elim⟩
                obtain ⟨hov, hmu⟩ : ov = some (vI 1) ∧ μ' = st μ 38 0 0 3 := hq
                rw [hov, hmu]
                show Run fam0 none cd_X5_sellShort ER ET 171 0 [some (vR 38 0), some (vI k), some (vI n), some (vI (bi (0 ≤ k ∧ k ≤ ((μ 38 0 17) - 1)))), some (vI 1), some (vI (μ 53 0 k)), some (vI (μ 54 0 k)), some (vI (μ 42 0 ((4 * (μ 53 0 k)) + (μ 54 0 k)))), some (vI 0)] [vI 1] (st μ 38 0 0 3)
                refine run_k 1 ?_
                show (1 = 0 → Run fam0 none cd_X5_sellShort ER ET 176 0 [some (vR 38 0), some (vI k), some (vI n), some (vI (bi (0 ≤ k ∧ k ≤ ((μ 38 0 17) - 1)))), some (vI 1), some (vI (μ 53 0 k)), some (vI (μ 54 0 k)), some (vI (μ 42 0 ((4 * (μ 53 0 k)) + (μ 54 0 k)))), some (vI 0)] [] (st μ 38 0 0 3)) ∧ (1 ≠ 0 → Run fam0 none cd_X5_sellShort ER ET 174 0 [some (vR 38 0), some (vI k), some (vI n), some (vI (bi (0 ≤ k ∧ k ≤ ((μ 38 0 17) - 1)))), some (vI 1), some (vI (μ 53 0 k)), some (vI (μ 54 0 k)), some (vI (μ 42 0 ((4 * (μ 53 0 k)) + (μ 54 0 k)))), some (vI 0)] [] (st μ 38 0 0 3))
                refine ⟨fun c58 => absurd c58 (by decide), fun c58 => ?_⟩
                refine run_k 2 ?_
                show ER (some (vL 0)) (st μ 38 0 0 3)
                refine hER _ _ ⟨fun h => ?_, fun h => ?_, fun h => ?_, fun h => ?_⟩ <;> first | (exfalso; omega) | exact ⟨rfl, rfl⟩
              · refine run_k 6 ?_
                show ((bi (0 ≤ k ∧ k ≤ ((μ 38 0 17) - 1))) ≠ 0 → Run fam0 none cd_X5_sellShort ER ET 149 0 [some (vR 38 0), some (vI k), some (vI n), some (vI (bi (0 ≤ k ∧ k ≤ ((μ 38 0 17) - 1)))), some (vI 1), some (vI (μ 53 0 k)), some (vI (μ 54 0 k)), some (vI (μ 42 0 ((4 * (μ 53 0 k)) + (μ 54 0 k)))), some (vI 1)] [vR 38 0] μ) ∧ ((bi (0 ≤ k ∧ k ≤ ((μ 38 0 17) - 1))) = 0 → Run fam0 none cd_X5_sellShort ER ET 145 0 [some (vR 38 0), some (vI k), some (vI n), some (vI (bi (0 ≤ k ∧ k ≤ ((μ 38 0 17) - 1)))), some (vI 1), some (vI (μ 53 0 k)), some (vI (μ 54 0 k)), some (vI (μ 42 0 ((4 * (μ 53 0 k)) + (μ 54 0 k)))), some (vI 1)] [vR 38 0] μ)
                refine ⟨fun c60 => ?_, fun c60 => absurd (bi_e0.mp c60) (by omega)⟩
                refine run_k 2 ?_
                show (1 ≠ 0 → Run fam0 none cd_X5_sellShort ER ET 158 0 [some (vR 38 0), some (vI k), some (vI n), some (vI (bi (0 ≤ k ∧ k ≤ ((μ 38 0 17) - 1)))), some (vI 1), some (vI (μ 53 0 k)), some (vI (μ 54 0 k)), some (vI (μ 42 0 ((4 * (μ 53 0 k)) + (μ 54 0 k)))), some (vI 1)] [vR 38 0] μ) ∧ (1 = 0 → Run fam0 none cd_X5_sellShort ER ET 154 0 [some (vR 38 0), some (vI k), some (vI n), some (vI (bi (0 ≤ k ∧ k ≤ ((μ 38 0 17) - 1)))), some (vI 1), some (vI (μ 53 0 k)), some (vI (μ 54 0 k)), some (vI (μ 42 0 ((4 * (μ 53 0 k)) + (μ 54 0 k)))), some (vI 1)] [vR 38 0] μ)
                refine ⟨fun c61 => ?_, fun c61 => absurd c61 (by decide)⟩
                refine run_k 2 ?_
                show (1 = 0 → Run fam0 none cd_X5_sellShort ER ET 167 0 [some (vR 38 0), some (vI k), some (vI n), some (vI (bi (0 ≤ k ∧ k ≤ ((μ 38 0 17) - 1)))), some (vI 1), some (vI (μ 53 0 k)), some (vI (μ 54 0 k)), some (vI (μ 42 0 ((4 * (μ 53 0 k)) + (μ 54 0 k)))), some (vI 1)] [vR 38 0] μ) ∧ (1 ≠ 0 → Run fam0 none cd_X5_sellShort ER ET 163 0 [some (vR 38 0), some (vI k), some (vI n), some (vI (bi (0 ≤ k ∧ k ≤ ((μ 38 0 17) - 1)))), some (vI 1), some (vI (μ 53 0 k)), some (vI (μ 54 0 k)), some (vI (μ 42 0 ((4 * (μ 53 0 k)) + (μ 54 0 k)))), some (vI 1)] [vR 38 0] μ)
                refine ⟨fun c62 => absurd c62 (by decide), fun c62 => ?_⟩
                refine run_k 3 ?_
                show ∃ σ : Mm, cl_X5_refused.2.2.1 σ [vR 38 0, vI 0] μ ∧ (∀ ov μ', cl_X5_refused.2.2.2.1 σ [vR 38 0, vI 0] μ ov μ' → Run fam0 none cd_X5_sellShort ER ET 171 0 [some (vR 38 0), some (vI k), some (vI n), some (vI (bi (0 ≤ k ∧ k ≤ ((μ 38 0 17) - 1)))), some (vI 1), some (vI (μ 53 0 k)), some (vI (μ 54 0 k)), some (vI (μ 42 0 ((4 * (μ 53 0 k)) + (μ 54 0 k)))), some (vI 1)] (ov.toList ++ []) μ') ∧ ∀ kx, cl_X5_refused.2.2.2.2 σ [vR 38 0, vI 0] μ kx → thr cd_X5_sellShort ET (Run fam0 none cd_X5_sellShort ER ET) 168 0 [some (vR 38 0), some (vI k), some (vI n), some (vI (bi (0 ≤ k ∧ k ≤ ((μ 38 0 17) - 1)))), some (vI 1), some (vI (μ 53 0 k)), some (vI (μ 54 0 k)), some (vI (μ 42 0 ((4 * (μ 53 0 k)) + (μ 54 0 k)))), some (vI 1)] μ kx
                refine ⟨μ, ⟨rfl, show True from True.intro⟩, fun ov μ' hq => ?_, fun k hk => hk.elim⟩
                obtain ⟨hov, hmu⟩ : ov = some (vI 0) ∧ μ' = st μ 38 0 0 0 := hq
                rw [hov, hmu]
                show Run fam0 none cd_X5_sellShort ER ET 171 0 [some (vR 38 0), some (vI k), some (vI n), some (vI (bi (0 ≤ k ∧ k ≤ ((μ 38 0 17) - 1)))), some (vI 1), some (vI (μ 53 0 k)), some (vI (μ 54 0 k)), some (vI (μ 42 0 ((4 * (μ 53 0 k)) + (μ 54 0 k)))), some (vI 1)] [vI 0] (st μ 38 0 0 0)
                refine run_k 1 ?_
                show (0 = 0 → Run fam0 none cd_X5_sellShort ER ET 176 0 [some (vR 38 0), some (vI k), some (vI n), some (vI (bi (0 ≤ k ∧ k ≤ ((μ 38 0 17) - 1)))), some (vI 1), some (vI (μ 53 0 k)), some (vI (μ 54 0 k)), some (vI (μ 42 0 ((4 * (μ 53 0 k)) + (μ 54 0 k)))), some (vI 1)] [] (st μ 38 0 0 0)) ∧ (0 ≠ 0 → Run fam0 none cd_X5_sellShort ER ET 174 0 [some (vR 38 0), some (vI k), some (vI n), some (vI (bi (0 ≤ k ∧ k ≤ ((μ 38 0 17) - 1)))), some (vI 1), some (vI (μ 53 0 k)), some (vI (μ 54 0 k)), some (vI (μ 42 0 ((4 * (μ 53 0 k)) + (μ 54 0 k)))), some (vI 1)] [] (st μ 38 0 0 0))
                refine ⟨fun c64 => ?_, fun c64 => absurd c64 (by decide)⟩
                refine run_k 11 ?_
                show (0 ≤ k ∧ k < 60) ∧ ((1 = 0 ∨ 1 = 1) ∧ (∃ σ : Mm, cl_X5_borrow.2.2.1 σ [vR 38 0, vI (μ 53 0 k), vI (μ 54 0 k), vI n, vI (-1)] (st (st μ 38 0 0 0) 57 0 k 1) ∧ (∀ ov μ', cl_X5_borrow.2.2.2.1 σ [vR 38 0, vI (μ 53 0 k), vI (μ 54 0 k), vI n, vI (-1)] (st (st μ 38 0 0 0) 57 0 k 1) ov μ' → Run fam0 none cd_X5_sellShort ER ET 193 0 [some (vR 38 0), some (vI k), some (vI n), some (vI (bi (0 ≤ k ∧ k ≤ ((μ 38 0 17) - 1)))), some (vI 1), some (vI (μ 53 0 k)), some (vI (μ 54 0 k)), some (vI (μ 42 0 ((4 * (μ 53 0 k)) + (μ 54 0 k)))), some (vI 1)] (ov.toList ++ []) μ') ∧ ∀ kx, cl_X5_borrow.2.2.2.2 σ [vR 38 0, vI (μ 53 0 k), vI (μ 54 0 k), vI n, vI (-1)] (st (st μ 38 0 0 0) 57 0 k 1) kx → thr cd_X5_sellShort ET (Run fam0 none cd_X5_sellShort ER ET) 190 0 [some (vR 38 0), some (vI k), some (vI n), some (vI (bi (0 ≤ k ∧ k ≤ ((μ 38 0 17) - 1)))), some (vI 1), some (vI (μ 53 0 k)), some (vI (μ 54 0 k)), some (vI (μ 42 0 ((4 * (μ 53 0 k)) + (μ 54 0 k)))), some (vI 1)] (st (st μ 38 0 0 0) 57 0 k 1) kx))
                refine ⟨by omega, ?_⟩
                refine ⟨by omega, ?_⟩
                refine ⟨μ, ⟨rfl, show Lk (st (st μ 38 0 0 0) 57 0 k 1) ∧ Pk (st (st μ 38 0 0 0) 57 0 k 1) ∧ Gk (st (st μ 38 0 0 0) 57 0 k 1) ∧ (0 ≤ (μ 53 0 k) ∧ (μ 53 0 k) ≤ 5) ∧ (0 ≤ (μ 54 0 k) ∧ (μ 54 0 k) ≤ 3) ∧ (0 ≤ n ∧ n ≤ 500) from ⟨(by assumption), (by assumption), (by assumption), by omega, by omega, by omega⟩⟩, fun ov μ' hq => ?_, fun k hk => hk.elim⟩
                obtain ⟨hov, hmu⟩ : ov = some (vI (n - (borF (st (st μ 38 0 0 0) 57 0 k 1) (μ 53 0 k) (μ 54 0 k) n (-1)).2)) ∧ μ' = (borF (st (st μ 38 0 0 0) 57 0 k 1) (μ 53 0 k) (μ 54 0 k) n (-1)).1 := hq
                rw [hov, hmu]
                have hbf : ((borF (st (st μ 38 0 0 0) 57 0 k 1) (μ 53 0 k) (μ 54 0 k) n (-1)).1) 42 0 (4 * (μ 53 0 k) + (μ 54 0 k)) = μ 42 0 (4 * (μ 53 0 k) + (μ 54 0 k)) := ((borF_ok (b := (μ 53 0 k)) (s := (μ 54 0 k)) (want := n) (w := (-1)) (M := st (st μ 38 0 0 0) 57 0 k 1) (by omega) (by omega) (by assumption) (by assumption) (by assumption) (by omega)).2.1 42 0 _ (by decide)).trans ((st_o (by decide)).trans (st_o (by decide)))
                show Run fam0 none cd_X5_sellShort ER ET 193 0 [some (vR 38 0), some (vI k), some (vI n), some (vI (bi (0 ≤ k ∧ k ≤ ((μ 38 0 17) - 1)))), some (vI 1), some (vI (μ 53 0 k)), some (vI (μ 54 0 k)), some (vI (μ 42 0 ((4 * (μ 53 0 k)) + (μ 54 0 k)))), some (vI 1)] [vI (n - (borF (st (st μ 38 0 0 0) 57 0 k 1) (μ 53 0 k) (μ 54 0 k) n (-1)).2)] ((borF (st (st μ 38 0 0 0) 57 0 k 1) (μ 53 0 k) (μ 54 0 k) n (-1)).1)
                refine run_k 33 ?_
                show (0 ≤ (w32 ((w32 (4 * (μ 53 0 k))) + (μ 54 0 k))) ∧ (w32 ((w32 (4 * (μ 53 0 k))) + (μ 54 0 k))) < 24) ∧ ((0 ≤ (w32 ((w32 (4 * (μ 53 0 k))) + (μ 54 0 k))) ∧ (w32 ((w32 (4 * (μ 53 0 k))) + (μ 54 0 k))) < 24) ∧ ((0 ≤ (μ 53 0 k) ∧ (μ 53 0 k) < 6) ∧ ((0 ≤ (μ 54 0 k) ∧ (μ 54 0 k) < 4) ∧ ((0 ≤ (μ 53 0 k) ∧ (μ 53 0 k) < 6) ∧ ((0 ≤ (μ 53 0 k) ∧ (μ 53 0 k) < 6) ∧ (ER (some (vL ((st (st ((borF (st (st μ 38 0 0 0) 57 0 k 1) (μ 53 0 k) (μ 54 0 k) n (-1)).1) 42 0 (w32 ((w32 (4 * (μ 53 0 k))) + (μ 54 0 k))) (w32 ((((borF (st (st μ 38 0 0 0) 57 0 k 1) (μ 53 0 k) (μ 54 0 k) n (-1)).1) 42 0 (w32 ((w32 (4 * (μ 53 0 k))) + (μ 54 0 k)))) - n))) 41 0 (μ 53 0 k) (w64 ((((borF (st (st μ 38 0 0 0) 57 0 k 1) (μ 53 0 k) (μ 54 0 k) n (-1)).1) 41 0 (μ 53 0 k)) + (w64 (n * (((borF (st (st μ 38 0 0 0) 57 0 k 1) (μ 53 0 k) (μ 54 0 k) n (-1)).1) 39 0 (μ 54 0 k))))))) 41 0 (μ 53 0 k)))) (st (st ((borF (st (st μ 38 0 0 0) 57 0 k 1) (μ 53 0 k) (μ 54 0 k) n (-1)).1) 42 0 (w32 ((w32 (4 * (μ 53 0 k))) + (μ 54 0 k))) (w32 ((((borF (st (st μ 38 0 0 0) 57 0 k 1) (μ 53 0 k) (μ 54 0 k) n (-1)).1) 42 0 (w32 ((w32 (4 * (μ 53 0 k))) + (μ 54 0 k)))) - n))) 41 0 (μ 53 0 k) (w64 ((((borF (st (st μ 38 0 0 0) 57 0 k 1) (μ 53 0 k) (μ 54 0 k) n (-1)).1) 41 0 (μ 53 0 k)) + (w64 (n * (((borF (st (st μ 38 0 0 0) 57 0 k 1) (μ 53 0 k) (μ 54 0 k) n (-1)).1) 39 0 (μ 54 0 k)))))))))))))
                rw [show w32 (4 * (μ 53 0 k)) = 4 * (μ 53 0 k) from w32_id (by simp only [in32]; omega)]
                rw [show w32 ((4 * (μ 53 0 k)) + (μ 54 0 k)) = (4 * (μ 53 0 k)) + (μ 54 0 k) from w32_id (by simp only [in32]; omega)]
                rw [show w32 ((((borF (st (st μ 38 0 0 0) 57 0 k 1) (μ 53 0 k) (μ 54 0 k) n (-1)).1) 42 0 ((4 * (μ 53 0 k)) + (μ 54 0 k))) - n) = (((borF (st (st μ 38 0 0 0) 57 0 k 1) (μ 53 0 k) (μ 54 0 k) n (-1)).1) 42 0 ((4 * (μ 53 0 k)) + (μ 54 0 k))) - n from w32_id (by simp only [in32]; omega)]
                refine ⟨by omega, ?_⟩
                refine ⟨by omega, ?_⟩
                refine ⟨by omega, ?_⟩
                refine ⟨by omega, ?_⟩
                refine ⟨by omega, ?_⟩
                refine ⟨by omega, ?_⟩
                refine hER _ _ ⟨fun h => ?_, fun h => ?_, fun h => ?_, fun h => ?_⟩ <;> first | (exfalso; omega) | exact ⟨rfl, rfl⟩
set_option maxRecDepth 20000 in
theorem con_X5_sellShort (l : Launch) (htr : l.stackTraces = false) (σ : Mm) : CON fam0 63 l yX5_sellShort (Cond.code yX5_sellShort cX5_sellShort 9 (some .long) :: wm) 4 99 0 (cl_X5_sellShort.2.2.1 σ) (cl_X5_sellShort.2.2.2.1 σ) (cl_X5_sellShort.2.2.2.2 σ) :=
  con_of (cd := cd_X5_sellShort) (own := RX5) (rk := 2) (sc_of htr (by decide) k_X5_sellShort_ok (by decide +kernel) co_X5_ok fl_X5_ok (all_cons ⟨RX5, yX5_holds, cX5_holds, 2, (some .boolean), 0, 0, 1, con_X5_holds l htr, rfl, vw_X5_186, ⟨rfl, by decide, by decide, by decide +kernel⟩, ⟨by decide, by decide⟩, fun σ as μ h => ⟨38, 0, _, h.1, rfl, TX5, 31, rfl⟩⟩ (all_cons ⟨RX5, yX5_canBorrow, cX5_canBorrow, 7, (some .int), 3, 71, 2, con_X5_canBorrow l htr, rfl, vw_X5_180, ⟨rfl, by decide, by decide, by decide +kernel⟩, ⟨by decide, by decide⟩, fun σ as μ h => ⟨38, 0, _, h.1, rfl, TX5, 31, rfl⟩⟩ (all_cons ⟨RX5, yX5_refused, cX5_refused, 2, (some .boolean), 0, 0, 1, con_X5_refused l htr, rfl, vw_X5_127, ⟨rfl, by decide, by decide, by decide +kernel⟩, ⟨by decide, by decide⟩, fun σ as μ h => ⟨38, 0, _, h.1, rfl, TX5, 31, rfl⟩⟩ (all_cons ⟨RX5, yX5_borrow, cX5_borrow, 9, (some .int), 3, 71, 4, con_X5_borrow l htr, rfl, vw_X5_109, ⟨rfl, by decide, by decide, by decide +kernel⟩, ⟨by decide, by decide⟩, fun σ as μ h => ⟨38, 0, _, h.1, rfl, TX5, 31, rfl⟩⟩ all_nil)))) (all_cons ⟨yX5_in, cX5_in, 3, (some .boolean), 0, 0, con_X5_in l htr, vw_X5_85, ⟨by decide, by decide, by decide +kernel⟩, ⟨by decide, by decide⟩⟩ all_nil) all_nil) rfl (by decide +kernel) rfl rfl rfl rfl (fun as μ hs => by rw [hs.1]; exact Nat.le_of_ble_eq_true rfl)
    (fun as μ hs hM hrg => by
      have hs1 := hs.1
      have hmem : ∀ v, v ∈ ([vR 38 0, vI (iaI as 1), vI (iaI as 2)] : List AV) → rg fam0 v := by rw [← hs1]; exact hrg
      have key := run_X5_sellShort (ER := cl_X5_sellShort.2.2.2.1 σ as μ) (ET := fun k μ' => cl_X5_sellShort.2.2.2.2 σ as μ k ∧ μ' = μ) σ μ (iaI as 1) (iaI as 2) hM (hmem (vI (iaI as 1)) (by simp)) (hmem (vI (iaI as 2)) (by simp)) hs.2 (fun ov μ' h => h)
      have e : entL as 9 = [some (vR 38 0), some (vI (iaI as 1)), some (vI (iaI as 2)), none, none, none, none, none, none] := by rw [hs1]; rfl
      rw [e]; exact key)
