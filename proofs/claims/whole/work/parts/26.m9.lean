/-! ===== the reference's calls, continued ===== -/
/-! ### PrimeborrowModel.cash -/
def cl_X5_cash : Cl := (3, 0, fun σ as μ => as = [vR 38 0, vI (iaI as 1), vI (iaI as 2)] ∧ (Wk μ ∧ Xk μ), fun σ as μ ov μ' => ((¬ (0 ≤ (iaI as 1) ∧ (iaI as 1) ≤ 5)) → ov = some (vL 0) ∧ μ' = st μ 38 0 0 1) ∧ (((0 ≤ (iaI as 1) ∧ (iaI as 1) ≤ 5) ∧ ¬ (-100000000 ≤ (iaI as 2) ∧ (iaI as 2) ≤ 100000000)) → ov = some (vL 0) ∧ μ' = st μ 38 0 0 2) ∧ ((((0 ≤ (iaI as 1) ∧ (iaI as 1) ≤ 5) ∧ (-100000000 ≤ (iaI as 2) ∧ (iaI as 2) ≤ 100000000)) ∧ (μ 44 0 (iaI as 1) ≠ 0 ∨ ((iaI as 2) < 0 ∧ w64 (equityF μ (iaI as 1) + (iaI as 2)) < needF μ (iaI as 1)))) → ov = some (vL 0) ∧ μ' = st μ 38 0 0 3) ∧ ((((0 ≤ (iaI as 1) ∧ (iaI as 1) ≤ 5) ∧ (-100000000 ≤ (iaI as 2) ∧ (iaI as 2) ≤ 100000000)) ∧ (μ 44 0 (iaI as 1) = 0 ∧ (0 ≤ (iaI as 2) ∨ ¬ w64 (equityF μ (iaI as 1) + (iaI as 2)) < needF μ (iaI as 1)))) → ov = some (vL (w64 (μ 41 0 (iaI as 1) + (iaI as 2)))) ∧ μ' = st (st μ 38 0 0 0) 41 0 (iaI as 1) (w64 (μ 41 0 (iaI as 1) + (iaI as 2)))), fun σ as μ k => False)
def cd_X5_cash : Cd := mkcd k_X5_cash co_X5 fl_X5 [(138, cl_X5_equity), (142, cl_X5_need), (127, cl_X5_refused)] [(145, cl_X5_isClient), (85, cl_X5_in)] [] [] 6 2 0
set_option maxHeartbeats 4000000 in
set_option maxRecDepth 20000 in
theorem run_X5_cash {ER : Option AV → Mm → Prop} {ET : Nat → Mm → Prop} (σ μ : Mm) (c v : Int) (hM : MR fam0 μ) (h_c : in32 c) (h_v : in32 v) (hP : Wk μ ∧ Xk μ) (hER : ∀ ov μ', (((¬ (0 ≤ c ∧ c ≤ 5)) → ov = some (vL 0) ∧ μ' = st μ 38 0 0 1) ∧ (((0 ≤ c ∧ c ≤ 5) ∧ ¬ (-100000000 ≤ v ∧ v ≤ 100000000)) → ov = some (vL 0) ∧ μ' = st μ 38 0 0 2) ∧ ((((0 ≤ c ∧ c ≤ 5) ∧ (-100000000 ≤ v ∧ v ≤ 100000000)) ∧ (μ 44 0 c ≠ 0 ∨ (v < 0 ∧ w64 (equityF μ c + v) < needF μ c))) → ov = some (vL 0) ∧ μ' = st μ 38 0 0 3) ∧ ((((0 ≤ c ∧ c ≤ 5) ∧ (-100000000 ≤ v ∧ v ≤ 100000000)) ∧ (μ 44 0 c = 0 ∧ (0 ≤ v ∨ ¬ w64 (equityF μ c + v) < needF μ c))) → ov = some (vL (w64 (μ 41 0 c + v))) ∧ μ' = st (st μ 38 0 0 0) 41 0 c (w64 (μ 41 0 c + v)))) → ER ov μ') : Run fam0 none cd_X5_cash ER ET 0 0 [some (vR 38 0), some (vI c), some (vI v), none, none, none] [] μ := by
  obtain ⟨hW, hX⟩ := hP
  have hW0 : Wk (st μ 38 0 0 0) := Wk_st hW (by decide)
  have hLk := hW.1
  have hLk0 := hW0.1
  have hPk := hW.2.1
  have hPk0 := hW0.2.1
  have hGk := Gk_of hLk hW.2.2.2.2
  have hGk0 := Gk_of hLk0 hW0.2.2.2.2
  have hday := hX.1
  have hloc := hX.2.1.1
  have hrec := hX.2.2.1.1
  have hl0 := hLk.1
  refine run_k 2 ?_
  show ∃ σ : Mm, cl_X5_isClient.2.2.1 σ [vI c] μ ∧ (∀ ov μ', cl_X5_isClient.2.2.2.1 σ [vI c] μ ov μ' → Run fam0 none cd_X5_cash ER ET 4 0 [some (vR 38 0), some (vI c), some (vI v), none, none, none] (ov.toList ++ []) μ') ∧ ∀ kx, cl_X5_isClient.2.2.2.2 σ [vI c] μ kx → thr cd_X5_cash ET (Run fam0 none cd_X5_cash ER ET) 1 0 [some (vR 38 0), some (vI c), some (vI v), none, none, none] μ kx
  refine ⟨μ, ⟨rfl, show True from True.intro⟩, fun ov μ' hq => ?_, fun k hk => hk.elim⟩
  obtain ⟨hov, hmu⟩ : ov = some (vI (bi (0 ≤ c ∧ c ≤ 5))) ∧ μ' = μ := hq
  rw [hov, hmu]
  show Run fam0 none cd_X5_cash ER ET 4 0 [some (vR 38 0), some (vI c), some (vI v), none, none, none] [vI (bi (0 ≤ c ∧ c ≤ 5))] μ
  refine run_k 5 ?_
  show ∃ σ : Mm, cl_X5_in.2.2.1 σ [vI v, vI (-100000000), vI 100000000] μ ∧ (∀ ov μ', cl_X5_in.2.2.2.1 σ [vI v, vI (-100000000), vI 100000000] μ ov μ' → Run fam0 none cd_X5_cash ER ET 13 0 [some (vR 38 0), some (vI c), some (vI v), some (vI (bi (0 ≤ c ∧ c ≤ 5))), none, none] (ov.toList ++ []) μ') ∧ ∀ kx, cl_X5_in.2.2.2.2 σ [vI v, vI (-100000000), vI 100000000] μ kx → thr cd_X5_cash ET (Run fam0 none cd_X5_cash ER ET) 10 0 [some (vR 38 0), some (vI c), some (vI v), some (vI (bi (0 ≤ c ∧ c ≤ 5))), none, none] μ kx
  refine ⟨μ, ⟨rfl, show True from True.intro⟩, fun ov μ' hq => ?_, fun k hk => hk.elim⟩
  obtain ⟨hov, hmu⟩ : ov = some (vI (bi ((-100000000) ≤ v ∧ v ≤ 100000000))) ∧ μ' = μ := hq
  rw [hov, hmu]
  show Run fam0 none cd_X5_cash ER ET 13 0 [some (vR 38 0), some (vI c), some (vI v), some (vI (bi (0 ≤ c ∧ c ≤ 5))), none, none] [vI (bi ((-100000000) ≤ v ∧ v ≤ 100000000))] μ
  refine run_k 3 ?_
  show ((bi (0 ≤ c ∧ c ≤ 5)) = 0 → Run fam0 none cd_X5_cash ER ET 58 0 [some (vR 38 0), some (vI c), some (vI v), some (vI (bi (0 ≤ c ∧ c ≤ 5))), some (vI (bi ((-100000000) ≤ v ∧ v ≤ 100000000))), none] [] μ) ∧ ((bi (0 ≤ c ∧ c ≤ 5)) ≠ 0 → Run fam0 none cd_X5_cash ER ET 19 0 [some (vR 38 0), some (vI c), some (vI v), some (vI (bi (0 ≤ c ∧ c ≤ 5))), some (vI (bi ((-100000000) ≤ v ∧ v ≤ 100000000))), none] [] μ)
  refine ⟨fun c3 => ?_, fun c3 => ?_⟩
  · replace c3 := (bi_e0.mp c3)
    refine run_k 5 ?_
    show ((bi (0 ≤ c ∧ c ≤ 5)) ≠ 0 → Run fam0 none cd_X5_cash ER ET 70 0 [some (vR 38 0), some (vI c), some (vI v), some (vI (bi (0 ≤ c ∧ c ≤ 5))), some (vI (bi ((-100000000) ≤ v ∧ v ≤ 100000000))), some (vI 0)] [vR 38 0] μ) ∧ ((bi (0 ≤ c ∧ c ≤ 5)) = 0 → Run fam0 none cd_X5_cash ER ET 66 0 [some (vR 38 0), some (vI c), some (vI v), some (vI (bi (0 ≤ c ∧ c ≤ 5))), some (vI (bi ((-100000000) ≤ v ∧ v ≤ 100000000))), some (vI 0)] [vR 38 0] μ)
    refine ⟨fun c4 => absurd (bi_n0.mp c4) (by omega), fun c4 => ?_⟩
    refine run_k 3 ?_
    show ∃ σ : Mm, cl_X5_refused.2.2.1 σ [vR 38 0, vI 1] μ ∧ (∀ ov μ', cl_X5_refused.2.2.2.1 σ [vR 38 0, vI 1] μ ov μ' → Run fam0 none cd_X5_cash ER ET 92 0 [some (vR 38 0), some (vI c), some (vI v), some (vI (bi (0 ≤ c ∧ c ≤ 5))), some (vI (bi ((-100000000) ≤ v ∧ v ≤ 100000000))), some (vI 0)] (ov.toList ++ []) μ') ∧ ∀ kx, cl_X5_refused.2.2.2.2 σ [vR 38 0, vI 1] μ kx → thr cd_X5_cash ET (Run fam0 none cd_X5_cash ER ET) 89 0 [some (vR 38 0), some (vI c), some (vI v), some (vI (bi (0 ≤ c ∧ c ≤ 5))), some (vI (bi ((-100000000) ≤ v ∧ v ≤ 100000000))), some (vI 0)] μ kx
    refine ⟨μ, ⟨rfl, show True from True.intro⟩, fun ov μ' hq => ?_, fun k hk => hk.elim⟩
    obtain ⟨hov, hmu⟩ : ov = some (vI 1) ∧ μ' = st μ 38 0 0 1 := hq
    rw [hov, hmu]
    show Run fam0 none cd_X5_cash ER ET 92 0 [some (vR 38 0), some (vI c), some (vI v), some (vI (bi (0 ≤ c ∧ c ≤ 5))), some (vI (bi ((-100000000) ≤ v ∧ v ≤ 100000000))), some (vI 0)] [vI 1] (st μ 38 0 0 1)
    refine run_k 1 ?_
    show (1 = 0 → Run fam0 none cd_X5_cash ER ET 97 0 [some (vR 38 0), some (vI c), some (vI v), some (vI (bi (0 ≤ c ∧ c ≤ 5))), some (vI (bi ((-100000000) ≤ v ∧ v ≤ 100000000))), some (vI 0)] [] (st μ 38 0 0 1)) ∧ (1 ≠ 0 → Run fam0 none cd_X5_cash ER ET 95 0 [some (vR 38 0), some (vI c), some (vI v), some (vI (bi (0 ≤ c ∧ c ≤ 5))), some (vI (bi ((-100000000) ≤ v ∧ v ≤ 100000000))), some (vI 0)] [] (st μ 38 0 0 1))
    refine ⟨fun c6 => absurd c6 (by decide), fun c6 => ?_⟩
    refine run_k 2 ?_
    show ER (some (vL 0)) (st μ 38 0 0 1)
    refine hER _ _ ⟨fun h => ?_, fun h => ?_, fun h => ?_, fun h => ?_⟩ <;> first | (exfalso; omega) | exact ⟨by rw [st_s], rfl⟩ | exact ⟨rfl, rfl⟩
  · replace c3 := (bi_n0.mp c3)
    refine run_k 2 ?_
    show ((bi ((-100000000) ≤ v ∧ v ≤ 100000000)) = 0 → Run fam0 none cd_X5_cash ER ET 58 0 [some (vR 38 0), some (vI c), some (vI v), some (vI (bi (0 ≤ c ∧ c ≤ 5))), some (vI (bi ((-100000000) ≤ v ∧ v ≤ 100000000))), none] [] μ) ∧ ((bi ((-100000000) ≤ v ∧ v ≤ 100000000)) ≠ 0 → Run fam0 none cd_X5_cash ER ET 24 0 [some (vR 38 0), some (vI c), some (vI v), some (vI (bi (0 ≤ c ∧ c ≤ 5))), some (vI (bi ((-100000000) ≤ v ∧ v ≤ 100000000))), none] [] μ)
    refine ⟨fun c8 => ?_, fun c8 => ?_⟩
    · replace c8 := (bi_e0.mp c8)
      refine run_k 5 ?_
      show ((bi (0 ≤ c ∧ c ≤ 5)) ≠ 0 → Run fam0 none cd_X5_cash ER ET 70 0 [some (vR 38 0), some (vI c), some (vI v), some (vI (bi (0 ≤ c ∧ c ≤ 5))), some (vI (bi ((-100000000) ≤ v ∧ v ≤ 100000000))), some (vI 0)] [vR 38 0] μ) ∧ ((bi (0 ≤ c ∧ c ≤ 5)) = 0 → Run fam0 none cd_X5_cash ER ET 66 0 [some (vR 38 0), some (vI c), some (vI v), some (vI (bi (0 ≤ c ∧ c ≤ 5))), some (vI (bi ((-100000000) ≤ v ∧ v ≤ 100000000))), some (vI 0)] [vR 38 0] μ)
      refine ⟨fun c9 => ?_, fun c9 => absurd (bi_e0.mp c9) (by omega)⟩
      refine run_k 2 ?_
      show ((bi ((-100000000) ≤ v ∧ v ≤ 100000000)) ≠ 0 → Run fam0 none cd_X5_cash ER ET 79 0 [some (vR 38 0), some (vI c), some (vI v), some (vI (bi (0 ≤ c ∧ c ≤ 5))), some (vI (bi ((-100000000) ≤ v ∧ v ≤ 100000000))), some (vI 0)] [vR 38 0] μ) ∧ ((bi ((-100000000) ≤ v ∧ v ≤ 100000000)) = 0 → Run fam0 none cd_X5_cash ER ET 75 0 [some (vR 38 0), some (vI c), some (vI v), some (vI (bi (0 ≤ c ∧ c ≤ 5))), some (vI (bi ((-100000000) ≤ v ∧ v ≤ 100000000))), some (vI 0)] [vR 38 0] μ)
      refine ⟨fun c10 => absurd (bi_n0.mp c10) (by omega), fun c10 => ?_⟩
      refine run_k 3 ?_
      show ∃ σ : Mm, cl_X5_refused.2.2.1 σ [vR 38 0, vI 2] μ ∧ (∀ ov μ', cl_X5_refused.2.2.2.1 σ [vR 38 0, vI 2] μ ov μ' → Run fam0 none cd_X5_cash ER ET 92 0 [some (vR 38 0), some (vI c), some (vI v), some (vI (bi (0 ≤ c ∧ c ≤ 5))), some (vI (bi ((-100000000) ≤ v ∧ v ≤ 100000000))), some (vI 0)] (ov.toList ++ []) μ') ∧ ∀ kx, cl_X5_refused.2.2.2.2 σ [vR 38 0, vI 2] μ kx → thr cd_X5_cash ET (Run fam0 none cd_X5_cash ER ET) 89 0 [some (vR 38 0), some (vI c), some (vI v), some (vI (bi (0 ≤ c ∧ c ≤ 5))), some (vI (bi ((-100000000) ≤ v ∧ v ≤ 100000000))), some (vI 0)] μ kx
      refine ⟨μ, ⟨rfl, show True from True.intro⟩, fun ov μ' hq => ?_, fun k hk => hk.elim⟩
      obtain ⟨hov, hmu⟩ : ov = some (vI 1) ∧ μ' = st μ 38 0 0 2 := hq
      rw [hov, hmu]
      show Run fam0 none cd_X5_cash ER ET 92 0 [some (vR 38 0), some (vI c), some (vI v), some (vI (bi (0 ≤ c ∧ c ≤ 5))), some (vI (bi ((-100000000) ≤ v ∧ v ≤ 100000000))), some (vI 0)] [vI 1] (st μ 38 0 0 2)
      refine run_k 1 ?_
      show (1 = 0 → Run fam0 none cd_X5_cash ER ET 97 0 [some (vR 38 0), some (vI c), some (vI v), some (vI (bi (0 ≤ c ∧ c ≤ 5))), some (vI (bi ((-100000000) ≤ v ∧ v ≤ 100000000))), some (vI 0)] [] (st μ 38 0 0 2)) ∧ (1 ≠ 0 → Run fam0 none cd_X5_cash ER ET 95 0 [some (vR 38 0), some (vI c), some (vI v), some (vI (bi (0 ≤ c ∧ c ≤ 5))), some (vI (bi ((-100000000) ≤ v ∧ v ≤ 100000000))), some (vI 0)] [] (st μ 38 0 0 2))
      refine ⟨fun c12 => absurd c12 (by decide), fun c12 => ?_⟩
      refine run_k 2 ?_
      show ER (some (vL 0)) (st μ 38 0 0 2)
      refine hER _ _ ⟨fun h => ?_, fun h => ?_, fun h => ?_, fun h => ?_⟩ <;> first | (exfalso; omega) | exact ⟨by rw [st_s], rfl⟩ | exact ⟨rfl, rfl⟩
    · replace c8 := (bi_n0.mp c8)
      refine run_k 5 ?_
      show (0 ≤ c ∧ c < 6) ∧ (((μ 44 0 c) ≠ 0 → Run fam0 none cd_X5_cash ER ET 58 0 [some (vR 38 0), some (vI c), some (vI v), some (vI (bi (0 ≤ c ∧ c ≤ 5))), some (vI (bi ((-100000000) ≤ v ∧ v ≤ 100000000))), none] [] μ) ∧ ((μ 44 0 c) = 0 → Run fam0 none cd_X5_cash ER ET 33 0 [some (vR 38 0), some (vI c), some (vI v), some (vI (bi (0 ≤ c ∧ c ≤ 5))), some (vI (bi ((-100000000) ≤ v ∧ v ≤ 100000000))), none] [] μ))
      refine ⟨by omega, ?_⟩
      refine ⟨fun c14 => ?_, fun c14 => ?_⟩
      · refine run_k 5 ?_
        show ((bi (0 ≤ c ∧ c ≤ 5)) ≠ 0 → Run fam0 none cd_X5_cash ER ET 70 0 [some (vR 38 0), some (vI c), some (vI v), some (vI (bi (0 ≤ c ∧ c ≤ 5))), some (vI (bi ((-100000000) ≤ v ∧ v ≤ 100000000))), some (vI 0)] [vR 38 0] μ) ∧ ((bi (0 ≤ c ∧ c ≤ 5)) = 0 → Run fam0 none cd_X5_cash ER ET 66 0 [some (vR 38 0), some (vI c), some (vI v), some (vI (bi (0 ≤ c ∧ c ≤ 5))), some (vI (bi ((-100000000) ≤ v ∧ v ≤ 100000000))), some (vI 0)] [vR 38 0] μ)
        refine ⟨fun c15 => ?_, fun c15 => absurd (bi_e0.mp c15) (by omega)⟩
        refine run_k 2 ?_
        show ((bi ((-100000000) ≤ v ∧ v ≤ 100000000)) ≠ 0 → Run fam0 none cd_X5_cash ER ET 79 0 [some (vR 38 0), some (vI c), some (vI v), some (vI (bi (0 ≤ c ∧ c ≤ 5))), some (vI (bi ((-100000000) ≤ v ∧ v ≤ 100000000))), some (vI 0)] [vR 38 0] μ) ∧ ((bi ((-100000000) ≤ v ∧ v ≤ 100000000)) = 0 → Run fam0 none cd_X5_cash ER ET 75 0 [some (vR 38 0), some (vI c), some (vI v), some (vI (bi (0 ≤ c ∧ c ≤ 5))), some (vI (bi ((-100000000) ≤ v ∧ v ≤ 100000000))), some (vI 0)] [vR 38 0] μ)
        refine ⟨fun c16 => ?_, fun c16 => absurd (bi_e0.mp c16) (by omega)⟩
        refine run_k 2 ?_
        show (0 = 0 → Run fam0 none cd_X5_cash ER ET 88 0 [some (vR 38 0), some (vI c), some (vI v), some (vI (bi (0 ≤ c ∧ c ≤ 5))), some (vI (bi ((-100000000) ≤ v ∧ v ≤ 100000000))), some (vI 0)] [vR 38 0] μ) ∧ (0 ≠ 0 → Run fam0 none cd_X5_cash ER ET 84 0 [some (vR 38 0), some (vI c), some (vI v), some (vI (bi (0 ≤ c ∧ c ≤ 5))), some (vI (bi ((-100000000) ≤ v ∧ v ≤ 100000000))), some (vI 0)] [vR 38 0] μ)
        refine ⟨fun c17 => ?_, fun c17 => absurd c17 (by decide)⟩
        refine run_k 2 ?_
        show ∃ σ : Mm, cl_X5_refused.2.2.1 σ [vR 38 0, vI 3] μ ∧ (∀ ov μ', cl_X5_refused.2.2.2.1 σ [vR 38 0, vI 3] μ ov μ' → Run fam0 none cd_X5_cash ER ET 92 0 [some (vR 38 0), some (vI c), some (vI v), some (vI (bi (0 ≤ c ∧ c ≤ 5))), some (vI (bi ((-100000000) ≤ v ∧ v ≤ 100000000))), some (vI 0)] (ov.toList ++ []) μ') ∧ ∀ kx, cl_X5_refused.2.2.2.2 σ [vR 38 0, vI 3] μ kx → thr cd_X5_cash ET (Run fam0 none cd_X5_cash ER ET) 89 0 [some (vR 38 0), some (vI c), some (vI v), some (vI (bi (0 ≤ c ∧ c ≤ 5))), some (vI (bi ((-100000000) ≤ v ∧ v ≤ 100000000))), some (vI 0)] μ kx
        refine ⟨μ, ⟨rfl, show True from True.intro⟩, fun ov μ' hq => ?_, fun k hk => hk.elim⟩
        obtain ⟨hov, hmu⟩ : ov = some (vI 1) ∧ μ' = st μ 38 0 0 3 := hq
        rw [hov, hmu]
        show Run fam0 none cd_X5_cash ER ET 92 0 [some (vR 38 0), some (vI c), some (vI v), some (vI (bi (0 ≤ c ∧ c ≤ 5))), some (vI (bi ((-100000000) ≤ v ∧ v ≤ 100000000))), some (vI 0)] [vI 1] (st μ 38 0 0 3)
        refine run_k 1 ?_
        show (1 = 0 → Run fam0 none cd_X5_cash ER ET 97 0 [some (vR 38 0), some (vI c), some (vI v), some (vI (bi (0 ≤ c ∧ c ≤ 5))), some (vI (bi ((-100000000) ≤ v ∧ v ≤ 100000000))), some (vI 0)] [] (st μ 38 0 0 3)) ∧ (1 ≠ 0 → Run fam0 none cd_X5_cash ER ET 95 0 [some (vR 38 0), some (vI c), some (vI v), some (vI (bi (0 ≤ c ∧ c ≤ 5))), some (vI (bi ((-100000000) ≤ v ∧ v ≤ 100000000))), some (vI 0)] [] (st μ 38 0 0 3))
        refine ⟨fun c19 => absurd c19 (by decide), fun c19 => ?_⟩
        refine run_k 2 ?_
        show ER (some (vL 0)) (st μ 38 0 0 3)
        refine hER _ _ ⟨fun h => ?_, fun h => ?_, fun h => ?_, fun h => ?_⟩ <;> first | (exfalso; omega) | exact ⟨by rw [st_s], rfl⟩ | exact ⟨rfl, rfl⟩
      · refine run_k 2 ?_
        show (0 ≤ v → Run fam0 none cd_X5_cash ER ET 54 0 [some (vR 38 0), some (vI c), some (vI v), some (vI (bi (0 ≤ c ∧ c ≤ 5))), some (vI (bi ((-100000000) ≤ v ∧ v ≤ 100000000))), none] [] μ) ∧ (v < 0 → Run fam0 none cd_X5_cash ER ET 37 0 [some (vR 38 0), some (vI c), some (vI v), some (vI (bi (0 ≤ c ∧ c ≤ 5))), some (vI (bi ((-100000000) ≤ v ∧ v ≤ 100000000))), none] [] μ)
        refine ⟨fun c21 => ?_, fun c21 => ?_⟩
        · refine run_k 6 ?_
          show ((bi (0 ≤ c ∧ c ≤ 5)) ≠ 0 → Run fam0 none cd_X5_cash ER ET 70 0 [some (vR 38 0), some (vI c), some (vI v), some (vI (bi (0 ≤ c ∧ c ≤ 5))), some (vI (bi ((-100000000) ≤ v ∧ v ≤ 100000000))), some (vI 1)] [vR 38 0] μ) ∧ ((bi (0 ≤ c ∧ c ≤ 5)) = 0 → Run fam0 none cd_X5_cash ER ET 66 0 [some (vR 38 0), some (vI c), some (vI v), some (vI (bi (0 ≤ c ∧ c ≤ 5))), some (vI (bi ((-100000000) ≤ v ∧ v ≤ 100000000))), some (vI 1)] [vR 38 0] μ)
          refine ⟨fun c22 => ?_, fun c22 => absurd (bi_e0.mp c22) (by omega)⟩
          refine run_k 2 ?_
          show ((bi ((-100000000) ≤ v ∧ v ≤ 100000000)) ≠ 0 → Run fam0 none cd_X5_cash ER ET 79 0 [some (vR 38 0), some (vI c), some (vI v), some (vI (bi (0 ≤ c ∧ c ≤ 5))), some (vI (bi ((-100000000) ≤ v ∧ v ≤ 100000000))), some (vI 1)] [vR 38 0] μ) ∧ ((bi ((-100000000) ≤ v ∧ v ≤ 100000000)) = 0 → Run fam0 none cd_X5_cash ER ET 75 0 [some (vR 38 0), some (vI c), some (vI v), some (vI (bi (0 ≤ c ∧ c ≤ 5))), some (vI (bi ((-100000000) ≤ v ∧ v ≤ 100000000))), some (vI 1)] [vR 38 0] μ)
          refine ⟨fun c23 => ?_, fun c23 => absurd (bi_e0.mp c23) (by omega)⟩
          refine run_k 2 ?_
          show (1 = 0 → Run fam0 none cd_X5_cash ER ET 88 0 [some (vR 38 0), some (vI c), some (vI v), some (vI (bi (0 ≤ c ∧ c ≤ 5))), some (vI (bi ((-100000000) ≤ v ∧ v ≤ 100000000))), some (vI 1)] [vR 38 0] μ) ∧ (1 ≠ 0 → Run fam0 none cd_X5_cash ER ET 84 0 [some (vR 38 0), some (vI c), some (vI v), some (vI (bi (0 ≤ c ∧ c ≤ 5))), some (vI (bi ((-100000000) ≤ v ∧ v ≤ 100000000))), some (vI 1)] [vR 38 0] μ)
          refine ⟨fun c24 => absurd c24 (by decide), fun c24 => ?_⟩
          refine run_k 3 ?_
          show ∃ σ : Mm, cl_X5_refused.2.2.1 σ [vR 38 0, vI 0] μ ∧ (∀ ov μ', cl_X5_refused.2.2.2.1 σ [vR 38 0, vI 0] μ ov μ' → Run fam0 none cd_X5_cash ER ET 92 0 [some (vR 38 0), some (vI c), some (vI v), some (vI (bi (0 ≤ c ∧ c ≤ 5))), some (vI (bi ((-100000000) ≤ v ∧ v ≤ 100000000))), some (vI 1)] (ov.toList ++ []) μ') ∧ ∀ kx, cl_X5_refused.2.2.2.2 σ [vR 38 0, vI 0] μ kx → thr cd_X5_cash ET (Run fam0 none cd_X5_cash ER ET) 89 0 [some (vR 38 0), some (vI c), some (vI v), some (vI (bi (0 ≤ c ∧ c ≤ 5))), some (vI (bi ((-100000000) ≤ v ∧ v ≤ 100000000))), some (vI 1)] μ kx
          refine ⟨μ, ⟨rfl, show True from True.intro⟩, fun ov μ' hq => ?_, fun k hk => hk.elim⟩
          obtain ⟨hov, hmu⟩ : ov = some (vI 0) ∧ μ' = st μ 38 0 0 0 := hq
          rw [hov, hmu]
          show Run fam0 none cd_X5_cash ER ET 92 0 [some (vR 38 0), some (vI c), some (vI v), some (vI (bi (0 ≤ c ∧ c ≤ 5))), some (vI (bi ((-100000000) ≤ v ∧ v ≤ 100000000))), some (vI 1)] [vI 0] (st μ 38 0 0 0)
          refine run_k 1 ?_
          show (0 = 0 → Run fam0 none cd_X5_cash ER ET 97 0 [some (vR 38 0), some (vI c), some (vI v), some (vI (bi (0 ≤ c ∧ c ≤ 5))), some (vI (bi ((-100000000) ≤ v ∧ v ≤ 100000000))), some (vI 1)] [] (st μ 38 0 0 0)) ∧ (0 ≠ 0 → Run fam0 none cd_X5_cash ER ET 95 0 [some (vR 38 0), some (vI c), some (vI v), some (vI (bi (0 ≤ c ∧ c ≤ 5))), some (vI (bi ((-100000000) ≤ v ∧ v ≤ 100000000))), some (vI 1)] [] (st μ 38 0 0 0))
          refine ⟨fun c26 => ?_, fun c26 => absurd c26 (by decide)⟩
          refine run_k 14 ?_
          show (0 ≤ c ∧ c < 6) ∧ ((0 ≤ c ∧ c < 6) ∧ ((0 ≤ c ∧ c < 6) ∧ (ER (some (vL ((st (st μ 38 0 0 0) 41 0 c (w64 ((μ 41 0 c) + v))) 41 0 c))) (st (st μ 38 0 0 0) 41 0 c (w64 ((μ 41 0 c) + v))))))
          refine ⟨by omega, ?_⟩
          refine ⟨by omega, ?_⟩
          refine ⟨by omega, ?_⟩
          refine hER _ _ ⟨fun h => ?_, fun h => ?_, fun h => ?_, fun h => ?_⟩ <;> first | (exfalso; omega) | exact ⟨by rw [st_s], rfl⟩ | exact ⟨rfl, rfl⟩
        · refine run_k 3 ?_
          show ∃ σ : Mm, cl_X5_equity.2.2.1 σ [vR 38 0, vI c] μ ∧ (∀ ov μ', cl_X5_equity.2.2.2.1 σ [vR 38 0, vI c] μ ov μ' → Run fam0 none cd_X5_cash ER ET 42 0 [some (vR 38 0), some (vI c), some (vI v), some (vI (bi (0 ≤ c ∧ c ≤ 5))), some (vI (bi ((-100000000) ≤ v ∧ v ≤ 100000000))), none] (ov.toList ++ []) μ') ∧ ∀ kx, cl_X5_equity.2.2.2.2 σ [vR 38 0, vI c] μ kx → thr cd_X5_cash ET (Run fam0 none cd_X5_cash ER ET) 39 0 [some (vR 38 0), some (vI c), some (vI v), some (vI (bi (0 ≤ c ∧ c ≤ 5))), some (vI (bi ((-100000000) ≤ v ∧ v ≤ 100000000))), none] μ kx
          refine ⟨μ, ⟨rfl, show (0 ≤ c ∧ c ≤ 5) from by omega⟩, fun ov μ' hq => ?_, fun k hk => hk.elim⟩
          obtain ⟨hov, hmu⟩ : ov = some (vL (equityF μ c)) ∧ μ' = μ := hq
          rw [hov, hmu]
          show Run fam0 none cd_X5_cash ER ET 42 0 [some (vR 38 0), some (vI c), some (vI v), some (vI (bi (0 ≤ c ∧ c ≤ 5))), some (vI (bi ((-100000000) ≤ v ∧ v ≤ 100000000))), none] [vL (equityF μ c)] μ
          refine run_k 6 ?_
          show ∃ σ : Mm, cl_X5_need.2.2.1 σ [vR 38 0, vI c] μ ∧ (∀ ov μ', cl_X5_need.2.2.2.1 σ [vR 38 0, vI c] μ ov μ' → Run fam0 none cd_X5_cash ER ET 50 0 [some (vR 38 0), some (vI c), some (vI v), some (vI (bi (0 ≤ c ∧ c ≤ 5))), some (vI (bi ((-100000000) ≤ v ∧ v ≤ 100000000))), none] (ov.toList ++ [vL (w64 ((equityF μ c) + v))]) μ') ∧ ∀ kx, cl_X5_need.2.2.2.2 σ [vR 38 0, vI c] μ kx → thr cd_X5_cash ET (Run fam0 none cd_X5_cash ER ET) 47 0 [some (vR 38 0), some (vI c), some (vI v), some (vI (bi (0 ≤ c ∧ c ≤ 5))), some (vI (bi ((-100000000) ≤ v ∧ v ≤ 100000000))), none] μ kx
          refine ⟨μ, ⟨rfl, show (0 ≤ c ∧ c ≤ 5) from by omega⟩, fun ov μ' hq => ?_, fun k hk => hk.elim⟩
          obtain ⟨hov, hmu⟩ : ov = some (vL (needF μ c)) ∧ μ' = μ := hq
          rw [hov, hmu]
          show Run fam0 none cd_X5_cash ER ET 50 0 [some (vR 38 0), some (vI c), some (vI v), some (vI (bi (0 ≤ c ∧ c ≤ 5))), some (vI (bi ((-100000000) ≤ v ∧ v ≤ 100000000))), none] [vL (needF μ c), vL (w64 ((equityF μ c) + v))] μ
          refine run_k 2 ?_
          show ((cmpL (w64 ((equityF μ c) + v)) (needF μ c)) < 0 → Run fam0 none cd_X5_cash ER ET 58 0 [some (vR 38 0), some (vI c), some (vI v), some (vI (bi (0 ≤ c ∧ c ≤ 5))), some (vI (bi ((-100000000) ≤ v ∧ v ≤ 100000000))), none] [] μ) ∧ (0 ≤ (cmpL (w64 ((equityF μ c) + v)) (needF μ c)) → Run fam0 none cd_X5_cash ER ET 54 0 [some (vR 38 0), some (vI c), some (vI v), some (vI (bi (0 ≤ c ∧ c ≤ 5))), some (vI (bi ((-100000000) ≤ v ∧ v ≤ 100000000))), none] [] μ)
          refine ⟨fun c30 => ?_, fun c30 => ?_⟩
          · replace c30 := cmpL_n.mp c30
            refine run_k 5 ?_
            show ((bi (0 ≤ c ∧ c ≤ 5)) ≠ 0 → Run fam0 none cd_X5_cash ER ET 70 0 [some (vR 38 0), some (vI c), some (vI v), some (vI (bi (0 ≤ c ∧ c ≤ 5))), some (vI (bi ((-100000000) ≤ v ∧ v ≤ 100000000))), some (vI 0)] [vR 38 0] μ) ∧ ((bi (0 ≤ c ∧ c ≤ 5)) = 0 → Run fam0 none cd_X5_cash ER ET 66 0 [some (vR 38 0), some (vI c), some (vI v), some (vI (bi (0 ≤ c ∧ c ≤ 5))), some (vI (bi ((-100000000) ≤ v ∧ v ≤ 100000000))), some (vI 0)] [vR 38 0] μ)
            refine ⟨fun c31 => ?_, fun c31 => absurd (bi_e0.mp c31) (by omega)⟩
            refine run_k 2 ?_
            show ((bi ((-100000000) ≤ v ∧ v ≤ 100000000)) ≠ 0 → Run fam0 none cd_X5_cash ER ET 79 0 [some (vR 38 0), some (vI c), some (vI v), some (vI (bi (0 ≤ c ∧ c ≤ 5))), some (vI (bi ((-100000000) ≤ v ∧ v ≤ 100000000))), some (vI 0)] [vR 38 0] μ) ∧ ((bi ((-100000000) ≤ v ∧ v ≤ 100000000)) = 0 → Run fam0 none cd_X5_cash ER ET 75 0 [some (vR 38 0), some (vI c), some (vI v), some (vI (bi (0 ≤ c ∧ c ≤ 5))), some (vI (bi ((-100000000) ≤ v ∧ v ≤ 100000000))), some (vI 0)] [vR 38 0] μ)
            refine ⟨fun c32 => ?_, fun c32 => absurd (bi_e0.mp c32) (by omega)⟩
            refine run_k 2 ?_
            show (0 = 0 → Run fam0 none cd_X5_cash ER ET 88 0 [some (vR 38 0), some (vI c), some (vI v), some (vI (bi (0 ≤ c ∧ c ≤ 5))), some (vI (bi ((-100000000) ≤ v ∧ v ≤ 100000000))), some (vI 0)] [vR 38 0] μ) ∧ (0 ≠ 0 → Run fam0 none cd_X5_cash ER ET 84 0 [some (vR 38 0), some (vI c), some (vI v), some (vI (bi (0 ≤ c ∧ c ≤ 5))), some (vI (bi ((-100000000) ≤ v ∧ v ≤ 100000000))), some (vI 0)] [vR 38 0] μ)
            refine ⟨fun c33 => ?_, fun c33 => absurd c33 (by decide)⟩
            refine run_k 2 ?_
            show ∃ σ : Mm, cl_X5_refused.2.2.1 σ [vR 38 0, vI 3] μ ∧ (∀ ov μ', cl_X5_refused.2.2.2.1 σ [vR 38 0, vI 3] μ ov μ' → Run fam0 none cd_X5_cash ER ET 92 0 [some (vR 38 0), some (vI c), some (vI v), some (vI (bi (0 ≤ c ∧ c ≤ 5))), some (vI (bi ((-100000000) ≤ v ∧ v ≤ 100000000))), some (vI 0)] (ov.toList ++ []) μ') ∧ ∀ kx, cl_X5_refused.2.2.2.2 σ [vR 38 0, vI 3] μ kx → thr cd_X5_cash ET (Run fam0 none cd_X5_cash ER ET) 89 0 [some (vR 38 0), some (vI c), some (vI v), some (vI (bi (0 ≤ c ∧ c ≤ 5))), some (vI (bi ((-100000000) ≤ v ∧ v ≤ 100000000))), some (vI 0)] μ kx
            refine ⟨μ, ⟨rfl, show True from True.intro⟩, fun ov μ' hq => ?_, fun k hk => hk.elim⟩
            obtain ⟨hov, hmu⟩ : ov = some (vI 1) ∧ μ' = st μ 38 0 0 3 := hq
            rw [hov, hmu]
            show Run fam0 none cd_X5_cash ER ET 92 0 [some (vR 38 0), some (vI c), some (vI v), some (vI (bi (0 ≤ c ∧ c ≤ 5))), some (vI (bi ((-100000000) ≤ v ∧ v ≤ 100000000))), some (vI 0)] [vI 1] (st μ 38 0 0 3)
            refine run_k 1 ?_
            show (1 = 0 → Run fam0 none cd_X5_cash ER ET 97 0 [some (vR 38 0), some (vI c), some (vI v), some (vI (bi (0 ≤ c ∧ c ≤ 5))), some (vI (bi ((-100000000) ≤ v ∧ v ≤ 100000000))), some (vI 0)] [] (st μ 38 0 0 3)) ∧ (1 ≠ 0 → Run fam0 none cd_X5_cash ER ET 95 0 [some (vR 38 0), some (vI c), some (vI v), some (vI (bi (0 ≤ c ∧ c ≤ 5))), some (vI (bi ((-100000000) ≤ v ∧ v ≤ 100000000))), some (vI 0)] [] (st μ 38 0 0 3))
            refine ⟨fun c35 => absurd c35 (by decide), fun c35 => ?_⟩
            refine run_k 2 ?_
            show ER (some (vL 0)) (st μ 38 0 0 3)
            refine hER _ _ ⟨fun h => ?_, fun h => ?_, fun h => ?_, fun h => ?_⟩ <;> first | (exfalso; omega) | exact ⟨by rw [st_s], rfl⟩ | exact ⟨rfl, rfl⟩
          · replace c30 := (show ¬ _ from fun q => (Int.not_lt.mpr c30) (cmpL_n.mpr q))
            refine run_k 6 ?_
            show ((bi (0 ≤ c ∧ c ≤ 5)) ≠ 0 → Run fam0 none cd_X5_cash ER ET 70 0 [some (vR 38 0), some (vI c), some (vI v), some (vI (bi (0 ≤ c ∧ c ≤ 5))), some (vI (bi ((-100000000) ≤ v ∧ v ≤ 100000000))), some (vI 1)] [vR 38 0] μ) ∧ ((bi (0 ≤ c ∧ c ≤ 5)) = 0 → Run fam0 none cd_X5_cash ER ET 66 0 [some (vR 38 0), some (vI c), some (vI v), some (vI (bi (0 ≤ c ∧ c ≤ 5))), some (vI (bi ((-100000000) ≤ v ∧ v ≤ 100000000))), some (vI 1)] [vR 38 0] μ)
            refine ⟨fun c37 => ?_, fun c37 => absurd (bi_e0.mp c37) (by omega)⟩
            refine run_k 2 ?_
            show ((bi ((-100000000) ≤ v ∧ v ≤ 100000000)) ≠ 0 → Run fam0 none cd_X5_cash ER ET 79 0 [some (vR 38 0), some (vI c), some (vI v), some (vI (bi (0 ≤ c ∧ c ≤ 5))), some (vI (bi ((-100000000) ≤ v ∧ v ≤ 100000000))), some (vI 1)] [vR 38 0] μ) ∧ ((bi ((-100000000) ≤ v ∧ v ≤ 100000000)) = 0 → Run fam0 none cd_X5_cash ER ET 75 0 [some (vR 38 0), some (vI c), some (vI v), some (vI (bi (0 ≤ c ∧ c ≤ 5))), some (vI (bi ((-100000000) ≤ v ∧ v ≤ 100000000))), some (vI 1)] [vR 38 0] μ)
            refine ⟨fun c38 => ?_, fun c38 => absurd (bi_e0.mp c38) (by omega)⟩
            refine run_k 2 ?_
            show (1 = 0 → Run fam0 none cd_X5_cash ER ET 88 0 [some (vR 38 0), some (vI c), some (vI v), some (vI (bi (0 ≤ c ∧ c ≤ 5))), some (vI (bi ((-100000000) ≤ v ∧ v ≤ 100000000))), some (vI 1)] [vR 38 0] μ) ∧ (1 ≠ 0 → Run fam0 none cd_X5_cash ER ET 84 0 [some (vR 38 0), some (vI c), some (vI v), some (vI (bi (0 ≤ c ∧ c ≤ 5))), some (vI (bi ((-100000000) ≤ v ∧ v ≤ 100000000))), some (vI 1)] [vR 38 0] μ)
            refine ⟨fun c39 => absurd c39 (by decide), fun c39 => ?_⟩
            refine run_k 3 ?_
            show ∃ σ : Mm, cl_X5_refused.2.2.1 σ [vR 38 0, vI 0] μ ∧ (∀ ov μ', cl_X5_refused.2.2.2.1 σ [vR 38 0, vI 0] μ ov μ' → Run fam0 none cd_X5_cash ER ET 92 0 [some (vR 38 0), some (vI c), some (vI v), some (vI (bi (0 ≤ c ∧ c ≤ 5))), some (vI (bi ((-100000000) ≤ v ∧ v ≤ 100000000))), some (vI 1)] (ov.toList ++ []) μ') ∧ ∀ kx, cl_X5_refused.2.2.2.2 σ [vR 38 0, vI 0] μ kx → thr cd_X5_cash ET (Run fam0 none cd_X5_cash ER ET) 89 0 [some (vR 38 0), some (vI c), some (vI v), some (vI (bi (0 ≤ c ∧ c ≤ 5))), some (vI (bi ((-100000000) ≤ v ∧ v ≤ 100000000))), some (vI 1)] μ kx
            refine ⟨μ, ⟨rfl, show True from True.intro⟩, fun ov μ' hq => ?_, fun k hk => hk.elim⟩
            obtain ⟨hov, hmu⟩ : ov = some (vI 0) ∧ μ' = st μ 38 0 0 0 := hq
            rw [hov, hmu]
            show Run fam0 none cd_X5_cash ER ET 92 0 [some (vR 38 0), some (vI c), some (vI v), some (vI (bi (0 ≤ c ∧ c ≤ 5))), some (vI (bi ((-100000000) ≤ v ∧ v ≤ 100000000))), some (vI 1)] [vI 0] (st μ 38 0 0 0)
            refine run_k 1 ?_
            show (0 = 0 → Run fam0 none cd_X5_cash ER ET 97 0 [some (vR 38 0), some (vI c), some (vI v), some (vI (bi (0 ≤ c ∧ c ≤ 5))), some (vI (bi ((-100000000) ≤ v ∧ v ≤ 100000000))), some (vI 1)] [] (st μ 38 0 0 0)) ∧ (0 ≠ 0 → Run fam0 none cd_X5_cash ER ET 95 0 [some (vR 38 0), some (vI c), some (vI v), some (vI (bi (0 ≤ c ∧ c ≤ 5))), some (vI (bi ((-100000000) ≤ v ∧ v ≤ 100000000))), some (vI 1)] [] (st μ 38 0 0 0))
            refine ⟨fun c41 => ?_, fun c41 => absurd c41 (by decide)⟩
            refine run_k 14 ?_
            show (0 ≤ c ∧ c < 6) ∧ ((0 ≤ c ∧ c < 6) ∧ ((0 ≤ c ∧ c < 6) ∧ (ER (some (vL ((st (st μ 38 0 0 0) 41 0 c (w64 ((μ 41 0 c) + v))) 41 0 c))) (st (st μ 38 0 0 0) 41 0 c (w64 ((μ 41 0 c) + v))))))
            refine ⟨by omega, ?_⟩
            refine ⟨by omega, ?_⟩
            refine ⟨by omega, ?_⟩
            refine hER _ _ ⟨fun h => ?_, fun h => ?_, fun h => ?_, fun h => ?_⟩ <;> first | (exfalso; omega) | exact ⟨by rw [st_s], rfl⟩ | exact ⟨rfl, rfl⟩
set_option maxRecDepth 20000 in
theorem con_X5_cash (l : Launch) (htr : l.stackTraces = false) (σ : Mm) : CON fam0 63 l yX5_cash (Cond.code yX5_cash cX5_cash 6 (some .long) :: wm) 2 52 0 (cl_X5_cash.2.2.1 σ) (cl_X5_cash.2.2.2.1 σ) (cl_X5_cash.2.2.2.2 σ) :=
  con_of (cd := cd_X5_cash) (own := RX5) (rk := 2) (sc_of htr (by decide) k_X5_cash_ok (by decide +kernel) co_X5_ok fl_X5_ok (all_cons ⟨RX5, yX5_equity, cX5_equity, 5, (some .long), 0, 0, 1, con_X5_equity l htr, rfl, vw_X5_138, ⟨rfl, by decide, by decide, by decide +kernel⟩, ⟨by decide, by decide⟩, fun σ as μ h => ⟨38, 0, _, h.1, rfl, TX5, 31, rfl⟩⟩ (all_cons ⟨RX5, yX5_need, cX5_need, 9, (some .long), 1, 24, 1, con_X5_need l htr, rfl, vw_X5_142, ⟨rfl, by decide, by decide, by decide +kernel⟩, ⟨by decide, by decide⟩, fun σ as μ h => ⟨38, 0, _, h.1, rfl, TX5, 31, rfl⟩⟩ (all_cons ⟨RX5, yX5_refused, cX5_refused, 2, (some .boolean), 0, 0, 1, con_X5_refused l htr, rfl, vw_X5_127, ⟨rfl, by decide, by decide, by decide +kernel⟩, ⟨by decide, by decide⟩, fun σ as μ h => ⟨38, 0, _, h.1, rfl, TX5, 31, rfl⟩⟩ all_nil))) (all_cons ⟨yX5_isClient, cX5_isClient, 1, (some .boolean), 1, 22, con_X5_isClient l htr, vw_X5_145, ⟨by decide, by decide, by decide +kernel⟩, ⟨by decide, by decide⟩⟩ (all_cons ⟨yX5_in, cX5_in, 3, (some .boolean), 0, 0, con_X5_in l htr, vw_X5_85, ⟨by decide, by decide, by decide +kernel⟩, ⟨by decide, by decide⟩⟩ all_nil)) all_nil) rfl (by decide +kernel) rfl rfl rfl rfl (fun as μ hs => by rw [hs.1]; exact Nat.le_of_ble_eq_true rfl)
    (fun as μ hs hM hrg => by
      have hs1 := hs.1
      have hmem : ∀ v, v ∈ ([vR 38 0, vI (iaI as 1), vI (iaI as 2)] : List AV) → rg fam0 v := by rw [← hs1]; exact hrg
      have key := run_X5_cash (ER := cl_X5_cash.2.2.2.1 σ as μ) (ET := fun k μ' => cl_X5_cash.2.2.2.2 σ as μ k ∧ μ' = μ) σ μ (iaI as 1) (iaI as 2) hM (hmem (vI (iaI as 1)) (by simp)) (hmem (vI (iaI as 2)) (by simp)) hs.2 (fun ov μ' h => h)
      have e : entL as 6 = [some (vR 38 0), some (vI (iaI as 1)), some (vI (iaI as 2)), none, none, none] := by rw [hs1]; rfl
      rw [e]; exact key)
def opG (μ : Mm) (k : Nat) : Int := if 0 < μ 51 0 k then 1 else 0
def opF (μ : Mm) (n : Nat) : Int := sm (opG μ) n
theorem opF_rng (μ : Mm) (n : Nat) : 0 ≤ opF μ n ∧ opF μ n ≤ n := by
  have := sm_le (g := opG μ) (c := 1) (n := n) (fun k _ => by unfold opG; split <;> omega)
  unfold opF
  omega
theorem Lk_st {M : Mm} (h : Lk M) {f : Nat} {r i v : Int} (hf : f ≠ 38 ∧ f ≠ 48 ∧ f ≠ 49 ∧ f ≠ 50 ∧ f ≠ 51 ∧ f ≠ 52) : Lk (st M f r i v) :=
  Lk_cg h (st_o (Ne.symm hf.1)) (fun j => st_o (Ne.symm hf.2.1)) (fun j => st_o (Ne.symm hf.2.2.1)) (fun j => st_o (Ne.symm hf.2.2.2.1)) (fun j => st_o (Ne.symm hf.2.2.2.2.1)) (fun j => st_o (Ne.symm hf.2.2.2.2.2))
/-! ### PrimeborrowModel.count -/
def cl_X5_count : Cl := (2, 0, fun σ as μ => as = [vR 38 0, vI (iaI as 1)] ∧ (Wk μ ∧ Xk μ), fun σ as μ ov μ' => ((¬ (0 ≤ (iaI as 1) ∧ (iaI as 1) ≤ 4)) → ov = some (vL 0) ∧ μ' = st μ 38 0 0 1) ∧ ((0 ≤ (iaI as 1) ∧ (iaI as 1) ≤ 4) → ov = some (vL (if (iaI as 1) = 0 then μ 38 0 11 else if (iaI as 1) = 1 then opF μ (μ 38 0 11).toNat else if (iaI as 1) = 2 then μ 38 0 28 else if (iaI as 1) = 3 then μ 38 0 29 else μ 38 0 30)) ∧ μ' = st μ 38 0 0 0), fun σ as μ k => False)
def cd_X5_count : Cd := mkcd k_X5_count co_X5 fl_X5 [(127, cl_X5_refused)] [(85, cl_X5_in)] [] [] 4 2 0
set_option maxHeartbeats 4000000 in
set_option maxRecDepth 20000 in
theorem run_X5_count {ER : Option AV → Mm → Prop} {ET : Nat → Mm → Prop} (σ μ : Mm) (w : Int) (hM : MR fam0 μ) (h_w : in32 w) (hP : Wk μ ∧ Xk μ) (hER : ∀ ov μ', (((¬ (0 ≤ w ∧ w ≤ 4)) → ov = some (vL 0) ∧ μ' = st μ 38 0 0 1) ∧ ((0 ≤ w ∧ w ≤ 4) → ov = some (vL (if w = 0 then μ 38 0 11 else if w = 1 then opF μ (μ 38 0 11).toNat else if w = 2 then μ 38 0 28 else if w = 3 then μ 38 0 29 else μ 38 0 30)) ∧ μ' = st μ 38 0 0 0)) → ER ov μ') : Run fam0 none cd_X5_count ER ET 0 0 [some (vR 38 0), some (vI w), none, none] [] μ := by
  obtain ⟨hW, hX⟩ := hP
  have hW0 : Wk (st μ 38 0 0 0) := Wk_st hW (by decide)
  have hLk := hW.1
  have hLk0 := hW0.1
  have hPk := hW.2.1
  have hPk0 := hW0.2.1
  have hGk := Gk_of hLk hW.2.2.2.2
  have hGk0 := Gk_of hLk0 hW0.2.2.2.2
  have hday := hX.1
  have hloc := hX.2.1.1
  have hrec := hX.2.2.1.1
  have hl0 := hLk.1
  refine run_k 5 ?_
  show ∃ σ : Mm, cl_X5_in.2.2.1 σ [vI w, vI 0, vI 4] μ ∧ (∀ ov μ', cl_X5_in.2.2.2.1 σ [vI w, vI 0, vI 4] μ ov μ' → Run fam0 none cd_X5_count ER ET 7 0 [some (vR 38 0), some (vI w), none, none] (ov.toList ++ [vR 38 0]) μ') ∧ ∀ kx, cl_X5_in.2.2.2.2 σ [vI w, vI 0, vI 4] μ kx → thr cd_X5_count ET (Run fam0 none cd_X5_count ER ET) 4 0 [some (vR 38 0), some (vI w), none, none] μ kx
  refine ⟨μ, ⟨rfl, show True from True.intro⟩, fun ov μ' hq => ?_, fun k hk => hk.elim⟩
  obtain ⟨hov, hmu⟩ : ov = some (vI (bi (0 ≤ w ∧ w ≤ 4))) ∧ μ' = μ := hq
  rw [hov, hmu]
  show Run fam0 none cd_X5_count ER ET 7 0 [some (vR 38 0), some (vI w), none, none] [vI (bi (0 ≤ w ∧ w ≤ 4)), vR 38 0] μ
  refine run_k 1 ?_
  show ((bi (0 ≤ w ∧ w ≤ 4)) = 0 → Run fam0 none cd_X5_count ER ET 14 0 [some (vR 38 0), some (vI w), none, none] [vR 38 0] μ) ∧ ((bi (0 ≤ w ∧ w ≤ 4)) ≠ 0 → Run fam0 none cd_X5_count ER ET 10 0 [some (vR 38 0), some (vI w), none, none] [vR 38 0] μ)
  refine ⟨fun c2 => ?_, fun c2 => ?_⟩
  · replace c2 := (bi_e0.mp c2)
    refine run_k 2 ?_
    show ∃ σ : Mm, cl_X5_refused.2.2.1 σ [vR 38 0, vI 1] μ ∧ (∀ ov μ', cl_X5_refused.2.2.2.1 σ [vR 38 0, vI 1] μ ov μ' → Run fam0 none cd_X5_count ER ET 18 0 [some (vR 38 0), some (vI w), none, none] (ov.toList ++ []) μ') ∧ ∀ kx, cl_X5_refused.2.2.2.2 σ [vR 38 0, vI 1] μ kx → thr cd_X5_count ET (Run fam0 none cd_X5_count ER ET) 15 0 [some (vR 38 0), some (vI w), none, none] μ kx
    refine ⟨μ, ⟨rfl, show True from True.intro⟩, fun ov μ' hq => ?_, fun k hk => hk.elim⟩
    obtain ⟨hov, hmu⟩ : ov = some (vI 1) ∧ μ' = st μ 38 0 0 1 := hq
    rw [hov, hmu]
    show Run fam0 none cd_X5_count ER ET 18 0 [some (vR 38 0), some (vI w), none, none] [vI 1] (st μ 38 0 0 1)
    refine run_k 1 ?_
    show (1 = 0 → Run fam0 none cd_X5_count ER ET 23 0 [some (vR 38 0), some (vI w), none, none] [] (st μ 38 0 0 1)) ∧ (1 ≠ 0 → Run fam0 none cd_X5_count ER ET 21 0 [some (vR 38 0), some (vI w), none, none] [] (st μ 38 0 0 1))
    refine ⟨fun c4 => absurd c4 (by decide), fun c4 => ?_⟩
    refine run_k 2 ?_
    show ER (some (vL 0)) (st μ 38 0 0 1)
    refine hER _ _ ⟨fun h => ?_, fun h => ?_⟩ <;> first | (exfalso; omega) | exact ⟨by (first | rw [if_pos (by omega)] | (rw [if_neg (by omega)]; first | rw [if_pos (by omega)] | (rw [if_neg (by omega)]; first | rw [if_pos (by omega)] | (rw [if_neg (by omega)]; first | rw [if_pos (by omega)] | rw [if_neg (by omega)])))) <;> rw [hx3], rfl⟩ | exact ⟨rfl, rfl⟩
  · replace c2 := (bi_n0.mp c2)
    refine run_k 3 ?_
    show ∃ σ : Mm, cl_X5_refused.2.2.1 σ [vR 38 0, vI 0] μ ∧ (∀ ov μ', cl_X5_refused.2.2.2.1 σ [vR 38 0, vI 0] μ ov μ' → Run fam0 none cd_X5_count ER ET 18 0 [some (vR 38 0), some (vI w), none, none] (ov.toList ++ []) μ') ∧ ∀ kx, cl_X5_refused.2.2.2.2 σ [vR 38 0, vI 0] μ kx → thr cd_X5_count ET (Run fam0 none cd_X5_count ER ET) 15 0 [some (vR 38 0), some (vI w), none, none] μ kx
    refine ⟨μ, ⟨rfl, show True from True.intro⟩, fun ov μ' hq => ?_, fun k hk => hk.elim⟩
    obtain ⟨hov, hmu⟩ : ov = some (vI 0) ∧ μ' = st μ 38 0 0 0 := hq
    rw [hov, hmu]
    show Run fam0 none cd_X5_count ER ET 18 0 [some (vR 38 0), some (vI w), none, none] [vI 0] (st μ 38 0 0 0)
    refine run_k 1 ?_
    show (0 = 0 → Run fam0 none cd_X5_count ER ET 23 0 [some (vR 38 0), some (vI w), none, none] [] (st μ 38 0 0 0)) ∧ (0 ≠ 0 → Run fam0 none cd_X5_count ER ET 21 0 [some (vR 38 0), some (vI w), none, none] [] (st μ 38 0 0 0))
    refine ⟨fun c7 => ?_, fun c7 => absurd c7 (by decide)⟩
    refine run_k 4 ?_
    show Run fam0 none cd_X5_count ER ET 27 0 [some (vR 38 0), some (vI w), some (vI 0), some (vI 0)] [] (st μ 38 0 0 0)
    have lp27 : ∀ (fz : Nat) (k : Nat) (x : Int), (μ 38 0 11 - (k : Int)).toNat < fz → ((k : Int) ≤ μ 38 0 11 ∧ x = opF μ k) → Run fam0 none cd_X5_count ER ET 27 0 [some (vR 38 0), some (vI w), some (vI x), some (vI (k : Int))] [] (st μ 38 0 0 0) := by
      intro fz
      induction fz with
      | zero => intro k x hf; omega
      | succ fz ih27 =>
        intro k x hf hI
        obtain ⟨hk1, hx2⟩ := hI
        have hx4 := opF_rng μ k
        refine run_k 4 ?_
        show ((μ 38 0 11) ≤ (k : Int) → Run fam0 none cd_X5_count ER ET 58 0 [some (vR 38 0), some (vI w), some (vI x), some (vI (k : Int))] [] (st μ 38 0 0 0)) ∧ ((k : Int) < (μ 38 0 11) → Run fam0 none cd_X5_count ER ET 35 0 [some (vR 38 0), some (vI w), some (vI x), some (vI (k : Int))] [] (st μ 38 0 0 0))
        refine ⟨fun c9 => ?_, fun c9 => ?_⟩
        · have hx3 : x = opF μ (μ 38 0 11).toNat := by rw [hx2, show k = (μ 38 0 11).toNat by omega]
          refine run_k 2 ?_
          show (w ≠ 0 → Run fam0 none cd_X5_count ER ET 70 0 [some (vR 38 0), some (vI w), some (vI x), some (vI (k : Int))] [] (st μ 38 0 0 0)) ∧ (w = 0 → Run fam0 none cd_X5_count ER ET 62 0 [some (vR 38 0), some (vI w), some (vI x), some (vI (k : Int))] [] (st μ 38 0 0 0))
          refine ⟨fun c10 => ?_, fun c10 => ?_⟩
          · refine run_k 3 ?_
            show (w ≠ 1 → Run fam0 none cd_X5_count ER ET 80 0 [some (vR 38 0), some (vI w), some (vI x), some (vI (k : Int))] [] (st μ 38 0 0 0)) ∧ (w = 1 → Run fam0 none cd_X5_count ER ET 75 0 [some (vR 38 0), some (vI w), some (vI x), some (vI (k : Int))] [] (st μ 38 0 0 0))
            refine ⟨fun c11 => ?_, fun c11 => ?_⟩
            · refine run_k 3 ?_
              show (w ≠ 2 → Run fam0 none cd_X5_count ER ET 92 0 [some (vR 38 0), some (vI w), some (vI x), some (vI (k : Int))] [] (st μ 38 0 0 0)) ∧ (w = 2 → Run fam0 none cd_X5_count ER ET 85 0 [some (vR 38 0), some (vI w), some (vI x), some (vI (k : Int))] [] (st μ 38 0 0 0))
              refine ⟨fun c12 => ?_, fun c12 => ?_⟩
              · refine run_k 3 ?_
                show (w ≠ 3 → Run fam0 none cd_X5_count ER ET 104 0 [some (vR 38 0), some (vI w), some (vI x), some (vI (k : Int))] [] (st μ 38 0 0 0)) ∧ (w = 3 → Run fam0 none cd_X5_count ER ET 97 0 [some (vR 38 0), some (vI w), some (vI x), some (vI (k : Int))] [] (st μ 38 0 0 0))
                refine ⟨fun c13 => ?_, fun c13 => ?_⟩
                · refine run_k 4 ?_
                  show ER (some (vL (μ 38 0 30))) (st μ 38 0 0 0)
                  refine hER _ _ ⟨fun h => ?_, fun h => ?_⟩ <;> first | (exfalso; omega) | exact ⟨by (first | rw [if_pos (by omega)] | (rw [if_neg (by omega)]; first | rw [if_pos (by omega)] | (rw [if_neg (by omega)]; first | rw [if_pos (by omega)] | (rw [if_neg (by omega)]; first | rw [if_pos (by omega)] | rw [if_neg (by omega)])))) <;> rw [hx3], rfl⟩ | exact ⟨rfl, rfl⟩
                · refine run_k 4 ?_
                  show ER (some (vL (μ 38 0 29))) (st μ 38 0 0 0)
                  refine hER _ _ ⟨fun h => ?_, fun h => ?_⟩ <;> first | (exfalso; omega) | exact ⟨by (first | rw [if_pos (by omega)] | (rw [if_neg (by omega)]; first | rw [if_pos (by omega)] | (rw [if_neg (by omega)]; first | rw [if_pos (by omega)] | (rw [if_neg (by omega)]; first | rw [if_pos (by omega)] | rw [if_neg (by omega)])))) <;> rw [hx3], rfl⟩ | exact ⟨rfl, rfl⟩
              · refine run_k 4 ?_
                show ER (some (vL (μ 38 0 28))) (st μ 38 0 0 0)
                refine hER _ _ ⟨fun h => ?_, fun h => ?_⟩ <;> first | (exfalso; omega) | exact ⟨by (first | rw [if_pos (by omega)] | (rw [if_neg (by omega)]; first | rw [if_pos (by omega)] | (rw [if_neg (by omega)]; first | rw [if_pos (by omega)] | (rw [if_neg (by omega)]; first | rw [if_pos (by omega)] | rw [if_neg (by omega)])))) <;> rw [hx3], rfl⟩ | exact ⟨rfl, rfl⟩
            · refine run_k 4 ?_
              show ER (some (vL x)) (st μ 38 0 0 0)
              refine hER _ _ ⟨fun h => ?_, fun h => ?_⟩ <;> first | (exfalso; omega) | exact ⟨by (first | rw [if_pos (by omega)] | (rw [if_neg (by omega)]; first | rw [if_pos (by omega)] | (rw [if_neg (by omega)]; first | rw [if_pos (by omega)] | (rw [if_neg (by omega)]; first | rw [if_pos (by omega)] | rw [if_neg (by omega)])))) <;> rw [hx3], rfl⟩ | exact ⟨rfl, rfl⟩
          · refine run_k 5 ?_
            show ER (some (vL (μ 38 0 11))) (st μ 38 0 0 0)
            refine hER _ _ ⟨fun h => ?_, fun h => ?_⟩ <;> first | (exfalso; omega) | exact ⟨by (first | rw [if_pos (by omega)] | (rw [if_neg (by omega)]; first | rw [if_pos (by omega)] | (rw [if_neg (by omega)]; first | rw [if_pos (by omega)] | (rw [if_neg (by omega)]; first | rw [if_pos (by omega)] | rw [if_neg (by omega)])))) <;> rw [hx3], rfl⟩ | exact ⟨rfl, rfl⟩
        · refine run_k 6 ?_
          show (0 ≤ (k : Int) ∧ (k : Int) < 1000) ∧ (((μ 51 0 (k : Int)) ≤ 0 → Run fam0 none cd_X5_count ER ET 49 0 [some (vR 38 0), some (vI w), some (vI x), some (vI (k : Int))] [vI x] (st μ 38 0 0 0)) ∧ (0 < (μ 51 0 (k : Int)) → Run fam0 none cd_X5_count ER ET 45 0 [some (vR 38 0), some (vI w), some (vI x), some (vI (k : Int))] [vI x] (st μ 38 0 0 0)))
          refine ⟨by omega, ?_⟩
          refine ⟨fun c19 => ?_, fun c19 => ?_⟩
          · refine run_k 5 ?_
            show Run fam0 none cd_X5_count ER ET 27 0 [some (vR 38 0), some (vI w), some (vI (w32 (x + 0))), some (vI (w32 ((k : Int) + 1)))] [] (st μ 38 0 0 0)
            rw [show w32 (x + 0) = x + 0 from w32_id (by simp only [in32]; omega)]
            rw [show w32 ((k : Int) + 1) = (k : Int) + 1 from w32_id (by simp only [in32]; omega)]
            exact ih27 (k + 1) (x + 0) (by omega) (⟨by omega, by rw [hx2]; show _ = opF μ k + opG μ k; unfold opG; first | rw [if_pos (by omega)] | rw [if_neg (by omega)]⟩)
          · refine run_k 6 ?_
            show Run fam0 none cd_X5_count ER ET 27 0 [some (vR 38 0), some (vI w), some (vI (w32 (x + 1))), some (vI (w32 ((k : Int) + 1)))] [] (st μ 38 0 0 0)
            rw [show w32 (x + 1) = x + 1 from w32_id (by simp only [in32]; omega)]
            rw [show w32 ((k : Int) + 1) = (k : Int) + 1 from w32_id (by simp only [in32]; omega)]
            exact ih27 (k + 1) (x + 1) (by omega) (⟨by omega, by rw [hx2]; show _ = opF μ k + opG μ k; unfold opG; first | rw [if_pos (by omega)] | rw [if_neg (by omega)]⟩)
    exact lp27 _ 0 0 (Nat.lt_succ_self _) (⟨by omega, rfl⟩)
set_option maxRecDepth 20000 in
theorem con_X5_count (l : Launch) (htr : l.stackTraces = false) (σ : Mm) : CON fam0 63 l yX5_count (Cond.code yX5_count cX5_count 4 (some .long) :: wm) 1 22 0 (cl_X5_count.2.2.1 σ) (cl_X5_count.2.2.2.1 σ) (cl_X5_count.2.2.2.2 σ) :=
  con_of (cd := cd_X5_count) (own := RX5) (rk := 2) (sc_of htr (by decide) k_X5_count_ok (by decide +kernel) co_X5_ok fl_X5_ok (all_cons ⟨RX5, yX5_refused, cX5_refused, 2, (some .boolean), 0, 0, 1, con_X5_refused l htr, rfl, vw_X5_127, ⟨rfl, by decide, by decide, by decide +kernel⟩, ⟨by decide, by decide⟩, fun σ as μ h => ⟨38, 0, _, h.1, rfl, TX5, 31, rfl⟩⟩ all_nil) (all_cons ⟨yX5_in, cX5_in, 3, (some .boolean), 0, 0, con_X5_in l htr, vw_X5_85, ⟨by decide, by decide, by decide +kernel⟩, ⟨by decide, by decide⟩⟩ all_nil) all_nil) rfl (by decide +kernel) rfl rfl rfl rfl (fun as μ hs => by rw [hs.1]; exact Nat.le_of_ble_eq_true rfl)
    (fun as μ hs hM hrg => by
      have hs1 := hs.1
      have hmem : ∀ v, v ∈ ([vR 38 0, vI (iaI as 1)] : List AV) → rg fam0 v := by rw [← hs1]; exact hrg
      have key := run_X5_count (ER := cl_X5_count.2.2.2.1 σ as μ) (ET := fun k μ' => cl_X5_count.2.2.2.2 σ as μ k ∧ μ' = μ) σ μ (iaI as 1) hM (hmem (vI (iaI as 1)) (by simp)) hs.2 (fun ov μ' h => h)
      have e : entL as 4 = [some (vR 38 0), some (vI (iaI as 1)), none, none] := by rw [hs1]; rfl
      rw [e]; exact key)
def failL (μ : Mm) (c : Int) : Nat → Mm
  | 0 => st μ 38 0 0 0
  | k + 1 => closeF (failL μ c k) c k
theorem failL_ok {μ : Mm} (hW : Wk μ) {c : Int} (hc : 0 ≤ c ∧ c ≤ 5) : ∀ k : Nat, k ≤ 4 → Wk (failL μ c k)
  | 0, _ => Wk_st hW (by decide)
  | k + 1, h => closeF_ok (failL_ok hW hc k (by omega)) hc (by omega)
def lossF (m : Mm) (c : Int) : Int := if m 41 0 c < 0 then w64 (-m 41 0 c) else 0
def failF (μ : Mm) (c : Int) : Mm :=
  let m := failL μ c 4
  st (st (st (st m 44 0 c 1) 43 0 c 0) 41 0 c (w64 (m 41 0 c + lossF m c))) 38 0 29 (w64 (m 38 0 29 + lossF m c))
theorem failF_n {μ M : Mm} {c : Int} (h : M = failL μ c 4) (hn : M 41 0 c < 0) : some (vL (w64 (-M 41 0 c))) = some (vL (lossF (failL μ c 4) c)) ∧ st (st (st (st M 44 0 c 1) 43 0 c 0) 41 0 c (w64 (M 41 0 c + w64 (-M 41 0 c)))) 38 0 29 (w64 (M 38 0 29 + w64 (-M 41 0 c))) = failF μ c := by
  subst h
  constructor
  · unfold lossF; rw [if_pos hn]
  · unfold failF lossF; simp only [if_pos hn]
theorem failF_p {μ M : Mm} {c : Int} (h : M = failL μ c 4) (hn : ¬ M 41 0 c < 0) : some (vL 0) = some (vL (lossF (failL μ c 4) c)) ∧ st (st (st (st M 44 0 c 1) 43 0 c 0) 41 0 c (w64 (M 41 0 c + 0))) 38 0 29 (w64 (M 38 0 29 + 0)) = failF μ c := by
  subst h
  constructor
  · unfold lossF; rw [if_neg hn]
  · unfold failF lossF; simp only [if_neg hn]
/-! ### PrimeborrowModel.fail -/
def cl_X5_fail : Cl := (2, 0, fun σ as μ => as = [vR 38 0, vI (iaI as 1)] ∧ (Wk μ ∧ Xk μ), fun σ as μ ov μ' => ((¬ (0 ≤ (iaI as 1) ∧ (iaI as 1) ≤ 5)) → ov = some (vL 0) ∧ μ' = st μ 38 0 0 1) ∧ (((0 ≤ (iaI as 1) ∧ (iaI as 1) ≤ 5) ∧ μ 44 0 (iaI as 1) ≠ 0) → ov = some (vL 0) ∧ μ' = st μ 38 0 0 2) ∧ (((0 ≤ (iaI as 1) ∧ (iaI as 1) ≤ 5) ∧ μ 44 0 (iaI as 1) = 0) → ov = some (vL (lossF (failL μ (iaI as 1) 4) (iaI as 1))) ∧ μ' = failF μ (iaI as 1)), fun σ as μ k => False)
def cd_X5_fail : Cd := mkcd k_X5_fail co_X5 fl_X5 [(127, cl_X5_refused), (192, cl_X5_closes)] [(145, cl_X5_isClient)] [] [] 5 2 0
set_option maxHeartbeats 4000000 in
set_option maxRecDepth 20000 in
theorem run_X5_fail {ER : Option AV → Mm → Prop} {ET : Nat → Mm → Prop} (σ μ : Mm) (c : Int) (hM : MR fam0 μ) (h_c : in32 c) (hP : Wk μ ∧ Xk μ) (hER : ∀ ov μ', (((¬ (0 ≤ c ∧ c ≤ 5)) → ov = some (vL 0) ∧ μ' = st μ 38 0 0 1) ∧ (((0 ≤ c ∧ c ≤ 5) ∧ μ 44 0 c ≠ 0) → ov = some (vL 0) ∧ μ' = st μ 38 0 0 2) ∧ (((0 ≤ c ∧ c ≤ 5) ∧ μ 44 0 c = 0) → ov = some (vL (lossF (failL μ c 4) c)) ∧ μ' = failF μ c)) → ER ov μ') : Run fam0 none cd_X5_fail ER ET 0 0 [some (vR 38 0), some (vI c), none, none, none] [] μ := by
  obtain ⟨hW, hX⟩ := hP
  have hW0 : Wk (st μ 38 0 0 0) := Wk_st hW (by decide)
  have hLk := hW.1
  have hLk0 := hW0.1
  have hPk := hW.2.1
  have hPk0 := hW0.2.1
  have hGk := Gk_of hLk hW.2.2.2.2
  have hGk0 := Gk_of hLk0 hW0.2.2.2.2
  have hday := hX.1
  have hloc := hX.2.1.1
  have hrec := hX.2.2.1.1
  have hl0 := hLk.1
  refine run_k 2 ?_
  show ∃ σ : Mm, cl_X5_isClient.2.2.1 σ [vI c] μ ∧ (∀ ov μ', cl_X5_isClient.2.2.2.1 σ [vI c] μ ov μ' → Run fam0 none cd_X5_fail ER ET 4 0 [some (vR 38 0), some (vI c), none, none, none] (ov.toList ++ []) μ') ∧ ∀ kx, cl_X5_isClient.2.2.2.2 σ [vI c] μ kx → thr cd_X5_fail ET (Run fam0 none cd_X5_fail ER ET) 1 0 [some (vR 38 0), some (vI c), none, none, none] μ kx
  refine ⟨μ, ⟨rfl, show True from True.intro⟩, fun ov μ' hq => ?_, fun k hk => hk.elim⟩
  obtain ⟨hov, hmu⟩ : ov = some (vI (bi (0 ≤ c ∧ c ≤ 5))) ∧ μ' = μ := hq
  rw [hov, hmu]
  show Run fam0 none cd_X5_fail ER ET 4 0 [some (vR 38 0), some (vI c), none, none, none] [vI (bi (0 ≤ c ∧ c ≤ 5))] μ
  refine run_k 4 ?_
  show ((bi (0 ≤ c ∧ c ≤ 5)) ≠ 0 → Run fam0 none cd_X5_fail ER ET 14 0 [some (vR 38 0), some (vI c), some (vI (bi (0 ≤ c ∧ c ≤ 5))), none, none] [vR 38 0] μ) ∧ ((bi (0 ≤ c ∧ c ≤ 5)) = 0 → Run fam0 none cd_X5_fail ER ET 10 0 [some (vR 38 0), some (vI c), some (vI (bi (0 ≤ c ∧ c ≤ 5))), none, none] [vR 38 0] μ)
  refine ⟨fun c2 => ?_, fun c2 => ?_⟩
  · replace c2 := (bi_n0.mp c2)
    refine run_k 5 ?_
    show (0 ≤ c ∧ c < 6) ∧ (((μ 44 0 c) = 0 → Run fam0 none cd_X5_fail ER ET 27 0 [some (vR 38 0), some (vI c), some (vI (bi (0 ≤ c ∧ c ≤ 5))), none, none] [vR 38 0] μ) ∧ ((μ 44 0 c) ≠ 0 → Run fam0 none cd_X5_fail ER ET 23 0 [some (vR 38 0), some (vI c), some (vI (bi (0 ≤ c ∧ c ≤ 5))), none, none] [vR 38 0] μ))
    refine ⟨by omega, ?_⟩
    refine ⟨fun c3 => ?_, fun c3 => ?_⟩
    · refine run_k 2 ?_
      show ∃ σ : Mm, cl_X5_refused.2.2.1 σ [vR 38 0, vI 0] μ ∧ (∀ ov μ', cl_X5_refused.2.2.2.1 σ [vR 38 0, vI 0] μ ov μ' → Run fam0 none cd_X5_fail ER ET 31 0 [some (vR 38 0), some (vI c), some (vI (bi (0 ≤ c ∧ c ≤ 5))), none, none] (ov.toList ++ []) μ') ∧ ∀ kx, cl_X5_refused.2.2.2.2 σ [vR 38 0, vI 0] μ kx → thr cd_X5_fail ET (Run fam0 none cd_X5_fail ER ET) 28 0 [some (vR 38 0), some (vI c), some (vI (bi (0 ≤ c ∧ c ≤ 5))), none, none] μ kx
      refine ⟨μ, ⟨rfl, show True from True.intro⟩, fun ov μ' hq => ?_, fun k hk => hk.elim⟩
      obtain ⟨hov, hmu⟩ : ov = some (vI 0) ∧ μ' = st μ 38 0 0 0 := hq
      rw [hov, hmu]
      show Run fam0 none cd_X5_fail ER ET 31 0 [some (vR 38 0), some (vI c), some (vI (bi (0 ≤ c ∧ c ≤ 5))), none, none] [vI 0] (st μ 38 0 0 0)
      refine run_k 1 ?_
      show (0 = 0 → Run fam0 none cd_X5_fail ER ET 36 0 [some (vR 38 0), some (vI c), some (vI (bi (0 ≤ c ∧ c ≤ 5))), none, none] [] (st μ 38 0 0 0)) ∧ (0 ≠ 0 → Run fam0 none cd_X5_fail ER ET 34 0 [some (vR 38 0), some (vI c), some (vI (bi (0 ≤ c ∧ c ≤ 5))), none, none] [] (st μ 38 0 0 0))
      refine ⟨fun c5 => ?_, fun c5 => absurd c5 (by decide)⟩
      refine run_k 2 ?_
      show Run fam0 none cd_X5_fail ER ET 38 0 [some (vR 38 0), some (vI c), some (vI (bi (0 ≤ c ∧ c ≤ 5))), some (vI 0), none] [] (st μ 38 0 0 0)
      have lp38 : ∀ (fz : Nat) (k : Nat) (M : Mm), (4 - (k : Int)).toNat < fz → ((k : Int) ≤ 4 ∧ M = failL μ c k) → Run fam0 none cd_X5_fail ER ET 38 0 [some (vR 38 0), some (vI c), none, some (vI (k : Int)), none] [] M := by
        intro fz
        induction fz with
        | zero => intro k M hf; omega
        | succ fz ih38 =>
          intro k M hf hI
          obtain ⟨hk1, hM2⟩ := hI
          have hWM : k ≤ 4 → Wk M := fun q => by rw [hM2]; exact failL_ok hW (by omega) k q
          have hWM2 : Wk M := hWM (by omega)
          refine run_k 3 ?_
          show (4 ≤ (k : Int) → Run fam0 none cd_X5_fail ER ET 55 0 [some (vR 38 0), some (vI c), none, some (vI (k : Int)), none] [] M) ∧ ((k : Int) < 4 → Run fam0 none cd_X5_fail ER ET 43 0 [some (vR 38 0), some (vI c), none, some (vI (k : Int)), none] [] M)
          refine ⟨fun c7 => ?_, fun c7 => ?_⟩
          · refine run_k 17 ?_
            show (0 ≤ c ∧ c < 6) ∧ ((1 = 0 ∨ 1 = 1) ∧ ((0 ≤ c ∧ c < 6) ∧ ((0 = 0 ∨ 0 = 1) ∧ ((0 ≤ c ∧ c < 6) ∧ ((0 ≤ (cmpL (M 41 0 c) 0) → Run fam0 none cd_X5_fail ER ET 90 0 [some (vR 38 0), some (vI c), none, some (vI (k : Int)), none] [] (st (st M 44 0 c 1) 43 0 c 0)) ∧ ((cmpL (M 41 0 c) 0) < 0 → Run fam0 none cd_X5_fail ER ET 80 0 [some (vR 38 0), some (vI c), none, some (vI (k : Int)), none] [] (st (st M 44 0 c 1) 43 0 c 0)))))))
            refine ⟨by omega, ?_⟩
            refine ⟨by omega, ?_⟩
            refine ⟨by omega, ?_⟩
            refine ⟨by omega, ?_⟩
            refine ⟨by omega, ?_⟩
            refine ⟨fun c8 => ?_, fun c8 => ?_⟩
            · replace c8 := (show ¬ _ from fun q => (Int.not_lt.mpr c8) (cmpL_n.mpr q))
              refine run_k 18 ?_
              show (0 ≤ c ∧ c < 6) ∧ ((0 ≤ c ∧ c < 6) ∧ (ER (some (vL 0)) (st (st (st (st M 44 0 c 1) 43 0 c 0) 41 0 c (w64 ((M 41 0 c) + 0))) 38 0 29 (w64 ((M 38 0 29) + 0)))))
              refine ⟨by omega, ?_⟩
              refine ⟨by omega, ?_⟩
              refine hER _ _ ⟨fun h => ?_, fun h => ?_, fun h => ?_⟩ <;> first | (exfalso; omega) | exact failF_n (by rw [hM2, show k = 4 by omega]) (by omega) | exact failF_p (by rw [hM2, show k = 4 by omega]) (by omega) | exact ⟨rfl, rfl⟩
            · replace c8 := cmpL_n.mp c8
              refine run_k 23 ?_
              show (0 ≤ c ∧ c < 6) ∧ ((0 ≤ c ∧ c < 6) ∧ ((0 ≤ c ∧ c < 6) ∧ (ER (some (vL (w64 (-(M 41 0 c))))) (st (st (st (st M 44 0 c 1) 43 0 c 0) 41 0 c (w64 ((M 41 0 c) + (w64 (-(M 41 0 c)))))) 38 0 29 (w64 ((M 38 0 29) + (w64 (-(M 41 0 c)))))))))
              refine ⟨by omega, ?_⟩
              refine ⟨by omega, ?_⟩
              refine ⟨by omega, ?_⟩
              refine hER _ _ ⟨fun h => ?_, fun h => ?_, fun h => ?_⟩ <;> first | (exfalso; omega) | exact failF_n (by rw [hM2, show k = 4 by omega]) (by omega) | exact failF_p (by rw [hM2, show k = 4 by omega]) (by omega) | exact ⟨rfl, rfl⟩
          · refine run_k 4 ?_
            show ∃ σ : Mm, cl_X5_closes.2.2.1 σ [vR 38 0, vI c, vI (k : Int)] M ∧ (∀ ov μ', cl_X5_closes.2.2.2.1 σ [vR 38 0, vI c, vI (k : Int)] M ov μ' → Run fam0 none cd_X5_fail ER ET 49 0 [some (vR 38 0), some (vI c), none, some (vI (k : Int)), none] (ov.toList ++ []) μ') ∧ ∀ kx, cl_X5_closes.2.2.2.2 σ [vR 38 0, vI c, vI (k : Int)] M kx → thr cd_X5_fail ET (Run fam0 none cd_X5_fail ER ET) 46 0 [some (vR 38 0), some (vI c), none, some (vI (k : Int)), none] M kx
            refine ⟨μ, ⟨rfl, show Wk M ∧ (0 ≤ c ∧ c ≤ 5) ∧ (0 ≤ ((k : Int)) ∧ ((k : Int)) ≤ 3) from ⟨(by assumption), by omega, by omega⟩⟩, fun ov μ' hq => ?_, fun k hk => hk.elim⟩
            obtain ⟨hov, hmu⟩ : ov = none ∧ μ' = closeF M c (k : Int) := hq
            rw [hov, hmu]
            show Run fam0 none cd_X5_fail ER ET 49 0 [some (vR 38 0), some (vI c), none, some (vI (k : Int)), none] [] (closeF M c (k : Int))
            refine run_k 2 ?_
            show Run fam0 none cd_X5_fail ER ET 38 0 [some (vR 38 0), some (vI c), none, some (vI (w32 ((k : Int) + 1))), none] [] (closeF M c (k : Int))
            rw [show w32 ((k : Int) + 1) = (k : Int) + 1 from w32_id (by simp only [in32]; omega)]
            exact ih38 (k + 1) (closeF M c (k : Int)) (by omega) (⟨by omega, by rw [hM2]; rfl⟩)
      refine run_w (L' := [some (vR 38 0), some (vI c), none, some (vI 0), none]) ⟨rfl, rfl, rfl, True.intro⟩ ?_
      exact lp38 _ 0 (st μ 38 0 0 0) (Nat.lt_succ_self _) (⟨by omega, rfl⟩)
    · refine run_k 3 ?_
      show ∃ σ : Mm, cl_X5_refused.2.2.1 σ [vR 38 0, vI 2] μ ∧ (∀ ov μ', cl_X5_refused.2.2.2.1 σ [vR 38 0, vI 2] μ ov μ' → Run fam0 none cd_X5_fail ER ET 31 0 [some (vR 38 0), some (vI c), some (vI (bi (0 ≤ c ∧ c ≤ 5))), none, none] (ov.toList ++ []) μ') ∧ ∀ kx, cl_X5_refused.2.2.2.2 σ [vR 38 0, vI 2] μ kx → thr cd_X5_fail ET (Run fam0 none cd_X5_fail ER ET) 28 0 [some (vR 38 0), some (vI c), some (vI (bi (0 ≤ c ∧ c ≤ 5))), none, none] μ kx
      refine ⟨μ, ⟨rfl, show True from True.intro⟩, fun ov μ' hq => ?_, fun k hk => hk.elim⟩
      obtain ⟨hov, hmu⟩ : ov = some (vI 1) ∧ μ' = st μ 38 0 0 2 := hq
      rw [hov, hmu]
      show Run fam0 none cd_X5_fail ER ET 31 0 [some (vR 38 0), some (vI c), some (vI (bi (0 ≤ c ∧ c ≤ 5))), none, none] [vI 1] (st μ 38 0 0 2)
      refine run_k 1 ?_
      show (1 = 0 → Run fam0 none cd_X5_fail ER ET 36 0 [some (vR 38 0), some (vI c), some (vI (bi (0 ≤ c ∧ c ≤ 5))), none, none] [] (st μ 38 0 0 2)) ∧ (1 ≠ 0 → Run fam0 none cd_X5_fail ER ET 34 0 [some (vR 38 0), some (vI c), some (vI (bi (0 ≤ c ∧ c ≤ 5))), none, none] [] (st μ 38 0 0 2))
      refine ⟨fun c14 => absurd c14 (by decide), fun c14 => ?_⟩
      refine run_k 2 ?_
      show ER (some (vL 0)) (st μ 38 0 0 2)
      refine hER _ _ ⟨fun h => ?_, fun h => ?_, fun h => ?_⟩ <;> first | (exfalso; omega) | exact failF_n (by rw [hM2, show k = 4 by omega]) (by omega) | exact failF_p (by rw [hM2, show k = 4 by omega]) (by omega) | exact ⟨rfl, rfl⟩
  · replace c2 := (bi_e0.mp c2)
    refine run_k 3 ?_
    show ∃ σ : Mm, cl_X5_refused.2.2.1 σ [vR 38 0, vI 1] μ ∧ (∀ ov μ', cl_X5_refused.2.2.2.1 σ [vR 38 0, vI 1] μ ov μ' → Run fam0 none cd_X5_fail ER ET 31 0 [some (vR 38 0), some (vI c), some (vI (bi (0 ≤ c ∧ c ≤ 5))), none, none] (ov.toList ++ []) μ') ∧ ∀ kx, cl_X5_refused.2.2.2.2 σ [vR 38 0, vI 1] μ kx → thr cd_X5_fail ET (Run fam0 none cd_X5_fail ER ET) 28 0 [some (vR 38 0), some (vI c), some (vI (bi (0 ≤ c ∧ c ≤ 5))), none, none] μ kx
    refine ⟨μ, ⟨rfl, show True from True.intro⟩, fun ov μ' hq => ?_, fun k hk => hk.elim⟩
    obtain ⟨hov, hmu⟩ : ov = some (vI 1) ∧ μ' = st μ 38 0 0 1 := hq
    rw [hov, hmu]
    show Run fam0 none cd_X5_fail ER ET 31 0 [some (vR 38 0), some (vI c), some (vI (bi (0 ≤ c ∧ c ≤ 5))), none, none] [vI 1] (st μ 38 0 0 1)
    refine run_k 1 ?_
    show (1 = 0 → Run fam0 none cd_X5_fail ER ET 36 0 [some (vR 38 0), some (vI c), some (vI (bi (0 ≤ c ∧ c ≤ 5))), none, none] [] (st μ 38 0 0 1)) ∧ (1 ≠ 0 → Run fam0 none cd_X5_fail ER ET 34 0 [some (vR 38 0), some (vI c), some (vI (bi (0 ≤ c ∧ c ≤ 5))), none, none] [] (st μ 38 0 0 1))
    refine ⟨fun c17 => absurd c17 (by decide), fun c17 => ?_⟩
    refine run_k 2 ?_
    show ER (some (vL 0)) (st μ 38 0 0 1)
    refine hER _ _ ⟨fun h => ?_, fun h => ?_, fun h => ?_⟩ <;> first | (exfalso; omega) | exact failF_n (by rw [hM2, show k = 4 by omega]) (by omega) | exact failF_p (by rw [hM2, show k = 4 by omega]) (by omega) | exact ⟨rfl, rfl⟩
theorem vw_X5_192 : ∀ w ∈ ([.methodLink RX5 192 yX5_closes, .instanceMethod yX5_closes, .selects RX5 yX5_closes yX5_closes, .initialized RX5, .code yX5_closes cX5_closes 4 none] : List Cond), w ∈ wm := wm_ps _ [940, 942, 48, 55, 943] (by decide +kernel)
set_option maxRecDepth 20000 in
theorem con_X5_fail (l : Launch) (htr : l.stackTraces = false) (σ : Mm) : CON fam0 63 l yX5_fail (Cond.code yX5_fail cX5_fail 5 (some .long) :: wm) 7 173 0 (cl_X5_fail.2.2.1 σ) (cl_X5_fail.2.2.2.1 σ) (cl_X5_fail.2.2.2.2 σ) :=
  con_of (cd := cd_X5_fail) (own := RX5) (rk := 2) (sc_of htr (by decide) k_X5_fail_ok (by decide +kernel) co_X5_ok fl_X5_ok (all_cons ⟨RX5, yX5_refused, cX5_refused, 2, (some .boolean), 0, 0, 1, con_X5_refused l htr, rfl, vw_X5_127, ⟨rfl, by decide, by decide, by decide +kernel⟩, ⟨by decide, by decide⟩, fun σ as μ h => ⟨38, 0, _, h.1, rfl, TX5, 31, rfl⟩⟩ (all_cons ⟨RX5, yX5_closes, cX5_closes, 4, none, 6, 150, 2, con_X5_closes l htr, rfl, vw_X5_192, ⟨rfl, by decide, by decide, by decide +kernel⟩, ⟨by decide, by decide⟩, fun σ as μ h => ⟨38, 0, _, h.1, rfl, TX5, 31, rfl⟩⟩ all_nil)) (all_cons ⟨yX5_isClient, cX5_isClient, 1, (some .boolean), 1, 22, con_X5_isClient l htr, vw_X5_145, ⟨by decide, by decide, by decide +kernel⟩, ⟨by decide, by decide⟩⟩ all_nil) all_nil) rfl (by decide +kernel) rfl rfl rfl rfl (fun as μ hs => by rw [hs.1]; exact Nat.le_of_ble_eq_true rfl)
    (fun as μ hs hM hrg => by
      have hs1 := hs.1
      have hmem : ∀ v, v ∈ ([vR 38 0, vI (iaI as 1)] : List AV) → rg fam0 v := by rw [← hs1]; exact hrg
      have key := run_X5_fail (ER := cl_X5_fail.2.2.2.1 σ as μ) (ET := fun k μ' => cl_X5_fail.2.2.2.2 σ as μ k ∧ μ' = μ) σ μ (iaI as 1) hM (hmem (vI (iaI as 1)) (by simp)) hs.2 (fun ov μ' h => h)
      have e : entL as 5 = [some (vR 38 0), some (vI (iaI as 1)), none, none, none] := by rw [hs1]; rfl
      rw [e]; exact key)
