/-! ===== dividends, what is asked of clients: the reference -/
/-! ### PrimeborrowModel.clientOf -/
def cl_X5_clientOf : Cl := (3, 0, fun σ as μ => as = [vR 38 0, vI (iaI as 1), vI (iaI as 2)] ∧ (Wk μ ∧ Xk μ), fun σ as μ ov μ' => ((¬ (0 ≤ (iaI as 1) ∧ (iaI as 1) ≤ 5)) → ov = some (vL 0) ∧ μ' = st μ 38 0 0 1) ∧ (((0 ≤ (iaI as 1) ∧ (iaI as 1) ≤ 5) ∧ ¬ (0 ≤ (iaI as 2) ∧ (iaI as 2) ≤ 4)) → ov = some (vL 0) ∧ μ' = st μ 38 0 0 2) ∧ (((0 ≤ (iaI as 1) ∧ (iaI as 1) ≤ 5) ∧ (0 ≤ (iaI as 2) ∧ (iaI as 2) ≤ 4)) → ov = some (vL (if (iaI as 2) = 0 then μ 41 0 (iaI as 1) else if (iaI as 2) = 1 then equityF (st μ 38 0 0 0) (iaI as 1) else if (iaI as 2) = 2 then needF (st μ 38 0 0 0) (iaI as 1) else if (iaI as 2) = 3 then calledF (st μ 38 0 0 0) (iaI as 1) else μ 44 0 (iaI as 1))) ∧ μ' = st μ 38 0 0 0), fun σ as μ k => False)
def cd_X5_clientOf : Cd := mkcd k_X5_clientOf co_X5 fl_X5 [(127, cl_X5_refused), (138, cl_X5_equity), (142, cl_X5_need), (189, cl_X5_isCalled)] [(145, cl_X5_isClient), (85, cl_X5_in)] [] [] 3 2 0
set_option maxHeartbeats 4000000 in
set_option maxRecDepth 20000 in
theorem run_X5_clientOf {ER : Option AV → Mm → Prop} {ET : Nat → Mm → Prop} (σ μ : Mm) (c w : Int) (hM : MR fam0 μ) (h_c : in32 c) (h_w : in32 w) (hP : Wk μ ∧ Xk μ) (hER : ∀ ov μ', (((¬ (0 ≤ c ∧ c ≤ 5)) → ov = some (vL 0) ∧ μ' = st μ 38 0 0 1) ∧ (((0 ≤ c ∧ c ≤ 5) ∧ ¬ (0 ≤ w ∧ w ≤ 4)) → ov = some (vL 0) ∧ μ' = st μ 38 0 0 2) ∧ (((0 ≤ c ∧ c ≤ 5) ∧ (0 ≤ w ∧ w ≤ 4)) → ov = some (vL (if w = 0 then μ 41 0 c else if w = 1 then equityF (st μ 38 0 0 0) c else if w = 2 then needF (st μ 38 0 0 0) c else if w = 3 then calledF (st μ 38 0 0 0) c else μ 44 0 c)) ∧ μ' = st μ 38 0 0 0)) → ER ov μ') : Run fam0 none cd_X5_clientOf ER ET 0 0 [some (vR 38 0), some (vI c), some (vI w)] [] μ := by
  obtain ⟨hW, hX⟩ := hP
  have hW0 : Wk (st μ 38 0 0 0) := Wk_st hW (by decide)
  have hLk := hW.1
  have hLk0 := hW0.1
  have hPk := hW.2.1
  have hPk0 := hW0.2.1
  have hGk := Gk_of hLk hW.2.2.2.2
  have hGk0 := Gk_of hLk0 hW0.2.2.2.2
  have hday := hX.1
  have hloc := hX.2.1.1
  have hrec := hX.2.2.1.1
  have hl0 := hLk.1
  have hbl := hX.2.2.2 c
  have hcl : calledF (st μ 38 0 0 0) c = 0 ∨ calledF (st μ 38 0 0 0) c = 1 := bi_01
  refine run_k 3 ?_
  show ∃ σ : Mm, cl_X5_isClient.2.2.1 σ [vI c] μ ∧ (∀ ov μ', cl_X5_isClient.2.2.2.1 σ [vI c] μ ov μ' → Run fam0 none cd_X5_clientOf ER ET 5 0 [some (vR 38 0), some (vI c), some (vI w)] (ov.toList ++ [vR 38 0]) μ') ∧ ∀ kx, cl_X5_isClient.2.2.2.2 σ [vI c] μ kx → thr cd_X5_clientOf ET (Run fam0 none cd_X5_clientOf ER ET) 2 0 [some (vR 38 0), some (vI c), some (vI w)] μ kx
  refine ⟨μ, ⟨rfl, show True from True.intro⟩, fun ov μ' hq => ?_, fun k hk => hk.elim⟩
  obtain ⟨hov, hmu⟩ : ov = some (vI (bi (0 ≤ c ∧ c ≤ 5))) ∧ μ' = μ := hq
  rw [hov, hmu]
  show Run fam0 none cd_X5_clientOf ER ET 5 0 [some (vR 38 0), some (vI c), some (vI w)] [vI (bi (0 ≤ c ∧ c ≤ 5)), vR 38 0] μ
  refine run_k 1 ?_
  show ((bi (0 ≤ c ∧ c ≤ 5)) ≠ 0 → Run fam0 none cd_X5_clientOf ER ET 12 0 [some (vR 38 0), some (vI c), some (vI w)] [vR 38 0] μ) ∧ ((bi (0 ≤ c ∧ c ≤ 5)) = 0 → Run fam0 none cd_X5_clientOf ER ET 8 0 [some (vR 38 0), some (vI c), some (vI w)] [vR 38 0] μ)
  refine ⟨fun c2 => ?_, fun c2 => ?_⟩
  · replace c2 := (bi_n0.mp c2)
    refine run_k 4 ?_
    show ∃ σ : Mm, cl_X5_in.2.2.1 σ [vI w, vI 0, vI 4] μ ∧ (∀ ov μ', cl_X5_in.2.2.2.1 σ [vI w, vI 0, vI 4] μ ov μ' → Run fam0 none cd_X5_clientOf ER ET 18 0 [some (vR 38 0), some (vI c), some (vI w)] (ov.toList ++ [vR 38 0]) μ') ∧ ∀ kx, cl_X5_in.2.2.2.2 σ [vI w, vI 0, vI 4] μ kx → thr cd_X5_clientOf ET (Run fam0 none cd_X5_clientOf ER ET) 15 0 [some (vR 38 0), some (vI c), some (vI w)] μ kx
    refine ⟨μ, ⟨rfl, show True from True.intro⟩, fun ov μ' hq => ?_, fun k hk => hk.elim⟩
    obtain ⟨hov, hmu⟩ : ov = some (vI (bi (0 ≤ w ∧ w ≤ 4))) ∧ μ' = μ := hq
    rw [hov, hmu]
    show Run fam0 none cd_X5_clientOf ER ET 18 0 [some (vR 38 0), some (vI c), some (vI w)] [vI (bi (0 ≤ w ∧ w ≤ 4)), vR 38 0] μ
    refine run_k 1 ?_
    show ((bi (0 ≤ w ∧ w ≤ 4)) ≠ 0 → Run fam0 none cd_X5_clientOf ER ET 25 0 [some (vR 38 0), some (vI c), some (vI w)] [vR 38 0] μ) ∧ ((bi (0 ≤ w ∧ w ≤ 4)) = 0 → Run fam0 none cd_X5_clientOf ER ET 21 0 [some (vR 38 0), some (vI c), some (vI w)] [vR 38 0] μ)
    refine ⟨fun c4 => ?_, fun c4 => ?_⟩
    · replace c4 := (bi_n0.mp c4)
      refine run_k 2 ?_
      show ∃ σ : Mm, cl_X5_refused.2.2.1 σ [vR 38 0, vI 0] μ ∧ (∀ ov μ', cl_X5_refused.2.2.2.1 σ [vR 38 0, vI 0] μ ov μ' → Run fam0 none cd_X5_clientOf ER ET 29 0 [some (vR 38 0), some (vI c), some (vI w)] (ov.toList ++ []) μ') ∧ ∀ kx, cl_X5_refused.2.2.2.2 σ [vR 38 0, vI 0] μ kx → thr cd_X5_clientOf ET (Run fam0 none cd_X5_clientOf ER ET) 26 0 [some (vR 38 0), some (vI c), some (vI w)] μ kx
      refine ⟨μ, ⟨rfl, show True from True.intro⟩, fun ov μ' hq => ?_, fun k hk => hk.elim⟩
      obtain ⟨hov, hmu⟩ : ov = some (vI 0) ∧ μ' = st μ 38 0 0 0 := hq
      rw [hov, hmu]
      show Run fam0 none cd_X5_clientOf ER ET 29 0 [some (vR 38 0), some (vI c), some (vI w)] [vI 0] (st μ 38 0 0 0)
      refine run_k 1 ?_
      show (0 = 0 → Run fam0 none cd_X5_clientOf ER ET 34 0 [some (vR 38 0), some (vI c), some (vI w)] [] (st μ 38 0 0 0)) ∧ (0 ≠ 0 → Run fam0 none cd_X5_clientOf ER ET 32 0 [some (vR 38 0), some (vI c), some (vI w)] [] (st μ 38 0 0 0))
      refine ⟨fun c6 => ?_, fun c6 => absurd c6 (by decide)⟩
      refine run_k 2 ?_
      show ((w = 0 → Run fam0 none cd_X5_clientOf ER ET 64 0 [some (vR 38 0), some (vI c), some (vI w)] [] (st μ 38 0 0 0)) ∧ (w = 0 + 1 → Run fam0 none cd_X5_clientOf ER ET 71 0 [some (vR 38 0), some (vI c), some (vI w)] [] (st μ 38 0 0 0)) ∧ (w = 0 + 1 + 1 → Run fam0 none cd_X5_clientOf ER ET 77 0 [some (vR 38 0), some (vI c), some (vI w)] [] (st μ 38 0 0 0)) ∧ (w = 0 + 1 + 1 + 1 → Run fam0 none cd_X5_clientOf ER ET 83 0 [some (vR 38 0), some (vI c), some (vI w)] [] (st μ 38 0 0 0)) ∧ True) ∧ (w < 0 ∨ 0 + 4 ≤ w → Run fam0 none cd_X5_clientOf ER ET 97 0 [some (vR 38 0), some (vI c), some (vI w)] [] (st μ 38 0 0 0)) ∧ 0 + 4 = 3 + 1
      refine ⟨⟨fun c7 => ?_, fun c7 => ?_, fun c7 => ?_, fun c7 => ?_, True.intro⟩, fun c7 => ?_, by decide⟩
      · refine run_k 5 ?_
        show (0 ≤ c ∧ c < 6) ∧ (ER (some (vL (μ 41 0 c))) (st μ 38 0 0 0))
        refine ⟨by omega, ?_⟩
        refine hER _ _ ⟨fun h => ?_, fun h => ?_, fun h => ?_⟩ <;> first | (exfalso; omega) | exact ⟨by (first | rw [if_pos (by omega)] | (rw [if_neg (by omega)]; first | rw [if_pos (by omega)] | (rw [if_neg (by omega)]; first | rw [if_pos (by omega)] | (rw [if_neg (by omega)]; first | rw [if_pos (by omega)] | rw [if_neg (by omega)])))) <;> exact congrArg (fun z => some (vL z)) (by omega), rfl⟩ | exact ⟨rfl, rfl⟩
      · refine run_k 3 ?_
        show ∃ σ : Mm, cl_X5_equity.2.2.1 σ [vR 38 0, vI c] (st μ 38 0 0 0) ∧ (∀ ov μ', cl_X5_equity.2.2.2.1 σ [vR 38 0, vI c] (st μ 38 0 0 0) ov μ' → Run fam0 none cd_X5_clientOf ER ET 76 0 [some (vR 38 0), some (vI c), some (vI w)] (ov.toList ++ []) μ') ∧ ∀ kx, cl_X5_equity.2.2.2.2 σ [vR 38 0, vI c] (st μ 38 0 0 0) kx → thr cd_X5_clientOf ET (Run fam0 none cd_X5_clientOf ER ET) 73 0 [some (vR 38 0), some (vI c), some (vI w)] (st μ 38 0 0 0) kx
        refine ⟨μ, ⟨rfl, show (0 ≤ c ∧ c ≤ 5) from by omega⟩, fun ov μ' hq => ?_, fun k hk => hk.elim⟩
        obtain ⟨hov, hmu⟩ : ov = some (vL (equityF (st μ 38 0 0 0) c)) ∧ μ' = st μ 38 0 0 0 := hq
        rw [hov, hmu]
        show Run fam0 none cd_X5_clientOf ER ET 76 0 [some (vR 38 0), some (vI c), some (vI w)] [vL (equityF (st μ 38 0 0 0) c)] (st μ 38 0 0 0)
        refine run_k 1 ?_
        show ER (some (vL (equityF (st μ 38 0 0 0) c))) (st μ 38 0 0 0)
        refine hER _ _ ⟨fun h => ?_, fun h => ?_, fun h => ?_⟩ <;> first | (exfalso; omega) | exact ⟨by (first | rw [if_pos (by omega)] | (rw [if_neg (by omega)]; first | rw [if_pos (by omega)] | (rw [if_neg (by omega)]; first | rw [if_pos (by omega)] | (rw [if_neg (by omega)]; first | rw [if_pos (by omega)] | rw [if_neg (by omega)])))) <;> exact congrArg (fun z => some (vL z)) (by omega), rfl⟩ | exact ⟨rfl, rfl⟩
      · refine run_k 3 ?_
        show ∃ σ : Mm, cl_X5_need.2.2.1 σ [vR 38 0, vI c] (st μ 38 0 0 0) ∧ (∀ ov μ', cl_X5_need.2.2.2.1 σ [vR 38 0, vI c] (st μ 38 0 0 0) ov μ' → Run fam0 none cd_X5_clientOf ER ET 82 0 [some (vR 38 0), some (vI c), some (vI w)] (ov.toList ++ []) μ') ∧ ∀ kx, cl_X5_need.2.2.2.2 σ [vR 38 0, vI c] (st μ 38 0 0 0) kx → thr cd_X5_clientOf ET (Run fam0 none cd_X5_clientOf ER ET) 79 0 [some (vR 38 0), some (vI c), some (vI w)] (st μ 38 0 0 0) kx
        refine ⟨μ, ⟨rfl, show (0 ≤ c ∧ c ≤ 5) from by omega⟩, fun ov μ' hq => ?_, fun k hk => hk.elim⟩
        obtain ⟨hov, hmu⟩ : ov = some (vL (needF (st μ 38 0 0 0) c)) ∧ μ' = st μ 38 0 0 0 := hq
        rw [hov, hmu]
        show Run fam0 none cd_X5_clientOf ER ET 82 0 [some (vR 38 0), some (vI c), some (vI w)] [vL (needF (st μ 38 0 0 0) c)] (st μ 38 0 0 0)
        refine run_k 1 ?_
        show ER (some (vL (needF (st μ 38 0 0 0) c))) (st μ 38 0 0 0)
        refine hER _ _ ⟨fun h => ?_, fun h => ?_, fun h => ?_⟩ <;> first | (exfalso; omega) | exact ⟨by (first | rw [if_pos (by omega)] | (rw [if_neg (by omega)]; first | rw [if_pos (by omega)] | (rw [if_neg (by omega)]; first | rw [if_pos (by omega)] | (rw [if_neg (by omega)]; first | rw [if_pos (by omega)] | rw [if_neg (by omega)])))) <;> exact congrArg (fun z => some (vL z)) (by omega), rfl⟩ | exact ⟨rfl, rfl⟩
      · refine run_k 3 ?_
        show ∃ σ : Mm, cl_X5_isCalled.2.2.1 σ [vR 38 0, vI c] (st μ 38 0 0 0) ∧ (∀ ov μ', cl_X5_isCalled.2.2.2.1 σ [vR 38 0, vI c] (st μ 38 0 0 0) ov μ' → Run fam0 none cd_X5_clientOf ER ET 88 0 [some (vR 38 0), some (vI c), some (vI w)] (ov.toList ++ []) μ') ∧ ∀ kx, cl_X5_isCalled.2.2.2.2 σ [vR 38 0, vI c] (st μ 38 0 0 0) kx → thr cd_X5_clientOf ET (Run fam0 none cd_X5_clientOf ER ET) 85 0 [some (vR 38 0), some (vI c), some (vI w)] (st μ 38 0 0 0) kx
        refine ⟨μ, ⟨rfl, show (0 ≤ c ∧ c ≤ 5) from by omega⟩, fun ov μ' hq => ?_, fun k hk => hk.elim⟩
        obtain ⟨hov, hmu⟩ : ov = some (vI (calledF (st μ 38 0 0 0) c)) ∧ μ' = st μ 38 0 0 0 := hq
        rw [hov, hmu]
        show Run fam0 none cd_X5_clientOf ER ET 88 0 [some (vR 38 0), some (vI c), some (vI w)] [vI (calledF (st μ 38 0 0 0) c)] (st μ 38 0 0 0)
        refine run_k 1 ?_
        show ((calledF (st μ 38 0 0 0) c) = 0 → Run fam0 none cd_X5_clientOf ER ET 95 0 [some (vR 38 0), some (vI c), some (vI w)] [] (st μ 38 0 0 0)) ∧ ((calledF (st μ 38 0 0 0) c) ≠ 0 → Run fam0 none cd_X5_clientOf ER ET 91 0 [some (vR 38 0), some (vI c), some (vI w)] [] (st μ 38 0 0 0))
        refine ⟨fun c14 => ?_, fun c14 => ?_⟩
        · refine run_k 2 ?_
          show ER (some (vL 0)) (st μ 38 0 0 0)
          refine hER _ _ ⟨fun h => ?_, fun h => ?_, fun h => ?_⟩ <;> first | (exfalso; omega) | exact ⟨by (first | rw [if_pos (by omega)] | (rw [if_neg (by omega)]; first | rw [if_pos (by omega)] | (rw [if_neg (by omega)]; first | rw [if_pos (by omega)] | (rw [if_neg (by omega)]; first | rw [if_pos (by omega)] | rw [if_neg (by omega)])))) <;> exact congrArg (fun z => some (vL z)) (by omega), rfl⟩ | exact ⟨rfl, rfl⟩
        · refine run_k 3 ?_
          show ER (some (vL 1)) (st μ 38 0 0 0)
          refine hER _ _ ⟨fun h => ?_, fun h => ?_, fun h => ?_⟩ <;> first | (exfalso; omega) | exact ⟨by (first | rw [if_pos (by omega)] | (rw [if_neg (by omega)]; first | rw [if_pos (by omega)] | (rw [if_neg (by omega)]; first | rw [if_pos (by omega)] | (rw [if_neg (by omega)]; first | rw [if_pos (by omega)] | rw [if_neg (by omega)])))) <;> exact congrArg (fun z => some (vL z)) (by omega), rfl⟩ | exact ⟨rfl, rfl⟩
      · refine run_k 5 ?_
        show (0 ≤ c ∧ c < 6) ∧ (((μ 44 0 c) = 0 → Run fam0 none cd_X5_clientOf ER ET 110 0 [some (vR 38 0), some (vI c), some (vI w)] [] (st μ 38 0 0 0)) ∧ ((μ 44 0 c) ≠ 0 → Run fam0 none cd_X5_clientOf ER ET 106 0 [some (vR 38 0), some (vI c), some (vI w)] [] (st μ 38 0 0 0)))
        refine ⟨by omega, ?_⟩
        refine ⟨fun c17 => ?_, fun c17 => ?_⟩
        · refine run_k 2 ?_
          show ER (some (vL 0)) (st μ 38 0 0 0)
          refine hER _ _ ⟨fun h => ?_, fun h => ?_, fun h => ?_⟩ <;> first | (exfalso; omega) | exact ⟨by (first | rw [if_pos (by omega)] | (rw [if_neg (by omega)]; first | rw [if_pos (by omega)] | (rw [if_neg (by omega)]; first | rw [if_pos (by omega)] | (rw [if_neg (by omega)]; first | rw [if_pos (by omega)] | rw [if_neg (by omega)])))) <;> exact congrArg (fun z => some (vL z)) (by omega), rfl⟩ | exact ⟨rfl, rfl⟩
        · refine run_k 3 ?_
          show ER (some (vL 1)) (st μ 38 0 0 0)
          refine hER _ _ ⟨fun h => ?_, fun h => ?_, fun h => ?_⟩ <;> first | (exfalso; omega) | exact ⟨by (first | rw [if_pos (by omega)] | (rw [if_neg (by omega)]; first | rw [if_pos (by omega)] | (rw [if_neg (by omega)]; first | rw [if_pos (by omega)] | (rw [if_neg (by omega)]; first | rw [if_pos (by omega)] | rw [if_neg (by omega)])))) <;> exact congrArg (fun z => some (vL z)) (by omega), rfl⟩ | exact ⟨rfl, rfl⟩
    · replace c4 := (bi_e0.mp c4)
      refine run_k 3 ?_
      show ∃ σ : Mm, cl_X5_refused.2.2.1 σ [vR 38 0, vI 2] μ ∧ (∀ ov μ', cl_X5_refused.2.2.2.1 σ [vR 38 0, vI 2] μ ov μ' → Run fam0 none cd_X5_clientOf ER ET 29 0 [some (vR 38 0), some (vI c), some (vI w)] (ov.toList ++ []) μ') ∧ ∀ kx, cl_X5_refused.2.2.2.2 σ [vR 38 0, vI 2] μ kx → thr cd_X5_clientOf ET (Run fam0 none cd_X5_clientOf ER ET) 26 0 [some (vR 38 0), some (vI c), some (vI w)] μ kx
      refine ⟨μ, ⟨rfl, show True from True.intro⟩, fun ov μ' hq => ?_, fun k hk => hk.elim⟩
      obtain ⟨hov, hmu⟩ : ov = some (vI 1) ∧ μ' = st μ 38 0 0 2 := hq
      rw [hov, hmu]
      show Run fam0 none cd_X5_clientOf ER ET 29 0 [some (vR 38 0), some (vI c), some (vI w)] [vI 1] (st μ 38 0 0 2)
      refine run_k 1 ?_
      show (1 = 0 → Run fam0 none cd_X5_clientOf ER ET 34 0 [some (vR 38 0), some (vI c), some (vI w)] [] (st μ 38 0 0 2)) ∧ (1 ≠ 0 → Run fam0 none cd_X5_clientOf ER ET 32 0 [some (vR 38 0), some (vI c), some (vI w)] [] (st μ 38 0 0 2))
      refine ⟨fun c21 => absurd c21 (by decide), fun c21 => ?_⟩
      refine run_k 2 ?_
      show ER (some (vL 0)) (st μ 38 0 0 2)
      refine hER _ _ ⟨fun h => ?_, fun h => ?_, fun h => ?_⟩ <;> first | (exfalso; omega) | exact ⟨by (first | rw [if_pos (by omega)] | (rw [if_neg (by omega)]; first | rw [if_pos (by omega)] | (rw [if_neg (by omega)]; first | rw [if_pos (by omega)] | (rw [if_neg (by omega)]; first | rw [if_pos (by omega)] | rw [if_neg (by omega)])))) <;> exact congrArg (fun z => some (vL z)) (by omega), rfl⟩ | exact ⟨rfl, rfl⟩
  · replace c2 := (bi_e0.mp c2)
    refine run_k 3 ?_
    show ∃ σ : Mm, cl_X5_refused.2.2.1 σ [vR 38 0, vI 1] μ ∧ (∀ ov μ', cl_X5_refused.2.2.2.1 σ [vR 38 0, vI 1] μ ov μ' → Run fam0 none cd_X5_clientOf ER ET 29 0 [some (vR 38 0), some (vI c), some (vI w)] (ov.toList ++ []) μ') ∧ ∀ kx, cl_X5_refused.2.2.2.2 σ [vR 38 0, vI 1] μ kx → thr cd_X5_clientOf ET (Run fam0 none cd_X5_clientOf ER ET) 26 0 [some (vR 38 0), some (vI c), some (vI w)] μ kx
    refine ⟨μ, ⟨rfl, show True from True.intro⟩, fun ov μ' hq => ?_, fun k hk => hk.elim⟩
    obtain ⟨hov, hmu⟩ : ov = some (vI 1) ∧ μ' = st μ 38 0 0 1 := hq
    rw [hov, hmu]
    show Run fam0 none cd_X5_clientOf ER ET 29 0 [some (vR 38 0), some (vI c), some (vI w)] [vI 1] (st μ 38 0 0 1)
    refine run_k 1 ?_
    show (1 = 0 → Run fam0 none cd_X5_clientOf ER ET 34 0 [some (vR 38 0), some (vI c), some (vI w)] [] (st μ 38 0 0 1)) ∧ (1 ≠ 0 → Run fam0 none cd_X5_clientOf ER ET 32 0 [some (vR 38 0), some (vI c), some (vI w)] [] (st μ 38 0 0 1))
    refine ⟨fun c24 => absurd c24 (by decide), fun c24 => ?_⟩
    refine run_k 2 ?_
    show ER (some (vL 0)) (st μ 38 0 0 1)
    refine hER _ _ ⟨fun h => ?_, fun h => ?_, fun h => ?_⟩ <;> first | (exfalso; omega) | exact ⟨by (first | rw [if_pos (by omega)] | (rw [if_neg (by omega)]; first | rw [if_pos (by omega)] | (rw [if_neg (by omega)]; first | rw [if_pos (by omega)] | (rw [if_neg (by omega)]; first | rw [if_pos (by omega)] | rw [if_neg (by omega)])))) <;> exact congrArg (fun z => some (vL z)) (by omega), rfl⟩ | exact ⟨rfl, rfl⟩
theorem vw_X5_189 : ∀ w ∈ ([.methodLink RX5 189 yX5_isCalled, .instanceMethod yX5_isCalled, .selects RX5 yX5_isCalled yX5_isCalled, .initialized RX5, .code yX5_isCalled cX5_isCalled 2 (some .boolean)] : List Cond), w ∈ wm := wm_ps _ [936, 938, 47, 55, 939] (by decide +kernel)
set_option maxRecDepth 20000 in
theorem con_X5_clientOf (l : Launch) (htr : l.stackTraces = false) (σ : Mm) : CON fam0 63 l yX5_clientOf (Cond.code yX5_clientOf cX5_clientOf 3 (some .long) :: wm) 3 73 0 (cl_X5_clientOf.2.2.1 σ) (cl_X5_clientOf.2.2.2.1 σ) (cl_X5_clientOf.2.2.2.2 σ) :=
  con_of (cd := cd_X5_clientOf) (own := RX5) (rk := 2) (sc_of htr (by decide) k_X5_clientOf_ok (by decide +kernel) co_X5_ok fl_X5_ok (all_cons ⟨RX5, yX5_refused, cX5_refused, 2, (some .boolean), 0, 0, 1, con_X5_refused l htr, rfl, vw_X5_127, ⟨rfl, by decide, by decide, by decide +kernel⟩, ⟨by decide, by decide⟩, fun σ as μ h => ⟨38, 0, _, h.1, rfl, TX5, 31, rfl⟩⟩ (all_cons ⟨RX5, yX5_equity, cX5_equity, 5, (some .long), 0, 0, 1, con_X5_equity l htr, rfl, vw_X5_138, ⟨rfl, by decide, by decide, by decide +kernel⟩, ⟨by decide, by decide⟩, fun σ as μ h => ⟨38, 0, _, h.1, rfl, TX5, 31, rfl⟩⟩ (all_cons ⟨RX5, yX5_need, cX5_need, 9, (some .long), 1, 24, 1, con_X5_need l htr, rfl, vw_X5_142, ⟨rfl, by decide, by decide, by decide +kernel⟩, ⟨by decide, by decide⟩, fun σ as μ h => ⟨38, 0, _, h.1, rfl, TX5, 31, rfl⟩⟩ (all_cons ⟨RX5, yX5_isCalled, cX5_isCalled, 2, (some .boolean), 2, 52, 1, con_X5_isCalled l htr, rfl, vw_X5_189, ⟨rfl, by decide, by decide, by decide +kernel⟩, ⟨by decide, by decide⟩, fun σ as μ h => ⟨38, 0, _, h.1, rfl, TX5, 31, rfl⟩⟩ all_nil)))) (all_cons ⟨yX5_isClient, cX5_isClient, 1, (some .boolean), 1, 22, con_X5_isClient l htr, vw_X5_145, ⟨by decide, by decide, by decide +kernel⟩, ⟨by decide, by decide⟩⟩ (all_cons ⟨yX5_in, cX5_in, 3, (some .boolean), 0, 0, con_X5_in l htr, vw_X5_85, ⟨by decide, by decide, by decide +kernel⟩, ⟨by decide, by decide⟩⟩ all_nil)) all_nil) rfl (by decide +kernel) rfl rfl rfl rfl (fun as μ hs => by rw [hs.1]; exact Nat.le_of_ble_eq_true rfl)
    (fun as μ hs hM hrg => by
      have hs1 := hs.1
      have hmem : ∀ v, v ∈ ([vR 38 0, vI (iaI as 1), vI (iaI as 2)] : List AV) → rg fam0 v := by rw [← hs1]; exact hrg
      have key := run_X5_clientOf (ER := cl_X5_clientOf.2.2.2.1 σ as μ) (ET := fun k μ' => cl_X5_clientOf.2.2.2.2 σ as μ k ∧ μ' = μ) σ μ (iaI as 1) (iaI as 2) hM (hmem (vI (iaI as 1)) (by simp)) (hmem (vI (iaI as 2)) (by simp)) hs.2 (fun ov μ' h => h)
      have e : entL as 3 = [some (vR 38 0), some (vI (iaI as 1)), some (vI (iaI as 2))] := by rw [hs1]; rfl
      rw [e]; exact key)
def divA (μ : Mm) (s v : Int) : Nat → Mm
  | 0 => st μ 38 0 0 0
  | k + 1 => st (divA μ s v k) 41 0 k (w64 (divA μ s v k 41 0 k + w64 (divA μ s v k 42 0 (4 * (k : Int) + s) * v)))
def divB (μ : Mm) (s v : Int) : Nat → Mm × Int
  | 0 => (divA μ s v 6, 0)
  | j + 1 => (st (divB μ s v j).1 47 0 j (w64 ((divB μ s v j).1 47 0 j + w64 (lentF (divB μ s v j).1 (10 + (j : Int)) s * v))), w64 ((divB μ s v j).2 + w64 (lentF (divB μ s v j).1 (10 + (j : Int)) s * v)))
theorem divA_ok {μ : Mm} (hW : Wk μ) (s v : Int) : ∀ k : Nat, Wk (divA μ s v k)
  | 0 => Wk_st hW (by decide)
  | k + 1 => by
    rw [divA]
    exact Wk_st (divA_ok hW s v k) (by omega)
theorem divB_ok {μ : Mm} (hW : Wk μ) (s v : Int) : ∀ k : Nat, Wk (divB μ s v k).1
  | 0 => divA_ok hW s v 6
  | k + 1 => by
    rw [divB]
    exact Wk_st (divB_ok hW s v k) (by omega)
/-! ### PrimeborrowModel.dividend -/
def cl_X5_dividend : Cl := (3, 0, fun σ as μ => as = [vR 38 0, vI (iaI as 1), vI (iaI as 2)] ∧ (Wk μ ∧ Xk μ), fun σ as μ ov μ' => ((¬ (0 ≤ (iaI as 1) ∧ (iaI as 1) ≤ 3)) → ov = some (vL 0) ∧ μ' = st μ 38 0 0 1) ∧ (((0 ≤ (iaI as 1) ∧ (iaI as 1) ≤ 3) ∧ ¬ (1 ≤ (iaI as 2) ∧ (iaI as 2) ≤ 10000)) → ov = some (vL 0) ∧ μ' = st μ 38 0 0 2) ∧ (((0 ≤ (iaI as 1) ∧ (iaI as 1) ≤ 3) ∧ (1 ≤ (iaI as 2) ∧ (iaI as 2) ≤ 10000)) → ov = some (vL ((divB μ (iaI as 1) (iaI as 2) 4).2)) ∧ μ' = (divB μ (iaI as 1) (iaI as 2) 4).1), fun σ as μ k => False)
def cd_X5_dividend : Cd := mkcd k_X5_dividend co_X5 fl_X5 [(127, cl_X5_refused), (92, cl_X5_lentFrom)] [(122, cl_X5_isStock), (85, cl_X5_in)] [] [] 8 2 0
set_option maxHeartbeats 4000000 in
set_option maxRecDepth 20000 in
theorem run_X5_dividend {ER : Option AV → Mm → Prop} {ET : Nat → Mm → Prop} (σ μ : Mm) (s v : Int) (hM : MR fam0 μ) (h_s : in32 s) (h_v : in32 v) (hP : Wk μ ∧ Xk μ) (hER : ∀ ov μ', (((¬ (0 ≤ s ∧ s ≤ 3)) → ov = some (vL 0) ∧ μ' = st μ 38 0 0 1) ∧ (((0 ≤ s ∧ s ≤ 3) ∧ ¬ (1 ≤ v ∧ v ≤ 10000)) → ov = some (vL 0) ∧ μ' = st μ 38 0 0 2) ∧ (((0 ≤ s ∧ s ≤ 3) ∧ (1 ≤ v ∧ v ≤ 10000)) → ov = some (vL ((divB μ s v 4).2)) ∧ μ' = (divB μ s v 4).1)) → ER ov μ') : Run fam0 none cd_X5_dividend ER ET 0 0 [some (vR 38 0), some (vI s), some (vI v), none, none, none, none, none] [] μ := by
  obtain ⟨hW, hX⟩ := hP
  have hW0 : Wk (st μ 38 0 0 0) := Wk_st hW (by decide)
  have hLk := hW.1
  have hLk0 := hW0.1
  have hPk := hW.2.1
  have hPk0 := hW0.2.1
  have hGk := Gk_of hLk hW.2.2.2.2
  have hGk0 := Gk_of hLk0 hW0.2.2.2.2
  have hday := hX.1
  have hloc := hX.2.1.1
  have hrec := hX.2.2.1.1
  have hl0 := hLk.1
  refine run_k 3 ?_
  show ∃ σ : Mm, cl_X5_isStock.2.2.1 σ [vI s] μ ∧ (∀ ov μ', cl_X5_isStock.2.2.2.1 σ [vI s] μ ov μ' → Run fam0 none cd_X5_dividend ER ET 5 0 [some (vR 38 0), some (vI s), some (vI v), none, none, none, none, none] (ov.toList ++ [vR 38 0]) μ') ∧ ∀ kx, cl_X5_isStock.2.2.2.2 σ [vI s] μ kx → thr cd_X5_dividend ET (Run fam0 none cd_X5_dividend ER ET) 2 0 [some (vR 38 0), some (vI s), some (vI v), none, none, none, none, none] μ kx
  refine ⟨μ, ⟨rfl, show True from True.intro⟩, fun ov μ' hq => ?_, fun k hk => hk.elim⟩
  obtain ⟨hov, hmu⟩ : ov = some (vI (bi (0 ≤ s ∧ s ≤ 3))) ∧ μ' = μ := hq
  rw [hov, hmu]
  show Run fam0 none cd_X5_dividend ER ET 5 0 [some (vR 38 0), some (vI s), some (vI v), none, none, none, none, none] [vI (bi (0 ≤ s ∧ s ≤ 3)), vR 38 0] μ
  refine run_k 1 ?_
  show ((bi (0 ≤ s ∧ s ≤ 3)) ≠ 0 → Run fam0 none cd_X5_dividend ER ET 12 0 [some (vR 38 0), some (vI s), some (vI v), none, none, none, none, none] [vR 38 0] μ) ∧ ((bi (0 ≤ s ∧ s ≤ 3)) = 0 → Run fam0 none cd_X5_dividend ER ET 8 0 [some (vR 38 0), some (vI s), some (vI v), none, none, none, none, none] [vR 38 0] μ)
  refine ⟨fun c2 => ?_, fun c2 => ?_⟩
  · replace c2 := (bi_n0.mp c2)
    refine run_k 4 ?_
    show ∃ σ : Mm, cl_X5_in.2.2.1 σ [vI v, vI 1, vI 10000] μ ∧ (∀ ov μ', cl_X5_in.2.2.2.1 σ [vI v, vI 1, vI 10000] μ ov μ' → Run fam0 none cd_X5_dividend ER ET 20 0 [some (vR 38 0), some (vI s), some (vI v), none, none, none, none, none] (ov.toList ++ [vR 38 0]) μ') ∧ ∀ kx, cl_X5_in.2.2.2.2 σ [vI v, vI 1, vI 10000] μ kx → thr cd_X5_dividend ET (Run fam0 none cd_X5_dividend ER ET) 17 0 [some (vR 38 0), some (vI s), some (vI v), none, none, none, none, none] μ kx
    refine ⟨μ, ⟨rfl, show True from True.intro⟩, fun ov μ' hq => ?_, fun k hk => hk.elim⟩
    obtain ⟨hov, hmu⟩ : ov = some (vI (bi (1 ≤ v ∧ v ≤ 10000))) ∧ μ' = μ := hq
    rw [hov, hmu]
    show Run fam0 none cd_X5_dividend ER ET 20 0 [some (vR 38 0), some (vI s), some (vI v), none, none, none, none, none] [vI (bi (1 ≤ v ∧ v ≤ 10000)), vR 38 0] μ
    refine run_k 1 ?_
    show ((bi (1 ≤ v ∧ v ≤ 10000)) ≠ 0 → Run fam0 none cd_X5_dividend ER ET 27 0 [some (vR 38 0), some (vI s), some (vI v), none, none, none, none, none] [vR 38 0] μ) ∧ ((bi (1 ≤ v ∧ v ≤ 10000)) = 0 → Run fam0 none cd_X5_dividend ER ET 23 0 [some (vR 38 0), some (vI s), some (vI v), none, none, none, none, none] [vR 38 0] μ)
    refine ⟨fun c4 => ?_, fun c4 => ?_⟩
    · replace c4 := (bi_n0.mp c4)
      refine run_k 2 ?_
      show ∃ σ : Mm, cl_X5_refused.2.2.1 σ [vR 38 0, vI 0] μ ∧ (∀ ov μ', cl_X5_refused.2.2.2.1 σ [vR 38 0, vI 0] μ ov μ' → Run fam0 none cd_X5_dividend ER ET 31 0 [some (vR 38 0), some (vI s), some (vI v), none, none, none, none, none] (ov.toList ++ []) μ') ∧ ∀ kx, cl_X5_refused.2.2.2.2 σ [vR 38 0, vI 0] μ kx → thr cd_X5_dividend ET (Run fam0 none cd_X5_dividend ER ET) 28 0 [some (vR 38 0), some (vI s), some (vI v), none, none, none, none, none] μ kx
      refine ⟨μ, ⟨rfl, show True from True.intro⟩, fun ov μ' hq => ?_, fun k hk => hk.elim⟩
      obtain ⟨hov, hmu⟩ : ov = some (vI 0) ∧ μ' = st μ 38 0 0 0 := hq
      rw [hov, hmu]
      show Run fam0 none cd_X5_dividend ER ET 31 0 [some (vR 38 0), some (vI s), some (vI v), none, none, none, none, none] [vI 0] (st μ 38 0 0 0)
      refine run_k 1 ?_
      show (0 = 0 → Run fam0 none cd_X5_dividend ER ET 36 0 [some (vR 38 0), some (vI s), some (vI v), none, none, none, none, none] [] (st μ 38 0 0 0)) ∧ (0 ≠ 0 → Run fam0 none cd_X5_dividend ER ET 34 0 [some (vR 38 0), some (vI s), some (vI v), none, none, none, none, none] [] (st μ 38 0 0 0))
      refine ⟨fun c6 => ?_, fun c6 => absurd c6 (by decide)⟩
      refine run_k 2 ?_
      show Run fam0 none cd_X5_dividend ER ET 38 0 [some (vR 38 0), some (vI s), some (vI v), some (vI 0), none, none, none, none] [] (st μ 38 0 0 0)
      have lp38 : ∀ (fz : Nat) (k : Nat) (M : Mm), (6 - (k : Int)).toNat < fz → ((k : Int) ≤ 6 ∧ M = divA μ s v k) → Run fam0 none cd_X5_dividend ER ET 38 0 [some (vR 38 0), some (vI s), some (vI v), some (vI (k : Int)), none, none, none, none] [] M := by
        intro fz
        induction fz with
        | zero => intro k M hf; omega
        | succ fz ih38 =>
          intro k M hf hI
          obtain ⟨hk1, hM2⟩ := hI
          refine run_k 3 ?_
          show (6 ≤ (k : Int) → Run fam0 none cd_X5_dividend ER ET 73 0 [some (vR 38 0), some (vI s), some (vI v), some (vI (k : Int)), none, none, none, none] [] M) ∧ ((k : Int) < 6 → Run fam0 none cd_X5_dividend ER ET 44 0 [some (vR 38 0), some (vI s), some (vI v), some (vI (k : Int)), none, none, none, none] [] M)
          refine ⟨fun c8 => ?_, fun c8 => ?_⟩
          · refine run_k 4 ?_
            show Run fam0 none cd_X5_dividend ER ET 78 0 [some (vR 38 0), some (vI s), some (vI v), some (vL 0), none, some (vI 0), none, none] [] M
            have lp78 : ∀ (fz : Nat) (j : Nat) (N : Mm) (x : Int), (4 - (j : Int)).toNat < fz → ((j : Int) ≤ 4 ∧ N = (divB μ s v j).1 ∧ x = (divB μ s v j).2) → Run fam0 none cd_X5_dividend ER ET 78 0 [some (vR 38 0), some (vI s), some (vI v), some (vL x), none, some (vI (j : Int)), none, none] [] N := by
              intro fz
              induction fz with
              | zero => intro j N x hf; omega
              | succ fz ih78 =>
                intro j N x hf hI
                obtain ⟨hj1, hN2, hx2⟩ := hI
                have hWN : Wk N := by rw [hN2]; exact divB_ok hW s v j
                have hLkN := hWN.1
                have hlr := lentF_rng hLkN (10 + (j : Int)) s
                refine run_k 3 ?_
                show (4 ≤ (j : Int) → Run fam0 none cd_X5_dividend ER ET 123 0 [some (vR 38 0), some (vI s), some (vI v), some (vL x), none, some (vI (j : Int)), none, none] [] N) ∧ ((j : Int) < 4 → Run fam0 none cd_X5_dividend ER ET 84 0 [some (vR 38 0), some (vI s), some (vI v), some (vL x), none, some (vI (j : Int)), none, none] [] N)
                refine ⟨fun c10 => ?_, fun c10 => ?_⟩
                · refine run_k 2 ?_
                  show ER (some (vL x)) N
                  refine hER _ _ ⟨fun h => ?_, fun h => ?_, fun h => ?_⟩ <;> first | (exfalso; omega) | exact ⟨by rw [hx2, show j = 4 by omega], by rw [hN2, show j = 4 by omega]⟩ | exact ⟨rfl, rfl⟩
                · refine run_k 6 ?_
                  show ∃ σ : Mm, cl_X5_lentFrom.2.2.1 σ [vR 38 0, vI (w32 (10 + (j : Int))), vI s] N ∧ (∀ ov μ', cl_X5_lentFrom.2.2.2.1 σ [vR 38 0, vI (w32 (10 + (j : Int))), vI s] N ov μ' → Run fam0 none cd_X5_dividend ER ET 94 0 [some (vR 38 0), some (vI s), some (vI v), some (vL x), none, some (vI (j : Int)), none, none] (ov.toList ++ []) μ') ∧ ∀ kx, cl_X5_lentFrom.2.2.2.2 σ [vR 38 0, vI (w32 (10 + (j : Int))), vI s] N kx → thr cd_X5_dividend ET (Run fam0 none cd_X5_dividend ER ET) 91 0 [some (vR 38 0), some (vI s), some (vI v), some (vL x), none, some (vI (j : Int)), none, none] N kx
                  rw [show w32 (10 + (j : Int)) = 10 + (j : Int) from w32_id (by simp only [in32]; omega)]
                  refine ⟨μ, ⟨rfl, show Lk N from (by assumption)⟩, fun ov μ' hq => ?_, fun k hk => hk.elim⟩
                  obtain ⟨hov, hmu⟩ : ov = some (vI (lentF N (10 + (j : Int)) s)) ∧ μ' = N := hq
                  rw [hov, hmu]
                  show Run fam0 none cd_X5_dividend ER ET 94 0 [some (vR 38 0), some (vI s), some (vI v), some (vL x), none, some (vI (j : Int)), none, none] [vI (lentF N (10 + (j : Int)) s)] N
                  refine run_k 19 ?_
                  show (0 ≤ (j : Int) ∧ (j : Int) < 4) ∧ ((0 ≤ (j : Int) ∧ (j : Int) < 4) ∧ (Run fam0 none cd_X5_dividend ER ET 78 0 [some (vR 38 0), some (vI s), some (vI v), some (vL (w64 (x + (w64 ((lentF N (10 + (j : Int)) s) * v))))), none, some (vI (w32 ((j : Int) + 1))), some (vL (w64 ((lentF N (10 + (j : Int)) s) * v))), none] [] (st N 47 0 (j : Int) (w64 ((N 47 0 (j : Int)) + (w64 ((lentF N (10 + (j : Int)) s) * v)))))))
                  rw [show w32 ((j : Int) + 1) = (j : Int) + 1 from w32_id (by simp only [in32]; omega)]
                  refine ⟨by omega, ?_⟩
                  refine ⟨by omega, ?_⟩
                  refine run_w (L' := [some (vR 38 0), some (vI s), some (vI v), some (vL (w64 (x + (w64 ((lentF N (10 + (j : Int)) s) * v))))), none, some (vI ((j : Int) + 1)), none, none]) ⟨rfl, rfl, rfl, rfl, rfl, True.intro⟩ ?_
                  exact ih78 (j + 1) (st N 47 0 (j : Int) (w64 ((N 47 0 (j : Int)) + (w64 ((lentF N (10 + (j : Int)) s) * v))))) (w64 (x + (w64 ((lentF N (10 + (j : Int)) s) * v)))) (by omega) (⟨by omega, by rw [divB, ← hN2], by rw [divB, ← hN2, ← hx2]⟩)
            exact lp78 _ 0 M 0 (Nat.lt_succ_self _) (⟨by omega, by rw [hM2, show k = 6 by omega]; rfl, rfl⟩)
          · refine run_k 21 ?_
            show (0 ≤ (k : Int) ∧ (k : Int) < 6) ∧ ((0 ≤ (w32 ((w32 (4 * (k : Int))) + s)) ∧ (w32 ((w32 (4 * (k : Int))) + s)) < 24) ∧ ((0 ≤ (k : Int) ∧ (k : Int) < 6) ∧ (Run fam0 none cd_X5_dividend ER ET 38 0 [some (vR 38 0), some (vI s), some (vI v), some (vI (w32 ((k : Int) + 1))), none, none, none, none] [] (st M 41 0 (k : Int) (w64 ((M 41 0 (k : Int)) + (w64 ((M 42 0 (w32 ((w32 (4 * (k : Int))) + s))) * v))))))))
            rw [show w32 (4 * (k : Int)) = 4 * (k : Int) from w32_id (by simp only [in32]; omega)]
            rw [show w32 ((4 * (k : Int)) + s) = (4 * (k : Int)) + s from w32_id (by simp only [in32]; omega)]
            rw [show w32 ((k : Int) + 1) = (k : Int) + 1 from w32_id (by simp only [in32]; omega)]
            refine ⟨by omega, ?_⟩
            refine ⟨by omega, ?_⟩
            refine ⟨by omega, ?_⟩
            exact ih38 (k + 1) (st M 41 0 (k : Int) (w64 ((M 41 0 (k : Int)) + (w64 ((M 42 0 ((4 * (k : Int)) + s)) * v))))) (by omega) (⟨by omega, by rw [divA, ← hM2]⟩)
      exact lp38 _ 0 (st μ 38 0 0 0) (Nat.lt_succ_self _) (⟨by omega, rfl⟩)
    · replace c4 := (bi_e0.mp c4)
      refine run_k 3 ?_
      show ∃ σ : Mm, cl_X5_refused.2.2.1 σ [vR 38 0, vI 2] μ ∧ (∀ ov μ', cl_X5_refused.2.2.2.1 σ [vR 38 0, vI 2] μ ov μ' → Run fam0 none cd_X5_dividend ER ET 31 0 [some (vR 38 0), some (vI s), some (vI v), none, none, none, none, none] (ov.toList ++ []) μ') ∧ ∀ kx, cl_X5_refused.2.2.2.2 σ [vR 38 0, vI 2] μ kx → thr cd_X5_dividend ET (Run fam0 none cd_X5_dividend ER ET) 28 0 [some (vR 38 0), some (vI s), some (vI v), none, none, none, none, none] μ kx
      refine ⟨μ, ⟨rfl, show True from True.intro⟩, fun ov μ' hq => ?_, fun k hk => hk.elim⟩
      obtain ⟨hov, hmu⟩ : ov = some (vI 1) ∧ μ' = st μ 38 0 0 2 := hq
      rw [hov, hmu]
      show Run fam0 none cd_X5_dividend ER ET 31 0 [some (vR 38 0), some (vI s), some (vI v), none, none, none, none, none] [vI 1] (st μ 38 0 0 2)
      refine run_k 1 ?_
      show (1 = 0 → Run fam0 none cd_X5_dividend ER ET 36 0 [some (vR 38 0), some (vI s), some (vI v), none, none, none, none, none] [] (st μ 38 0 0 2)) ∧ (1 ≠ 0 → Run fam0 none cd_X5_dividend ER ET 34 0 [some (vR 38 0), some (vI s), some (vI v), none, none, none, none, none] [] (st μ 38 0 0 2))
      refine ⟨fun c16 => absurd c16 (by decide), fun c16 => ?_⟩
      refine run_k 2 ?_
      show ER (some (vL 0)) (st μ 38 0 0 2)
      refine hER _ _ ⟨fun h => ?_, fun h => ?_, fun h => ?_⟩ <;> first | (exfalso; omega) | exact ⟨by rw [hx2, show j = 4 by omega], by rw [hN2, show j = 4 by omega]⟩ | exact ⟨rfl, rfl⟩
  · replace c2 := (bi_e0.mp c2)
    refine run_k 3 ?_
    show ∃ σ : Mm, cl_X5_refused.2.2.1 σ [vR 38 0, vI 1] μ ∧ (∀ ov μ', cl_X5_refused.2.2.2.1 σ [vR 38 0, vI 1] μ ov μ' → Run fam0 none cd_X5_dividend ER ET 31 0 [some (vR 38 0), some (vI s), some (vI v), none, none, none, none, none] (ov.toList ++ []) μ') ∧ ∀ kx, cl_X5_refused.2.2.2.2 σ [vR 38 0, vI 1] μ kx → thr cd_X5_dividend ET (Run fam0 none cd_X5_dividend ER ET) 28 0 [some (vR 38 0), some (vI s), some (vI v), none, none, none, none, none] μ kx
    refine ⟨μ, ⟨rfl, show True from True.intro⟩, fun ov μ' hq => ?_, fun k hk => hk.elim⟩
    obtain ⟨hov, hmu⟩ : ov = some (vI 1) ∧ μ' = st μ 38 0 0 1 := hq
    rw [hov, hmu]
    show Run fam0 none cd_X5_dividend ER ET 31 0 [some (vR 38 0), some (vI s), some (vI v), none, none, none, none, none] [vI 1] (st μ 38 0 0 1)
    refine run_k 1 ?_
    show (1 = 0 → Run fam0 none cd_X5_dividend ER ET 36 0 [some (vR 38 0), some (vI s), some (vI v), none, none, none, none, none] [] (st μ 38 0 0 1)) ∧ (1 ≠ 0 → Run fam0 none cd_X5_dividend ER ET 34 0 [some (vR 38 0), some (vI s), some (vI v), none, none, none, none, none] [] (st μ 38 0 0 1))
    refine ⟨fun c19 => absurd c19 (by decide), fun c19 => ?_⟩
    refine run_k 2 ?_
    show ER (some (vL 0)) (st μ 38 0 0 1)
    refine hER _ _ ⟨fun h => ?_, fun h => ?_, fun h => ?_⟩ <;> first | (exfalso; omega) | exact ⟨by rw [hx2, show j = 4 by omega], by rw [hN2, show j = 4 by omega]⟩ | exact ⟨rfl, rfl⟩
set_option maxRecDepth 20000 in
theorem con_X5_dividend (l : Launch) (htr : l.stackTraces = false) (σ : Mm) : CON fam0 63 l yX5_dividend (Cond.code yX5_dividend cX5_dividend 8 (some .long) :: wm) 2 42 0 (cl_X5_dividend.2.2.1 σ) (cl_X5_dividend.2.2.2.1 σ) (cl_X5_dividend.2.2.2.2 σ) :=
  con_of (cd := cd_X5_dividend) (own := RX5) (rk := 2) (sc_of htr (by decide) k_X5_dividend_ok (by decide +kernel) co_X5_ok fl_X5_ok (all_cons ⟨RX5, yX5_refused, cX5_refused, 2, (some .boolean), 0, 0, 1, con_X5_refused l htr, rfl, vw_X5_127, ⟨rfl, by decide, by decide, by decide +kernel⟩, ⟨by decide, by decide⟩, fun σ as μ h => ⟨38, 0, _, h.1, rfl, TX5, 31, rfl⟩⟩ (all_cons ⟨RX5, yX5_lentFrom, cX5_lentFrom, 5, (some .int), 0, 0, 2, con_X5_lentFrom l htr, rfl, vw_X5_92, ⟨rfl, by decide, by decide, by decide +kernel⟩, ⟨by decide, by decide⟩, fun σ as μ h => ⟨38, 0, _, h.1, rfl, TX5, 31, rfl⟩⟩ all_nil)) (all_cons ⟨yX5_isStock, cX5_isStock, 1, (some .boolean), 1, 22, con_X5_isStock l htr, vw_X5_122, ⟨by decide, by decide, by decide +kernel⟩, ⟨by decide, by decide⟩⟩ (all_cons ⟨yX5_in, cX5_in, 3, (some .boolean), 0, 0, con_X5_in l htr, vw_X5_85, ⟨by decide, by decide, by decide +kernel⟩, ⟨by decide, by decide⟩⟩ all_nil)) all_nil) rfl (by decide +kernel) rfl rfl rfl rfl (fun as μ hs => by rw [hs.1]; exact Nat.le_of_ble_eq_true rfl)
    (fun as μ hs hM hrg => by
      have hs1 := hs.1
      have hmem : ∀ v, v ∈ ([vR 38 0, vI (iaI as 1), vI (iaI as 2)] : List AV) → rg fam0 v := by rw [← hs1]; exact hrg
      have key := run_X5_dividend (ER := cl_X5_dividend.2.2.2.1 σ as μ) (ET := fun k μ' => cl_X5_dividend.2.2.2.2 σ as μ k ∧ μ' = μ) σ μ (iaI as 1) (iaI as 2) hM (hmem (vI (iaI as 1)) (by simp)) (hmem (vI (iaI as 2)) (by simp)) hs.2 (fun ov μ' h => h)
      have e : entL as 8 = [some (vR 38 0), some (vI (iaI as 1)), some (vI (iaI as 2)), none, none, none, none, none] := by rw [hs1]; rfl
      rw [e]; exact key)
