/-! ===== the cases of the law's switch -/
set_option maxHeartbeats 4000000 in
set_option maxRecDepth 20000 in
theorem law_0 {b : Nat} {L : Int} {xs : Int → Int} {ER : Option AV → Mm → Prop} {ET : Nat → Mm → Prop} {B : Int} {μ : Mm} {i : Int} {n : Nat} (hJ : J B μ) (h0 : 0 ≤ B) (hB : B ≤ 8000000000000000000) (hi : 0 ≤ i ∧ i + 5 ≤ L) (hL : L ≤ 2560) (hn : n ≤ 19000) (hN : ∀ (μ' : Mm) (n' : Nat), J (B + 10000000000000000) μ' → n ≤ n' → n' ≤ n + 5 → LW b L xs ER ET 1787 n' [some (vX b), some (vR 0 0), some (vR 38 0), some (vR 62 0), some (vI i), none, none, none] [] μ') : LW b L xs ER ET 148 n [some (vX b), some (vR 0 0), some (vR 38 0), some (vR 62 0), some (vI i), none, none, none] [] μ := by
  refine run_k 13 ?_
  show (b = b) ∧ ((0 ≤ (w32 (i + 1)) ∧ (w32 (i + 1)) < L) ∧ ((b = b) ∧ ((0 ≤ (w32 (i + 2)) ∧ (w32 (i + 2)) < L) ∧ (bT _ (∃ σ : Mm, cl_L_price.2.2.1 σ [vR 0 0, vI (xs (w32 (i + 1))), vI (xs (w32 (i + 2))), vR 62 0] μ ∧ (∀ ov μ', cl_L_price.2.2.2.1 σ [vR 0 0, vI (xs (w32 (i + 1))), vI (xs (w32 (i + 2))), vR 62 0] μ ov μ' → LW b L xs ER ET 165 (n + 2) [some (vX b), some (vR 0 0), some (vR 38 0), some (vR 62 0), some (vI i), none, none, none] (ov.toList ++ []) μ') ∧ ∀ kx, cl_L_price.2.2.2.2 σ [vR 0 0, vI (xs (w32 (i + 1))), vI (xs (w32 (i + 2))), vR 62 0] μ kx → thr cd_L_law ET (LW b L xs ER ET) 162 (n + 2) [some (vX b), some (vR 0 0), some (vR 38 0), some (vR 62 0), some (vI i), none, none, none] μ kx)))))
  rw [show w32 (i + 1) = i + 1 from w32_id (by simp only [in32]; omega)]
  rw [show w32 (i + 2) = i + 2 from w32_id (by simp only [in32]; omega)]
  refine ⟨rfl, ?_⟩
  refine ⟨by omega, ?_⟩
  refine ⟨rfl, ?_⟩
  refine ⟨by omega, ?_⟩
  refine bT_3 rfl rfl (Nat.ble_eq_true_of_le (show _ ≤ (20000 : Nat) from by omega)) ?_
  refine ⟨μ, ⟨rfl, show CV μ from hJ.1⟩, fun ov μ' hq => ?_, fun k hk => hk.elim⟩
  have hq : (((0 ≤ (xs (i + 1)) ∧ (xs (i + 1)) ≤ 3) ∧ (1 ≤ (xs (i + 2)) ∧ (xs (i + 2)) ≤ 100000)) → ov = some (vI 0) ∧ μ' 62 0 0 = (μ 1 0 (xs (i + 1))) ∧ al μ' = st (al μ) 39 0 (xs (i + 1)) (xs (i + 2)) ∧ PB2 μ μ') ∧ ((¬ (0 ≤ (xs (i + 1)) ∧ (xs (i + 1)) ≤ 3)) → ov = some (vI 1) ∧ μ' = μ) ∧ (((0 ≤ (xs (i + 1)) ∧ (xs (i + 1)) ≤ 3) ∧ ¬ (1 ≤ (xs (i + 2)) ∧ (xs (i + 2)) ≤ 100000)) → ov = some (vI 2) ∧ μ' = μ) := hq
  obtain ⟨kk, hov, hP1, hpre, hcal⟩ := cal_price hJ h0 hB hq
  rw [hov]
  clear hov hq
  rename Mm => M1
  show LW b L xs ER ET 165 (n + 2) [some (vX b), some (vR 0 0), some (vR 38 0), some (vR 62 0), some (vI i), none, none, none] [vI kk] M1
  refine run_k 13 ?_
  show (b = b) ∧ ((0 ≤ (w32 (i + 1)) ∧ (w32 (i + 1)) < L) ∧ ((b = b) ∧ ((0 ≤ (w32 (i + 2)) ∧ (w32 (i + 2)) < L) ∧ (bT _ (∃ σ : Mm, cl_X5_price.2.2.1 σ [vR 38 0, vI (xs (w32 (i + 1))), vI (xs (w32 (i + 2)))] M1 ∧ (∀ ov μ', cl_X5_price.2.2.2.1 σ [vR 38 0, vI (xs (w32 (i + 1))), vI (xs (w32 (i + 2)))] M1 ov μ' → LW b L xs ER ET 183 (n + 2) [some (vX b), some (vR 0 0), some (vR 38 0), some (vR 62 0), some (vI i), some (vI kk), none, none] (ov.toList ++ []) μ') ∧ ∀ kx, cl_X5_price.2.2.2.2 σ [vR 38 0, vI (xs (w32 (i + 1))), vI (xs (w32 (i + 2)))] M1 kx → thr cd_L_law ET (LW b L xs ER ET) 180 (n + 2) [some (vX b), some (vR 0 0), some (vR 38 0), some (vR 62 0), some (vI i), some (vI kk), none, none] M1 kx)))))
  rw [show w32 (i + 1) = i + 1 from w32_id (by simp only [in32]; omega)]
  rw [show w32 (i + 2) = i + 2 from w32_id (by simp only [in32]; omega)]
  refine ⟨rfl, ?_⟩
  refine ⟨by omega, ?_⟩
  refine ⟨rfl, ?_⟩
  refine ⟨by omega, ?_⟩
  refine bT_3 rfl rfl (Nat.ble_eq_true_of_le (show _ ≤ (20000 : Nat) from by omega)) ?_
  refine ⟨μ, ⟨rfl, show Wk M1 ∧ Xk M1 from ⟨hpre.1, hpre.2⟩⟩, fun ov μ' hq => ?_, fun k hk => hk.elim⟩
  obtain ⟨bv, hov2, hJ2, hth, hbv⟩ := hcal ov μ' hq
  rw [hov2]
  clear hov2 hq
  rename Mm => M2
  show LW b L xs ER ET 183 (n + 2) [some (vX b), some (vR 0 0), some (vR 38 0), some (vR 62 0), some (vI i), some (vI kk), none, none] [vI bv] M2
  refine run_k 3 ?_
  show bT _ (∃ σ : Mm, cl_X5_thrown.2.2.1 σ [vR 38 0] M2 ∧ (∀ ov μ', cl_X5_thrown.2.2.2.1 σ [vR 38 0] M2 ov μ' → LW b L xs ER ET 189 (n + 2) [some (vX b), some (vR 0 0), some (vR 38 0), some (vR 62 0), some (vI i), some (vI kk), some (vI bv), none] (ov.toList ++ []) μ') ∧ ∀ kx, cl_X5_thrown.2.2.2.2 σ [vR 38 0] M2 kx → thr cd_L_law ET (LW b L xs ER ET) 186 (n + 2) [some (vX b), some (vR 0 0), some (vR 38 0), some (vR 62 0), some (vI i), some (vI kk), some (vI bv), none] M2 kx)
  refine bT_3 rfl rfl (Nat.ble_eq_true_of_le (show _ ≤ (20000 : Nat) from by omega)) ?_
  refine ⟨μ, ⟨rfl, show True from True.intro⟩, fun ov μ' hq => ?_, fun k hk => hk.elim⟩
  obtain ⟨hov3, hmu⟩ : ov = some (vI (M2 38 0 0)) ∧ μ' = M2 := hq
  rw [hov3, hmu, hth]
  show LW b L xs ER ET 189 (n + 2) [some (vX b), some (vR 0 0), some (vR 38 0), some (vR 62 0), some (vI i), some (vI kk), some (vI bv), none] [vI kk] M2
  refine run_k 2 ?_
  show (kk = kk → LW b L xs ER ET 196 (n + 2) [some (vX b), some (vR 0 0), some (vR 38 0), some (vR 62 0), some (vI i), some (vI kk), some (vI bv), none] [] M2) ∧ (kk ≠ kk → LW b L xs ER ET 194 (n + 2) [some (vX b), some (vR 0 0), some (vR 38 0), some (vR 62 0), some (vI i), some (vI kk), some (vI bv), none] [] M2)
  refine ⟨fun c4 => ?_, fun c4 => ?_⟩
  · refine run_k 2 ?_
    show (kk ≠ 0 → LW b L xs ER ET 213 (n + 2) [some (vX b), some (vR 0 0), some (vR 38 0), some (vR 62 0), some (vI i), some (vI kk), some (vI bv), none] [] M2) ∧ (kk = 0 → LW b L xs ER ET 201 (n + 2) [some (vX b), some (vR 0 0), some (vR 38 0), some (vR 62 0), some (vI i), some (vI kk), some (vI bv), none] [] M2)
    refine ⟨fun c5 => ?_, fun c5 => ?_⟩
    · refine run_k 1 ?_
      show LW b L xs ER ET 1787 (n + 2) [some (vX b), some (vR 0 0), some (vR 38 0), some (vR 62 0), some (vI i), some (vI kk), some (vI bv), none] [] M2
      refine run_w (L' := [some (vX b), some (vR 0 0), some (vR 38 0), some (vR 62 0), some (vI i), none, none, none]) ⟨rfl, rfl, rfl, rfl, rfl, True.intro⟩ ?_
      exact hN _ _ hJ2 (by omega) (by omega)
    · refine run_k 7 ?_
      show (0 ≤ 0 ∧ 0 < 1) ∧ (((cmpL (M2 62 0 0) bv) = 0 → LW b L xs ER ET 213 (n + 2) [some (vX b), some (vR 0 0), some (vR 38 0), some (vR 62 0), some (vI i), some (vI kk), some (vI bv), none] [] M2) ∧ ((cmpL (M2 62 0 0) bv) ≠ 0 → LW b L xs ER ET 211 (n + 2) [some (vX b), some (vR 0 0), some (vR 38 0), some (vR 62 0), some (vI i), some (vI kk), some (vI bv), none] [] M2))
      refine ⟨by omega, ?_⟩
      refine ⟨fun c7 => ?_, fun c7 => ?_⟩
      · refine run_k 1 ?_
        show LW b L xs ER ET 1787 (n + 2) [some (vX b), some (vR 0 0), some (vR 38 0), some (vR 62 0), some (vI i), some (vI kk), some (vI bv), none] [] M2
        refine run_w (L' := [some (vX b), some (vR 0 0), some (vR 38 0), some (vR 62 0), some (vI i), none, none, none]) ⟨rfl, rfl, rfl, rfl, rfl, True.intro⟩ ?_
        exact hN _ _ hJ2 (by omega) (by omega)
      · refine run_k 2 ?_
        show bT _ ((0 = 0 ∨ 0 = 1) ∧ ER (some (vI 0)) M2)
        refine bT_i (Nat.ble_eq_true_of_le (show _ ≤ (20000 : Nat) from by omega)) ?_
        refine ⟨by omega, ?_⟩
        exfalso
        first | omega | exact absurd (hbv (by omega)) (cmpL_ne (by assumption)) | (have hz := hbv (by omega); have hz2 := cmpL_ne (by assumption); omega)
  · refine run_k 2 ?_
    show bT _ ((0 = 0 ∨ 0 = 1) ∧ ER (some (vI 0)) M2)
    refine bT_i (Nat.ble_eq_true_of_le (show _ ≤ (20000 : Nat) from by omega)) ?_
    refine ⟨by omega, ?_⟩
    exfalso
    first | omega | exact absurd (hbv (by omega)) (cmpL_ne (by assumption)) | (have hz := hbv (by omega); have hz2 := cmpL_ne (by assumption); omega)
set_option maxHeartbeats 4000000 in
set_option maxRecDepth 20000 in
theorem law_1 {b : Nat} {L : Int} {xs : Int → Int} {ER : Option AV → Mm → Prop} {ET : Nat → Mm → Prop} {B : Int} {μ : Mm} {i : Int} {n : Nat} (hJ : J B μ) (h0 : 0 ≤ B) (hB : B ≤ 8000000000000000000) (hi : 0 ≤ i ∧ i + 5 ≤ L) (hL : L ≤ 2560) (hn : n ≤ 19000) (hN : ∀ (μ' : Mm) (n' : Nat), J (B + 10000000000000000) μ' → n ≤ n' → n' ≤ n + 5 → LW b L xs ER ET 1787 n' [some (vX b), some (vR 0 0), some (vR 38 0), some (vR 62 0), some (vI i), none, none, none] [] μ') : LW b L xs ER ET 216 n [some (vX b), some (vR 0 0), some (vR 38 0), some (vR 62 0), some (vI i), none, none, none] [] μ := by
  refine run_k 13 ?_
  show (b = b) ∧ ((0 ≤ (w32 (i + 1)) ∧ (w32 (i + 1)) < L) ∧ ((b = b) ∧ ((0 ≤ (w32 (i + 2)) ∧ (w32 (i + 2)) < L) ∧ (bT _ (∃ σ : Mm, cl_L_margin.2.2.1 σ [vR 0 0, vI (xs (w32 (i + 1))), vI (xs (w32 (i + 2))), vR 62 0] μ ∧ (∀ ov μ', cl_L_margin.2.2.2.1 σ [vR 0 0, vI (xs (w32 (i + 1))), vI (xs (w32 (i + 2))), vR 62 0] μ ov μ' → LW b L xs ER ET 233 (n + 2) [some (vX b), some (vR 0 0), some (vR 38 0), some (vR 62 0), some (vI i), none, none, none] (ov.toList ++ []) μ') ∧ ∀ kx, cl_L_margin.2.2.2.2 σ [vR 0 0, vI (xs (w32 (i + 1))), vI (xs (w32 (i + 2))), vR 62 0] μ kx → thr cd_L_law ET (LW b L xs ER ET) 230 (n + 2) [some (vX b), some (vR 0 0), some (vR 38 0), some (vR 62 0), some (vI i), none, none, none] μ kx)))))
  rw [show w32 (i + 1) = i + 1 from w32_id (by simp only [in32]; omega)]
  rw [show w32 (i + 2) = i + 2 from w32_id (by simp only [in32]; omega)]
  refine ⟨rfl, ?_⟩
  refine ⟨by omega, ?_⟩
  refine ⟨rfl, ?_⟩
  refine ⟨by omega, ?_⟩
  refine bT_3 rfl rfl (Nat.ble_eq_true_of_le (show _ ≤ (20000 : Nat) from by omega)) ?_
  refine ⟨μ, ⟨rfl, show CV μ from hJ.1⟩, fun ov μ' hq => ?_, fun k hk => hk.elim⟩
  have hq : (((0 ≤ (xs (i + 1)) ∧ (xs (i + 1)) ≤ 3) ∧ (10 ≤ (xs (i + 2)) ∧ (xs (i + 2)) ≤ 100)) → ov = some (vI 0) ∧ μ' 62 0 0 = (μ 2 0 (xs (i + 1))) ∧ al μ' = st (al μ) 40 0 (xs (i + 1)) (xs (i + 2)) ∧ PB2 μ μ') ∧ ((¬ (0 ≤ (xs (i + 1)) ∧ (xs (i + 1)) ≤ 3)) → ov = some (vI 1) ∧ μ' = μ) ∧ (((0 ≤ (xs (i + 1)) ∧ (xs (i + 1)) ≤ 3) ∧ ¬ (10 ≤ (xs (i + 2)) ∧ (xs (i + 2)) ≤ 100)) → ov = some (vI 2) ∧ μ' = μ) := hq
  obtain ⟨kk, hov, hP1, hpre, hcal⟩ := cal_margin hJ h0 hB hq
  rw [hov]
  clear hov hq
  rename Mm => M1
  show LW b L xs ER ET 233 (n + 2) [some (vX b), some (vR 0 0), some (vR 38 0), some (vR 62 0), some (vI i), none, none, none] [vI kk] M1
  refine run_k 13 ?_
  show (b = b) ∧ ((0 ≤ (w32 (i + 1)) ∧ (w32 (i + 1)) < L) ∧ ((b = b) ∧ ((0 ≤ (w32 (i + 2)) ∧ (w32 (i + 2)) < L) ∧ (bT _ (∃ σ : Mm, cl_X5_margin.2.2.1 σ [vR 38 0, vI (xs (w32 (i + 1))), vI (xs (w32 (i + 2)))] M1 ∧ (∀ ov μ', cl_X5_margin.2.2.2.1 σ [vR 38 0, vI (xs (w32 (i + 1))), vI (xs (w32 (i + 2)))] M1 ov μ' → LW b L xs ER ET 251 (n + 2) [some (vX b), some (vR 0 0), some (vR 38 0), some (vR 62 0), some (vI i), some (vI kk), none, none] (ov.toList ++ []) μ') ∧ ∀ kx, cl_X5_margin.2.2.2.2 σ [vR 38 0, vI (xs (w32 (i + 1))), vI (xs (w32 (i + 2)))] M1 kx → thr cd_L_law ET (LW b L xs ER ET) 248 (n + 2) [some (vX b), some (vR 0 0), some (vR 38 0), some (vR 62 0), some (vI i), some (vI kk), none, none] M1 kx)))))
  rw [show w32 (i + 1) = i + 1 from w32_id (by simp only [in32]; omega)]
  rw [show w32 (i + 2) = i + 2 from w32_id (by simp only [in32]; omega)]
  refine ⟨rfl, ?_⟩
  refine ⟨by omega, ?_⟩
  refine ⟨rfl, ?_⟩
  refine ⟨by omega, ?_⟩
  refine bT_3 rfl rfl (Nat.ble_eq_true_of_le (show _ ≤ (20000 : Nat) from by omega)) ?_
  refine ⟨μ, ⟨rfl, show Wk M1 ∧ Xk M1 from ⟨hpre.1, hpre.2⟩⟩, fun ov μ' hq => ?_, fun k hk => hk.elim⟩
  obtain ⟨bv, hov2, hJ2, hth, hbv⟩ := hcal ov μ' hq
  rw [hov2]
  clear hov2 hq
  rename Mm => M2
  show LW b L xs ER ET 251 (n + 2) [some (vX b), some (vR 0 0), some (vR 38 0), some (vR 62 0), some (vI i), some (vI kk), none, none] [vI bv] M2
  refine run_k 3 ?_
  show bT _ (∃ σ : Mm, cl_X5_thrown.2.2.1 σ [vR 38 0] M2 ∧ (∀ ov μ', cl_X5_thrown.2.2.2.1 σ [vR 38 0] M2 ov μ' → LW b L xs ER ET 257 (n + 2) [some (vX b), some (vR 0 0), some (vR 38 0), some (vR 62 0), some (vI i), some (vI kk), some (vI bv), none] (ov.toList ++ []) μ') ∧ ∀ kx, cl_X5_thrown.2.2.2.2 σ [vR 38 0] M2 kx → thr cd_L_law ET (LW b L xs ER ET) 254 (n + 2) [some (vX b), some (vR 0 0), some (vR 38 0), some (vR 62 0), some (vI i), some (vI kk), some (vI bv), none] M2 kx)
  refine bT_3 rfl rfl (Nat.ble_eq_true_of_le (show _ ≤ (20000 : Nat) from by omega)) ?_
  refine ⟨μ, ⟨rfl, show True from True.intro⟩, fun ov μ' hq => ?_, fun k hk => hk.elim⟩
  obtain ⟨hov3, hmu⟩ : ov = some (vI (M2 38 0 0)) ∧ μ' = M2 := hq
  rw [hov3, hmu, hth]
  show LW b L xs ER ET 257 (n + 2) [some (vX b), some (vR 0 0), some (vR 38 0), some (vR 62 0), some (vI i), some (vI kk), some (vI bv), none] [vI kk] M2
  refine run_k 2 ?_
  show (kk = kk → LW b L xs ER ET 264 (n + 2) [some (vX b), some (vR 0 0), some (vR 38 0), some (vR 62 0), some (vI i), some (vI kk), some (vI bv), none] [] M2) ∧ (kk ≠ kk → LW b L xs ER ET 262 (n + 2) [some (vX b), some (vR 0 0), some (vR 38 0), some (vR 62 0), some (vI i), some (vI kk), some (vI bv), none] [] M2)
  refine ⟨fun c4 => ?_, fun c4 => ?_⟩
  · refine run_k 2 ?_
    show (kk ≠ 0 → LW b L xs ER ET 281 (n + 2) [some (vX b), some (vR 0 0), some (vR 38 0), some (vR 62 0), some (vI i), some (vI kk), some (vI bv), none] [] M2) ∧ (kk = 0 → LW b L xs ER ET 269 (n + 2) [some (vX b), some (vR 0 0), some (vR 38 0), some (vR 62 0), some (vI i), some (vI kk), some (vI bv), none] [] M2)
    refine ⟨fun c5 => ?_, fun c5 => ?_⟩
    · refine run_k 1 ?_
      show LW b L xs ER ET 1787 (n + 2) [some (vX b), some (vR 0 0), some (vR 38 0), some (vR 62 0), some (vI i), some (vI kk), some (vI bv), none] [] M2
      refine run_w (L' := [some (vX b), some (vR 0 0), some (vR 38 0), some (vR 62 0), some (vI i), none, none, none]) ⟨rfl, rfl, rfl, rfl, rfl, True.intro⟩ ?_
      exact hN _ _ hJ2 (by omega) (by omega)
    · refine run_k 7 ?_
      show (0 ≤ 0 ∧ 0 < 1) ∧ (((cmpL (M2 62 0 0) bv) = 0 → LW b L xs ER ET 281 (n + 2) [some (vX b), some (vR 0 0), some (vR 38 0), some (vR 62 0), some (vI i), some (vI kk), some (vI bv), none] [] M2) ∧ ((cmpL (M2 62 0 0) bv) ≠ 0 → LW b L xs ER ET 279 (n + 2) [some (vX b), some (vR 0 0), some (vR 38 0), some (vR 62 0), some (vI i), some (vI kk), some (vI bv), none] [] M2))
      refine ⟨by omega, ?_⟩
      refine ⟨fun c7 => ?_, fun c7 => ?_⟩
      · refine run_k 1 ?_
        show LW b L xs ER ET 1787 (n + 2) [some (vX b), some (vR 0 0), some (vR 38 0), some (vR 62 0), some (vI i), some (vI kk), some (vI bv), none] [] M2
        refine run_w (L' := [some (vX b), some (vR 0 0), some (vR 38 0), some (vR 62 0), some (vI i), none, none, none]) ⟨rfl, rfl, rfl, rfl, rfl, True.intro⟩ ?_
        exact hN _ _ hJ2 (by omega) (by omega)
      · refine run_k 2 ?_
        show bT _ ((0 = 0 ∨ 0 = 1) ∧ ER (some (vI 0)) M2)
        refine bT_i (Nat.ble_eq_true_of_le (show _ ≤ (20000 : Nat) from by omega)) ?_
        refine ⟨by omega, ?_⟩
        exfalso
        first | omega | exact absurd (hbv (by omega)) (cmpL_ne (by assumption)) | (have hz := hbv (by omega); have hz2 := cmpL_ne (by assumption); omega)
  · refine run_k 2 ?_
    show bT _ ((0 = 0 ∨ 0 = 1) ∧ ER (some (vI 0)) M2)
    refine bT_i (Nat.ble_eq_true_of_le (show _ ≤ (20000 : Nat) from by omega)) ?_
    refine ⟨by omega, ?_⟩
    exfalso
    first | omega | exact absurd (hbv (by omega)) (cmpL_ne (by assumption)) | (have hz := hbv (by omega); have hz2 := cmpL_ne (by assumption); omega)
set_option maxHeartbeats 4000000 in
set_option maxRecDepth 20000 in
theorem law_2 {b : Nat} {L : Int} {xs : Int → Int} {ER : Option AV → Mm → Prop} {ET : Nat → Mm → Prop} {B : Int} {μ : Mm} {i : Int} {n : Nat} (hJ : J B μ) (h0 : 0 ≤ B) (hB : B ≤ 8000000000000000000) (hi : 0 ≤ i ∧ i + 5 ≤ L) (hL : L ≤ 2560) (hn : n ≤ 19000) (hN : ∀ (μ' : Mm) (n' : Nat), J (B + 10000000000000000) μ' → n ≤ n' → n' ≤ n + 5 → LW b L xs ER ET 1787 n' [some (vX b), some (vR 0 0), some (vR 38 0), some (vR 62 0), some (vI i), none, none, none] [] μ') : LW b L xs ER ET 284 n [some (vX b), some (vR 0 0), some (vR 38 0), some (vR 62 0), some (vI i), none, none, none] [] μ := by
  refine run_k 13 ?_
  show (b = b) ∧ ((0 ≤ (w32 (i + 1)) ∧ (w32 (i + 1)) < L) ∧ ((b = b) ∧ ((0 ≤ (w32 (i + 2)) ∧ (w32 (i + 2)) < L) ∧ (bT _ (∃ σ : Mm, cl_L_cash.2.2.1 σ [vR 0 0, vI (xs (w32 (i + 1))), vI (xs (w32 (i + 2))), vR 62 0] μ ∧ (∀ ov μ', cl_L_cash.2.2.2.1 σ [vR 0 0, vI (xs (w32 (i + 1))), vI (xs (w32 (i + 2))), vR 62 0] μ ov μ' → LW b L xs ER ET 301 (n + 5) [some (vX b), some (vR 0 0), some (vR 38 0), some (vR 62 0), some (vI i), none, none, none] (ov.toList ++ []) μ') ∧ ∀ kx, cl_L_cash.2.2.2.2 σ [vR 0 0, vI (xs (w32 (i + 1))), vI (xs (w32 (i + 2))), vR 62 0] μ kx → thr cd_L_law ET (LW b L xs ER ET) 298 (n + 5) [some (vX b), some (vR 0 0), some (vR 38 0), some (vR 62 0), some (vI i), none, none, none] μ kx)))))
  rw [show w32 (i + 1) = i + 1 from w32_id (by simp only [in32]; omega)]
  rw [show w32 (i + 2) = i + 2 from w32_id (by simp only [in32]; omega)]
  refine ⟨rfl, ?_⟩
  refine ⟨by omega, ?_⟩
  refine ⟨rfl, ?_⟩
  refine ⟨by omega, ?_⟩
  refine bT_3 rfl rfl (Nat.ble_eq_true_of_le (show _ ≤ (20000 : Nat) from by omega)) ?_
  refine ⟨μ, ⟨rfl, show CV μ from hJ.1⟩, fun ov μ' hq => ?_, fun k hk => hk.elim⟩
  have hq : (((0 ≤ (xs (i + 1)) ∧ (xs (i + 1)) ≤ 5) ∧ (-100000000 ≤ (xs (i + 2)) ∧ (xs (i + 2)) ≤ 100000000) ∧ (μ 5 0 (xs (i + 1)) = 0 ∧ (0 ≤ (xs (i + 2)) ∨ ¬ w64 (equityF (al μ) (xs (i + 1)) + (xs (i + 2))) < needF (al μ) (xs (i + 1))))) → ov = some (vI 0) ∧ μ' 62 0 0 = (w64 (μ 3 0 (xs (i + 1)) + (xs (i + 2)))) ∧ al μ' = st (al μ) 41 0 (xs (i + 1)) (w64 (μ 3 0 (xs (i + 1)) + (xs (i + 2)))) ∧ PB2 μ μ') ∧ ((¬ (0 ≤ (xs (i + 1)) ∧ (xs (i + 1)) ≤ 5)) → ov = some (vI 1) ∧ μ' = μ) ∧ (((0 ≤ (xs (i + 1)) ∧ (xs (i + 1)) ≤ 5) ∧ ¬ (-100000000 ≤ (xs (i + 2)) ∧ (xs (i + 2)) ≤ 100000000)) → ov = some (vI 2) ∧ μ' = μ) ∧ (((0 ≤ (xs (i + 1)) ∧ (xs (i + 1)) ≤ 5) ∧ (-100000000 ≤ (xs (i + 2)) ∧ (xs (i + 2)) ≤ 100000000) ∧ ¬ (μ 5 0 (xs (i + 1)) = 0 ∧ (0 ≤ (xs (i + 2)) ∨ ¬ w64 (equityF (al μ) (xs (i + 1)) + (xs (i + 2))) < needF (al μ) (xs (i + 1))))) → ov = some (vI 3) ∧ μ' = μ) := hq
  obtain ⟨kk, hov, hP1, hpre, hcal⟩ := cal_cash hJ h0 hB hq
  rw [hov]
  clear hov hq
  rename Mm => M1
  show LW b L xs ER ET 301 (n + 5) [some (vX b), some (vR 0 0), some (vR 38 0), some (vR 62 0), some (vI i), none, none, none] [vI kk] M1
  refine run_k 13 ?_
  show (b = b) ∧ ((0 ≤ (w32 (i + 1)) ∧ (w32 (i + 1)) < L) ∧ ((b = b) ∧ ((0 ≤ (w32 (i + 2)) ∧ (w32 (i + 2)) < L) ∧ (bT _ (∃ σ : Mm, cl_X5_cash.2.2.1 σ [vR 38 0, vI (xs (w32 (i + 1))), vI (xs (w32 (i + 2)))] M1 ∧ (∀ ov μ', cl_X5_cash.2.2.2.1 σ [vR 38 0, vI (xs (w32 (i + 1))), vI (xs (w32 (i + 2)))] M1 ov μ' → LW b L xs ER ET 319 (n + 5) [some (vX b), some (vR 0 0), some (vR 38 0), some (vR 62 0), some (vI i), some (vI kk), none, none] (ov.toList ++ []) μ') ∧ ∀ kx, cl_X5_cash.2.2.2.2 σ [vR 38 0, vI (xs (w32 (i + 1))), vI (xs (w32 (i + 2)))] M1 kx → thr cd_L_law ET (LW b L xs ER ET) 316 (n + 5) [some (vX b), some (vR 0 0), some (vR 38 0), some (vR 62 0), some (vI i), some (vI kk), none, none] M1 kx)))))
  rw [show w32 (i + 1) = i + 1 from w32_id (by simp only [in32]; omega)]
  rw [show w32 (i + 2) = i + 2 from w32_id (by simp only [in32]; omega)]
  refine ⟨rfl, ?_⟩
  refine ⟨by omega, ?_⟩
  refine ⟨rfl, ?_⟩
  refine ⟨by omega, ?_⟩
  refine bT_3 rfl rfl (Nat.ble_eq_true_of_le (show _ ≤ (20000 : Nat) from by omega)) ?_
  refine ⟨μ, ⟨rfl, show Wk M1 ∧ Xk M1 from ⟨hpre.1, hpre.2⟩⟩, fun ov μ' hq => ?_, fun k hk => hk.elim⟩
  obtain ⟨bv, hov2, hJ2, hth, hbv⟩ := hcal ov μ' hq
  rw [hov2]
  clear hov2 hq
  rename Mm => M2
  show LW b L xs ER ET 319 (n + 5) [some (vX b), some (vR 0 0), some (vR 38 0), some (vR 62 0), some (vI i), some (vI kk), none, none] [vL bv] M2
  refine run_k 3 ?_
  show bT _ (∃ σ : Mm, cl_X5_thrown.2.2.1 σ [vR 38 0] M2 ∧ (∀ ov μ', cl_X5_thrown.2.2.2.1 σ [vR 38 0] M2 ov μ' → LW b L xs ER ET 325 (n + 5) [some (vX b), some (vR 0 0), some (vR 38 0), some (vR 62 0), some (vI i), some (vI kk), some (vL bv), none] (ov.toList ++ []) μ') ∧ ∀ kx, cl_X5_thrown.2.2.2.2 σ [vR 38 0] M2 kx → thr cd_L_law ET (LW b L xs ER ET) 322 (n + 5) [some (vX b), some (vR 0 0), some (vR 38 0), some (vR 62 0), some (vI i), some (vI kk), some (vL bv), none] M2 kx)
  refine bT_3 rfl rfl (Nat.ble_eq_true_of_le (show _ ≤ (20000 : Nat) from by omega)) ?_
  refine ⟨μ, ⟨rfl, show True from True.intro⟩, fun ov μ' hq => ?_, fun k hk => hk.elim⟩
  obtain ⟨hov3, hmu⟩ : ov = some (vI (M2 38 0 0)) ∧ μ' = M2 := hq
  rw [hov3, hmu, hth]
  show LW b L xs ER ET 325 (n + 5) [some (vX b), some (vR 0 0), some (vR 38 0), some (vR 62 0), some (vI i), some (vI kk), some (vL bv), none] [vI kk] M2
  refine run_k 2 ?_
  show (kk = kk → LW b L xs ER ET 332 (n + 5) [some (vX b), some (vR 0 0), some (vR 38 0), some (vR 62 0), some (vI i), some (vI kk), some (vL bv), none] [] M2) ∧ (kk ≠ kk → LW b L xs ER ET 330 (n + 5) [some (vX b), some (vR 0 0), some (vR 38 0), some (vR 62 0), some (vI i), some (vI kk), some (vL bv), none] [] M2)
  refine ⟨fun c4 => ?_, fun c4 => ?_⟩
  · refine run_k 2 ?_
    show (kk ≠ 0 → LW b L xs ER ET 348 (n + 5) [some (vX b), some (vR 0 0), some (vR 38 0), some (vR 62 0), some (vI i), some (vI kk), some (vL bv), none] [] M2) ∧ (kk = 0 → LW b L xs ER ET 337 (n + 5) [some (vX b), some (vR 0 0), some (vR 38 0), some (vR 62 0), some (vI i), some (vI kk), some (vL bv), none] [] M2)
    refine ⟨fun c5 => ?_, fun c5 => ?_⟩
    · refine run_k 1 ?_
      show LW b L xs ER ET 1787 (n + 5) [some (vX b), some (vR 0 0), some (vR 38 0), some (vR 62 0), some (vI i), some (vI kk), some (vL bv), none] [] M2
      refine run_w (L' := [some (vX b), some (vR 0 0), some (vR 38 0), some (vR 62 0), some (vI i), none, none, none]) ⟨rfl, rfl, rfl, rfl, rfl, True.intro⟩ ?_
      exact hN _ _ hJ2 (by omega) (by omega)
    · refine run_k 6 ?_
      show (0 ≤ 0 ∧ 0 < 1) ∧ (((cmpL (M2 62 0 0) bv) = 0 → LW b L xs ER ET 348 (n + 5) [some (vX b), some (vR 0 0), some (vR 38 0), some (vR 62 0), some (vI i), some (vI kk), some (vL bv), none] [] M2) ∧ ((cmpL (M2 62 0 0) bv) ≠ 0 → LW b L xs ER ET 346 (n + 5) [some (vX b), some (vR 0 0), some (vR 38 0), some (vR 62 0), some (vI i), some (vI kk), some (vL bv), none] [] M2))
      refine ⟨by omega, ?_⟩
      refine ⟨fun c7 => ?_, fun c7 => ?_⟩
      · refine run_k 1 ?_
        show LW b L xs ER ET 1787 (n + 5) [some (vX b), some (vR 0 0), some (vR 38 0), some (vR 62 0), some (vI i), some (vI kk), some (vL bv), none] [] M2
        refine run_w (L' := [some (vX b), some (vR 0 0), some (vR 38 0), some (vR 62 0), some (vI i), none, none, none]) ⟨rfl, rfl, rfl, rfl, rfl, True.intro⟩ ?_
        exact hN _ _ hJ2 (by omega) (by omega)
      · refine run_k 2 ?_
        show bT _ ((0 = 0 ∨ 0 = 1) ∧ ER (some (vI 0)) M2)
        refine bT_i (Nat.ble_eq_true_of_le (show _ ≤ (20000 : Nat) from by omega)) ?_
        refine ⟨by omega, ?_⟩
        exfalso
        first | omega | exact absurd (hbv (by omega)) (cmpL_ne (by assumption)) | (have hz := hbv (by omega); have hz2 := cmpL_ne (by assumption); omega)
  · refine run_k 2 ?_
    show bT _ ((0 = 0 ∨ 0 = 1) ∧ ER (some (vI 0)) M2)
    refine bT_i (Nat.ble_eq_true_of_le (show _ ≤ (20000 : Nat) from by omega)) ?_
    refine ⟨by omega, ?_⟩
    exfalso
    first | omega | exact absurd (hbv (by omega)) (cmpL_ne (by assumption)) | (have hz := hbv (by omega); have hz2 := cmpL_ne (by assumption); omega)
set_option maxHeartbeats 4000000 in
set_option maxRecDepth 20000 in
theorem law_3 {b : Nat} {L : Int} {xs : Int → Int} {ER : Option AV → Mm → Prop} {ET : Nat → Mm → Prop} {B : Int} {μ : Mm} {i : Int} {n : Nat} (hJ : J B μ) (h0 : 0 ≤ B) (hB : B ≤ 8000000000000000000) (hi : 0 ≤ i ∧ i + 5 ≤ L) (hL : L ≤ 2560) (hn : n ≤ 19000) (hN : ∀ (μ' : Mm) (n' : Nat), J (B + 10000000000000000) μ' → n ≤ n' → n' ≤ n + 5 → LW b L xs ER ET 1787 n' [some (vX b), some (vR 0 0), some (vR 38 0), some (vR 62 0), some (vI i), none, none, none] [] μ') : LW b L xs ER ET 351 n [some (vX b), some (vR 0 0), some (vR 38 0), some (vR 62 0), some (vI i), none, none, none] [] μ := by
  refine run_k 12 ?_
  show (b = b) ∧ ((0 ≤ (w32 (i + 1)) ∧ (w32 (i + 1)) < L) ∧ ((b = b) ∧ ((0 ≤ (w32 (i + 2)) ∧ (w32 (i + 2)) < L) ∧ (((xs (w32 (i + 2))) = 0 → LW b L xs ER ET 371 n [some (vX b), some (vR 0 0), some (vR 38 0), some (vR 62 0), some (vI i), none, none, none] [vI (xs (w32 (i + 1))), vR 0 0] μ) ∧ ((xs (w32 (i + 2))) ≠ 0 → LW b L xs ER ET 367 n [some (vX b), some (vR 0 0), some (vR 38 0), some (vR 62 0), some (vI i), none, none, none] [vI (xs (w32 (i + 1))), vR 0 0] μ)))))
  rw [show w32 (i + 1) = i + 1 from w32_id (by simp only [in32]; omega)]
  rw [show w32 (i + 2) = i + 2 from w32_id (by simp only [in32]; omega)]
  refine ⟨rfl, ?_⟩
  refine ⟨by omega, ?_⟩
  refine ⟨rfl, ?_⟩
  refine ⟨by omega, ?_⟩
  refine ⟨fun c1 => ?_, fun c1 => ?_⟩
  · refine run_k 3 ?_
    show bT _ (∃ σ : Mm, cl_L_allow.2.2.1 σ [vR 0 0, vI (xs (i + 1)), vI 0, vR 62 0] μ ∧ (∀ ov μ', cl_L_allow.2.2.2.1 σ [vR 0 0, vI (xs (i + 1)), vI 0, vR 62 0] μ ov μ' → LW b L xs ER ET 376 (n + 2) [some (vX b), some (vR 0 0), some (vR 38 0), some (vR 62 0), some (vI i), none, none, none] (ov.toList ++ []) μ') ∧ ∀ kx, cl_L_allow.2.2.2.2 σ [vR 0 0, vI (xs (i + 1)), vI 0, vR 62 0] μ kx → thr cd_L_law ET (LW b L xs ER ET) 373 (n + 2) [some (vX b), some (vR 0 0), some (vR 38 0), some (vR 62 0), some (vI i), none, none, none] μ kx)
    refine bT_3 rfl rfl (Nat.ble_eq_true_of_le (show _ ≤ (20000 : Nat) from by omega)) ?_
    refine ⟨μ, ⟨rfl, show CV μ ∧ (0 = 0 ∨ 0 = 1) from ⟨hJ.1, by first | exact Or.inl rfl | exact Or.inr rfl⟩⟩, fun ov μ' hq => ?_, fun k hk => hk.elim⟩
    have hq : (((0 ≤ (xs (i + 1)) ∧ (xs (i + 1)) ≤ 5) ∧ (μ 5 0 (xs (i + 1)) = 0)) → ov = some (vI 0) ∧ μ' 62 0 0 = (μ 4 0 (xs (i + 1))) ∧ al μ' = st (al μ) 43 0 (xs (i + 1)) 0 ∧ PB2 μ μ') ∧ ((¬ (0 ≤ (xs (i + 1)) ∧ (xs (i + 1)) ≤ 5)) → ov = some (vI 1) ∧ μ' = μ) ∧ (((0 ≤ (xs (i + 1)) ∧ (xs (i + 1)) ≤ 5) ∧ ¬ (μ 5 0 (xs (i + 1)) = 0)) → ov = some (vI 2) ∧ μ' = μ) := hq
    obtain ⟨kk, hov, hP1, hpre, hcal⟩ := cal_allow (hm := by first | exact Or.inl rfl | exact Or.inr rfl) hJ h0 hB hq
    rw [hov]
    clear hov hq
    rename Mm => M1
    show LW b L xs ER ET 376 (n + 2) [some (vX b), some (vR 0 0), some (vR 38 0), some (vR 62 0), some (vI i), none, none, none] [vI kk] M1
    refine run_k 13 ?_
    show (b = b) ∧ ((0 ≤ (w32 (i + 1)) ∧ (w32 (i + 1)) < L) ∧ ((b = b) ∧ ((0 ≤ (w32 (i + 2)) ∧ (w32 (i + 2)) < L) ∧ (((xs (w32 (i + 2))) = 0 → LW b L xs ER ET 398 (n + 2) [some (vX b), some (vR 0 0), some (vR 38 0), some (vR 62 0), some (vI i), some (vI kk), none, none] [vI (xs (w32 (i + 1))), vR 38 0] M1) ∧ ((xs (w32 (i + 2))) ≠ 0 → LW b L xs ER ET 394 (n + 2) [some (vX b), some (vR 0 0), some (vR 38 0), some (vR 62 0), some (vI i), some (vI kk), none, none] [vI (xs (w32 (i + 1))), vR 38 0] M1)))))
    rw [show w32 (i + 1) = i + 1 from w32_id (by simp only [in32]; omega)]
    rw [show w32 (i + 2) = i + 2 from w32_id (by simp only [in32]; omega)]
    refine ⟨rfl, ?_⟩
    refine ⟨by omega, ?_⟩
    refine ⟨rfl, ?_⟩
    refine ⟨by omega, ?_⟩
    refine ⟨fun c3 => ?_, fun c3 => absurd c3 (by omega)⟩
    refine run_k 2 ?_
    show bT _ (∃ σ : Mm, cl_X5_allow.2.2.1 σ [vR 38 0, vI (xs (i + 1)), vI 0] M1 ∧ (∀ ov μ', cl_X5_allow.2.2.2.1 σ [vR 38 0, vI (xs (i + 1)), vI 0] M1 ov μ' → LW b L xs ER ET 402 (n + 2) [some (vX b), some (vR 0 0), some (vR 38 0), some (vR 62 0), some (vI i), some (vI kk), none, none] (ov.toList ++ []) μ') ∧ ∀ kx, cl_X5_allow.2.2.2.2 σ [vR 38 0, vI (xs (i + 1)), vI 0] M1 kx → thr cd_L_law ET (LW b L xs ER ET) 399 (n + 2) [some (vX b), some (vR 0 0), some (vR 38 0), some (vR 62 0), some (vI i), some (vI kk), none, none] M1 kx)
    refine bT_3 rfl rfl (Nat.ble_eq_true_of_le (show _ ≤ (20000 : Nat) from by omega)) ?_
    refine ⟨μ, ⟨rfl, show (Wk M1 ∧ Xk M1) ∧ (0 = 0 ∨ 0 = 1) from ⟨⟨hpre.1, hpre.2⟩, by first | exact Or.inl rfl | exact Or.inr rfl⟩⟩, fun ov μ' hq => ?_, fun k hk => hk.elim⟩
    obtain ⟨bv, hov2, hJ2, hth, hbv, hb01⟩ := hcal ov μ' hq
    rw [hov2]
    clear hov2 hq
    rename Mm => M2
    show LW b L xs ER ET 402 (n + 2) [some (vX b), some (vR 0 0), some (vR 38 0), some (vR 62 0), some (vI i), some (vI kk), none, none] [vI bv] M2
    refine run_k 3 ?_
    show bT _ (∃ σ : Mm, cl_X5_thrown.2.2.1 σ [vR 38 0] M2 ∧ (∀ ov μ', cl_X5_thrown.2.2.2.1 σ [vR 38 0] M2 ov μ' → LW b L xs ER ET 408 (n + 2) [some (vX b), some (vR 0 0), some (vR 38 0), some (vR 62 0), some (vI i), some (vI kk), some (vI bv), none] (ov.toList ++ []) μ') ∧ ∀ kx, cl_X5_thrown.2.2.2.2 σ [vR 38 0] M2 kx → thr cd_L_law ET (LW b L xs ER ET) 405 (n + 2) [some (vX b), some (vR 0 0), some (vR 38 0), some (vR 62 0), some (vI i), some (vI kk), some (vI bv), none] M2 kx)
    refine bT_3 rfl rfl (Nat.ble_eq_true_of_le (show _ ≤ (20000 : Nat) from by omega)) ?_
    refine ⟨μ, ⟨rfl, show True from True.intro⟩, fun ov μ' hq => ?_, fun k hk => hk.elim⟩
    obtain ⟨hov3, hmu⟩ : ov = some (vI (M2 38 0 0)) ∧ μ' = M2 := hq
    rw [hov3, hmu, hth]
    show LW b L xs ER ET 408 (n + 2) [some (vX b), some (vR 0 0), some (vR 38 0), some (vR 62 0), some (vI i), some (vI kk), some (vI bv), none] [vI kk] M2
    refine run_k 2 ?_
    show (kk = kk → LW b L xs ER ET 415 (n + 2) [some (vX b), some (vR 0 0), some (vR 38 0), some (vR 62 0), some (vI i), some (vI kk), some (vI bv), none] [] M2) ∧ (kk ≠ kk → LW b L xs ER ET 413 (n + 2) [some (vX b), some (vR 0 0), some (vR 38 0), some (vR 62 0), some (vI i), some (vI kk), some (vI bv), none] [] M2)
    refine ⟨fun c6 => ?_, fun c6 => ?_⟩
    · refine run_k 2 ?_
      show (kk ≠ 0 → LW b L xs ER ET 439 (n + 2) [some (vX b), some (vR 0 0), some (vR 38 0), some (vR 62 0), some (vI i), some (vI kk), some (vI bv), none] [] M2) ∧ (kk = 0 → LW b L xs ER ET 420 (n + 2) [some (vX b), some (vR 0 0), some (vR 38 0), some (vR 62 0), some (vI i), some (vI kk), some (vI bv), none] [] M2)
      refine ⟨fun c7 => ?_, fun c7 => ?_⟩
      · refine run_k 1 ?_
        show LW b L xs ER ET 1787 (n + 2) [some (vX b), some (vR 0 0), some (vR 38 0), some (vR 62 0), some (vI i), some (vI kk), some (vI bv), none] [] M2
        refine run_w (L' := [some (vX b), some (vR 0 0), some (vR 38 0), some (vR 62 0), some (vI i), none, none, none]) ⟨rfl, rfl, rfl, rfl, rfl, True.intro⟩ ?_
        exact hN _ _ hJ2 (by omega) (by omega)
      · refine run_k 5 ?_
        show (0 ≤ 0 ∧ 0 < 1) ∧ ((bv = 0 → LW b L xs ER ET 432 (n + 2) [some (vX b), some (vR 0 0), some (vR 38 0), some (vR 62 0), some (vI i), some (vI kk), some (vI bv), none] [vL (M2 62 0 0)] M2) ∧ (bv ≠ 0 → LW b L xs ER ET 428 (n + 2) [some (vX b), some (vR 0 0), some (vR 38 0), some (vR 62 0), some (vI i), some (vI kk), some (vI bv), none] [vL (M2 62 0 0)] M2))
        refine ⟨by omega, ?_⟩
        refine ⟨fun c9 => ?_, fun c9 => ?_⟩
        · refine run_k 3 ?_
          show ((cmpL (M2 62 0 0) 0) = 0 → LW b L xs ER ET 439 (n + 2) [some (vX b), some (vR 0 0), some (vR 38 0), some (vR 62 0), some (vI i), some (vI kk), some (vI bv), none] [] M2) ∧ ((cmpL (M2 62 0 0) 0) ≠ 0 → LW b L xs ER ET 437 (n + 2) [some (vX b), some (vR 0 0), some (vR 38 0), some (vR 62 0), some (vI i), some (vI kk), some (vI bv), none] [] M2)
          refine ⟨fun c10 => ?_, fun c10 => ?_⟩
          · refine run_k 1 ?_
            show LW b L xs ER ET 1787 (n + 2) [some (vX b), some (vR 0 0), some (vR 38 0), some (vR 62 0), some (vI i), some (vI kk), some (vI bv), none] [] M2
            refine run_w (L' := [some (vX b), some (vR 0 0), some (vR 38 0), some (vR 62 0), some (vI i), none, none, none]) ⟨rfl, rfl, rfl, rfl, rfl, True.intro⟩ ?_
            exact hN _ _ hJ2 (by omega) (by omega)
          · refine run_k 2 ?_
            show bT _ ((0 = 0 ∨ 0 = 1) ∧ ER (some (vI 0)) M2)
            refine bT_i (Nat.ble_eq_true_of_le (show _ ≤ (20000 : Nat) from by omega)) ?_
            refine ⟨by omega, ?_⟩
            exfalso
            first | omega | exact absurd (hbv (by omega)) (cmpL_ne (by assumption)) | (have hz := hbv (by omega); have hz2 := cmpL_ne (by assumption); omega)
        · refine run_k 4 ?_
          show ((cmpL (M2 62 0 0) 1) = 0 → LW b L xs ER ET 439 (n + 2) [some (vX b), some (vR 0 0), some (vR 38 0), some (vR 62 0), some (vI i), some (vI kk), some (vI bv), none] [] M2) ∧ ((cmpL (M2 62 0 0) 1) ≠ 0 → LW b L xs ER ET 437 (n + 2) [some (vX b), some (vR 0 0), some (vR 38 0), some (vR 62 0), some (vI i), some (vI kk), some (vI bv), none] [] M2)
          refine ⟨fun c13 => ?_, fun c13 => ?_⟩
          · refine run_k 1 ?_
            show LW b L xs ER ET 1787 (n + 2) [some (vX b), some (vR 0 0), some (vR 38 0), some (vR 62 0), some (vI i), some (vI kk), some (vI bv), none] [] M2
            refine run_w (L' := [some (vX b), some (vR 0 0), some (vR 38 0), some (vR 62 0), some (vI i), none, none, none]) ⟨rfl, rfl, rfl, rfl, rfl, True.intro⟩ ?_
            exact hN _ _ hJ2 (by omega) (by omega)
          · refine run_k 2 ?_
            show bT _ ((0 = 0 ∨ 0 = 1) ∧ ER (some (vI 0)) M2)
            refine bT_i (Nat.ble_eq_true_of_le (show _ ≤ (20000 : Nat) from by omega)) ?_
            refine ⟨by omega, ?_⟩
            exfalso
            first | omega | exact absurd (hbv (by omega)) (cmpL_ne (by assumption)) | (have hz := hbv (by omega); have hz2 := cmpL_ne (by assumption); omega)
    · refine run_k 2 ?_
      show bT _ ((0 = 0 ∨ 0 = 1) ∧ ER (some (vI 0)) M2)
      refine bT_i (Nat.ble_eq_true_of_le (show _ ≤ (20000 : Nat) from by omega)) ?_
      refine ⟨by omega, ?_⟩
      exfalso
      first | omega | exact absurd (hbv (by omega)) (cmpL_ne (by assumption)) | (have hz := hbv (by omega); have hz2 := cmpL_ne (by assumption); omega)
  · refine run_k 4 ?_
    show bT _ (∃ σ : Mm, cl_L_allow.2.2.1 σ [vR 0 0, vI (xs (i + 1)), vI 1, vR 62 0] μ ∧ (∀ ov μ', cl_L_allow.2.2.2.1 σ [vR 0 0, vI (xs (i + 1)), vI 1, vR 62 0] μ ov μ' → LW b L xs ER ET 376 (n + 2) [some (vX b), some (vR 0 0), some (vR 38 0), some (vR 62 0), some (vI i), none, none, none] (ov.toList ++ []) μ') ∧ ∀ kx, cl_L_allow.2.2.2.2 σ [vR 0 0, vI (xs (i + 1)), vI 1, vR 62 0] μ kx → thr cd_L_law ET (LW b L xs ER ET) 373 (n + 2) [some (vX b), some (vR 0 0), some (vR 38 0), some (vR 62 0), some (vI i), none, none, none] μ kx)
    refine bT_3 rfl rfl (Nat.ble_eq_true_of_le (show _ ≤ (20000 : Nat) from by omega)) ?_
    refine ⟨μ, ⟨rfl, show CV μ ∧ (1 = 0 ∨ 1 = 1) from ⟨hJ.1, by first | exact Or.inl rfl | exact Or.inr rfl⟩⟩, fun ov μ' hq => ?_, fun k hk => hk.elim⟩
    have hq : (((0 ≤ (xs (i + 1)) ∧ (xs (i + 1)) ≤ 5) ∧ (μ 5 0 (xs (i + 1)) = 0)) → ov = some (vI 0) ∧ μ' 62 0 0 = (μ 4 0 (xs (i + 1))) ∧ al μ' = st (al μ) 43 0 (xs (i + 1)) 1 ∧ PB2 μ μ') ∧ ((¬ (0 ≤ (xs (i + 1)) ∧ (xs (i + 1)) ≤ 5)) → ov = some (vI 1) ∧ μ' = μ) ∧ (((0 ≤ (xs (i + 1)) ∧ (xs (i + 1)) ≤ 5) ∧ ¬ (μ 5 0 (xs (i + 1)) = 0)) → ov = some (vI 2) ∧ μ' = μ) := hq
    obtain ⟨kk, hov, hP1, hpre, hcal⟩ := cal_allow (hm := by first | exact Or.inl rfl | exact Or.inr rfl) hJ h0 hB hq
    rw [hov]
    clear hov hq
    rename Mm => M1
    show LW b L xs ER ET 376 (n + 2) [some (vX b), some (vR 0 0), some (vR 38 0), some (vR 62 0), some (vI i), none, none, none] [vI kk] M1
    refine run_k 13 ?_
    show (b = b) ∧ ((0 ≤ (w32 (i + 1)) ∧ (w32 (i + 1)) < L) ∧ ((b = b) ∧ ((0 ≤ (w32 (i + 2)) ∧ (w32 (i + 2)) < L) ∧ (((xs (w32 (i + 2))) = 0 → LW b L xs ER ET 398 (n + 2) [some (vX b), some (vR 0 0), some (vR 38 0), some (vR 62 0), some (vI i), some (vI kk), none, none] [vI (xs (w32 (i + 1))), vR 38 0] M1) ∧ ((xs (w32 (i + 2))) ≠ 0 → LW b L xs ER ET 394 (n + 2) [some (vX b), some (vR 0 0), some (vR 38 0), some (vR 62 0), some (vI i), some (vI kk), none, none] [vI (xs (w32 (i + 1))), vR 38 0] M1)))))
    rw [show w32 (i + 1) = i + 1 from w32_id (by simp only [in32]; omega)]
    rw [show w32 (i + 2) = i + 2 from w32_id (by simp only [in32]; omega)]
    refine ⟨rfl, ?_⟩
    refine ⟨by omega, ?_⟩
    refine ⟨rfl, ?_⟩
    refine ⟨by omega, ?_⟩
    refine ⟨fun c18 => absurd c18 (by omega), fun c18 => ?_⟩
    refine run_k 3 ?_
    show bT _ (∃ σ : Mm, cl_X5_allow.2.2.1 σ [vR 38 0, vI (xs (i + 1)), vI 1] M1 ∧ (∀ ov μ', cl_X5_allow.2.2.2.1 σ [vR 38 0, vI (xs (i + 1)), vI 1] M1 ov μ' → LW b L xs ER ET 402 (n + 2) [some (vX b), some (vR 0 0), some (vR 38 0), some (vR 62 0), some (vI i), some (vI kk), none, none] (ov.toList ++ []) μ') ∧ ∀ kx, cl_X5_allow.2.2.2.2 σ [vR 38 0, vI (xs (i + 1)), vI 1] M1 kx → thr cd_L_law ET (LW b L xs ER ET) 399 (n + 2) [some (vX b), some (vR 0 0), some (vR 38 0), some (vR 62 0), some (vI i), some (vI kk), none, none] M1 kx)
    refine bT_3 rfl rfl (Nat.ble_eq_true_of_le (show _ ≤ (20000 : Nat) from by omega)) ?_
    refine ⟨μ, ⟨rfl, show (Wk M1 ∧ Xk M1) ∧ (1 = 0 ∨ 1 = 1) from ⟨⟨hpre.1, hpre.2⟩, by first | exact Or.inl rfl | exact Or.inr rfl⟩⟩, fun ov μ' hq => ?_, fun k hk => hk.elim⟩
    obtain ⟨bv, hov2, hJ2, hth, hbv, hb01⟩ := hcal ov μ' hq
    rw [hov2]
    clear hov2 hq
    rename Mm => M2
    show LW b L xs ER ET 402 (n + 2) [some (vX b), some (vR 0 0), some (vR 38 0), some (vR 62 0), some (vI i), some (vI kk), none, none] [vI bv] M2
    refine run_k 3 ?_
    show bT _ (∃ σ : Mm, cl_X5_thrown.2.2.1 σ [vR 38 0] M2 ∧ (∀ ov μ', cl_X5_thrown.2.2.2.1 σ [vR 38 0] M2 ov μ' → LW b L xs ER ET 408 (n + 2) [some (vX b), some (vR 0 0), some (vR 38 0), some (vR 62 0), some (vI i), some (vI kk), some (vI bv), none] (ov.toList ++ []) μ') ∧ ∀ kx, cl_X5_thrown.2.2.2.2 σ [vR 38 0] M2 kx → thr cd_L_law ET (LW b L xs ER ET) 405 (n + 2) [some (vX b), some (vR 0 0), some (vR 38 0), some (vR 62 0), some (vI i), some (vI kk), some (vI bv), none] M2 kx)
    refine bT_3 rfl rfl (Nat.ble_eq_true_of_le (show _ ≤ (20000 : Nat) from by omega)) ?_
    refine ⟨μ, ⟨rfl, show True from True.intro⟩, fun ov μ' hq => ?_, fun k hk => hk.elim⟩
    obtain ⟨hov3, hmu⟩ : ov = some (vI (M2 38 0 0)) ∧ μ' = M2 := hq
    rw [hov3, hmu, hth]
    show LW b L xs ER ET 408 (n + 2) [some (vX b), some (vR 0 0), some (vR 38 0), some (vR 62 0), some (vI i), some (vI kk), some (vI bv), none] [vI kk] M2
    refine run_k 2 ?_
    show (kk = kk → LW b L xs ER ET 415 (n + 2) [some (vX b), some (vR 0 0), some (vR 38 0), some (vR 62 0), some (vI i), some (vI kk), some (vI bv), none] [] M2) ∧ (kk ≠ kk → LW b L xs ER ET 413 (n + 2) [some (vX b), some (vR 0 0), some (vR 38 0), some (vR 62 0), some (vI i), some (vI kk), some (vI bv), none] [] M2)
    refine ⟨fun c21 => ?_, fun c21 => ?_⟩
    · refine run_k 2 ?_
      show (kk ≠ 0 → LW b L xs ER ET 439 (n + 2) [some (vX b), some (vR 0 0), some (vR 38 0), some (vR 62 0), some (vI i), some (vI kk), some (vI bv), none] [] M2) ∧ (kk = 0 → LW b L xs ER ET 420 (n + 2) [some (vX b), some (vR 0 0), some (vR 38 0), some (vR 62 0), some (vI i), some (vI kk), some (vI bv), none] [] M2)
      refine ⟨fun c22 => ?_, fun c22 => ?_⟩
      · refine run_k 1 ?_
        show LW b L xs ER ET 1787 (n + 2) [some (vX b), some (vR 0 0), some (vR 38 0), some (vR 62 0), some (vI i), some (vI kk), some (vI bv), none] [] M2
        refine run_w (L' := [some (vX b), some (vR 0 0), some (vR 38 0), some (vR 62 0), some (vI i), none, none, none]) ⟨rfl, rfl, rfl, rfl, rfl, True.intro⟩ ?_
        exact hN _ _ hJ2 (by omega) (by omega)
      · refine run_k 5 ?_
        show (0 ≤ 0 ∧ 0 < 1) ∧ ((bv = 0 → LW b L xs ER ET 432 (n + 2) [some (vX b), some (vR 0 0), some (vR 38 0), some (vR 62 0), some (vI i), some (vI kk), some (vI bv), none] [vL (M2 62 0 0)] M2) ∧ (bv ≠ 0 → LW b L xs ER ET 428 (n + 2) [some (vX b), some (vR 0 0), some (vR 38 0), some (vR 62 0), some (vI i), some (vI kk), some (vI bv), none] [vL (M2 62 0 0)] M2))
        refine ⟨by omega, ?_⟩
        refine ⟨fun c24 => ?_, fun c24 => ?_⟩
        · refine run_k 3 ?_
          show ((cmpL (M2 62 0 0) 0) = 0 → LW b L xs ER ET 439 (n + 2) [some (vX b), some (vR 0 0), some (vR 38 0), some (vR 62 0), some (vI i), some (vI kk), some (vI bv), none] [] M2) ∧ ((cmpL (M2 62 0 0) 0) ≠ 0 → LW b L xs ER ET 437 (n + 2) [some (vX b), some (vR 0 0), some (vR 38 0), some (vR 62 0), some (vI i), some (vI kk), some (vI bv), none] [] M2)
          refine ⟨fun c25 => ?_, fun c25 => ?_⟩
          · refine run_k 1 ?_
            show LW b L xs ER ET 1787 (n + 2) [some (vX b), some (vR 0 0), some (vR 38 0), some (vR 62 0), some (vI i), some (vI kk), some (vI bv), none] [] M2
            refine run_w (L' := [some (vX b), some (vR 0 0), some (vR 38 0), some (vR 62 0), some (vI i), none, none, none]) ⟨rfl, rfl, rfl, rfl, rfl, True.intro⟩ ?_
            exact hN _ _ hJ2 (by omega) (by omega)
          · refine run_k 2 ?_
            show bT _ ((0 = 0 ∨ 0 = 1) ∧ ER (some (vI 0)) M2)
            refine bT_i (Nat.ble_eq_true_of_le (show _ ≤ (20000 : Nat) from by omega)) ?_
            refine ⟨by omega, ?_⟩
            exfalso
            first | omega | exact absurd (hbv (by omega)) (cmpL_ne (by assumption)) | (have hz := hbv (by omega); have hz2 := cmpL_ne (by assumption); omega)
        · refine run_k 4 ?_
          show ((cmpL (M2 62 0 0) 1) = 0 → LW b L xs ER ET 439 (n + 2) [some (vX b), some (vR 0 0), some (vR 38 0), some (vR 62 0), some (vI i), some (vI kk), some (vI bv), none] [] M2) ∧ ((cmpL (M2 62 0 0) 1) ≠ 0 → LW b L xs ER ET 437 (n + 2) [some (vX b), some (vR 0 0), some (vR 38 0), some (vR 62 0), some (vI i), some (vI kk), some (vI bv), none] [] M2)
          refine ⟨fun c28 => ?_, fun c28 => ?_⟩
          · refine run_k 1 ?_
            show LW b L xs ER ET 1787 (n + 2) [some (vX b), some (vR 0 0), some (vR 38 0), some (vR 62 0), some (vI i), some (vI kk), some (vI bv), none] [] M2
            refine run_w (L' := [some (vX b), some (vR 0 0), some (vR 38 0), some (vR 62 0), some (vI i), none, none, none]) ⟨rfl, rfl, rfl, rfl, rfl, True.intro⟩ ?_
            exact hN _ _ hJ2 (by omega) (by omega)
          · refine run_k 2 ?_
            show bT _ ((0 = 0 ∨ 0 = 1) ∧ ER (some (vI 0)) M2)
            refine bT_i (Nat.ble_eq_true_of_le (show _ ≤ (20000 : Nat) from by omega)) ?_
            refine ⟨by omega, ?_⟩
            exfalso
            first | omega | exact absurd (hbv (by omega)) (cmpL_ne (by assumption)) | (have hz := hbv (by omega); have hz2 := cmpL_ne (by assumption); omega)
    · refine run_k 2 ?_
      show bT _ ((0 = 0 ∨ 0 = 1) ∧ ER (some (vI 0)) M2)
      refine bT_i (Nat.ble_eq_true_of_le (show _ ≤ (20000 : Nat) from by omega)) ?_
      refine ⟨by omega, ?_⟩
      exfalso
      first | omega | exact absurd (hbv (by omega)) (cmpL_ne (by assumption)) | (have hz := hbv (by omega); have hz2 := cmpL_ne (by assumption); omega)
set_option maxHeartbeats 4000000 in
set_option maxRecDepth 20000 in
theorem law_4 {b : Nat} {L : Int} {xs : Int → Int} {ER : Option AV → Mm → Prop} {ET : Nat → Mm → Prop} {B : Int} {μ : Mm} {i : Int} {n : Nat} (hJ : J B μ) (h0 : 0 ≤ B) (hB : B ≤ 8000000000000000000) (hi : 0 ≤ i ∧ i + 5 ≤ L) (hL : L ≤ 2560) (hn : n ≤ 19000) (hN : ∀ (μ' : Mm) (n' : Nat), J (B + 10000000000000000) μ' → n ≤ n' → n' ≤ n + 5 → LW b L xs ER ET 1787 n' [some (vX b), some (vR 0 0), some (vR 38 0), some (vR 62 0), some (vI i), none, none, none] [] μ') : LW b L xs ER ET 442 n [some (vX b), some (vR 0 0), some (vR 38 0), some (vR 62 0), some (vI i), none, none, none] [] μ := by
  refine run_k 23 ?_
  show (b = b) ∧ ((0 ≤ (w32 (i + 1)) ∧ (w32 (i + 1)) < L) ∧ ((b = b) ∧ ((0 ≤ (w32 (i + 2)) ∧ (w32 (i + 2)) < L) ∧ ((b = b) ∧ ((0 ≤ (w32 (i + 3)) ∧ (w32 (i + 3)) < L) ∧ ((b = b) ∧ ((0 ≤ (w32 (i + 4)) ∧ (w32 (i + 4)) < L) ∧ (bT _ (∃ σ : Mm, cl_L_offer.2.2.1 σ [vR 0 0, vI (xs (w32 (i + 1))), vI (xs (w32 (i + 2))), vI (xs (w32 (i + 3))), vI (xs (w32 (i + 4))), vR 62 0] μ ∧ (∀ ov μ', cl_L_offer.2.2.2.1 σ [vR 0 0, vI (xs (w32 (i + 1))), vI (xs (w32 (i + 2))), vI (xs (w32 (i + 3))), vI (xs (w32 (i + 4))), vR 62 0] μ ov μ' → LW b L xs ER ET 471 (n + 5) [some (vX b), some (vR 0 0), some (vR 38 0), some (vR 62 0), some (vI i), none, none, none] (ov.toList ++ []) μ') ∧ ∀ kx, cl_L_offer.2.2.2.2 σ [vR 0 0, vI (xs (w32 (i + 1))), vI (xs (w32 (i + 2))), vI (xs (w32 (i + 3))), vI (xs (w32 (i + 4))), vR 62 0] μ kx → thr cd_L_law ET (LW b L xs ER ET) 468 (n + 5) [some (vX b), some (vR 0 0), some (vR 38 0), some (vR 62 0), some (vI i), none, none, none] μ kx)))))))))
  rw [show w32 (i + 1) = i + 1 from w32_id (by simp only [in32]; omega)]
  rw [show w32 (i + 2) = i + 2 from w32_id (by simp only [in32]; omega)]
  rw [show w32 (i + 3) = i + 3 from w32_id (by simp only [in32]; omega)]
  rw [show w32 (i + 4) = i + 4 from w32_id (by simp only [in32]; omega)]
  refine ⟨rfl, ?_⟩
  refine ⟨by omega, ?_⟩
  refine ⟨rfl, ?_⟩
  refine ⟨by omega, ?_⟩
  refine ⟨rfl, ?_⟩
  refine ⟨by omega, ?_⟩
  refine ⟨rfl, ?_⟩
  refine ⟨by omega, ?_⟩
  refine bT_3 rfl rfl (Nat.ble_eq_true_of_le (show _ ≤ (20000 : Nat) from by omega)) ?_
  refine ⟨μ, ⟨rfl, show CV μ from hJ.1⟩, fun ov μ' hq => ?_, fun k hk => hk.elim⟩
  have hq : ((((0 ≤ (xs (i + 1)) ∧ (xs (i + 1)) ≤ 3) ∧ (0 ≤ (xs (i + 2)) ∧ (xs (i + 2)) ≤ 3)) ∧ ((0 ≤ (xs (i + 3)) ∧ (xs (i + 3)) ≤ 500) ∧ (0 ≤ (xs (i + 4)) ∧ (xs (i + 4)) ≤ 10000)) ∧ (μ 9 (xs (i + 1)) (xs (i + 2)) + (xs (i + 3)) ≤ 2000)) → ov = some (vI 0) ∧ μ' 62 0 0 = (μ 9 (xs (i + 1)) (xs (i + 2)) + (xs (i + 3))) ∧ al μ' = st (st (al μ) 45 0 (4 * (xs (i + 1)) + (xs (i + 2))) (μ 9 (xs (i + 1)) (xs (i + 2)) + (xs (i + 3)))) 46 0 (4 * (xs (i + 1)) + (xs (i + 2))) (xs (i + 4)) ∧ PB2 μ μ') ∧ ((¬ ((0 ≤ (xs (i + 1)) ∧ (xs (i + 1)) ≤ 3) ∧ (0 ≤ (xs (i + 2)) ∧ (xs (i + 2)) ≤ 3))) → ov = some (vI 1) ∧ μ' = μ) ∧ ((((0 ≤ (xs (i + 1)) ∧ (xs (i + 1)) ≤ 3) ∧ (0 ≤ (xs (i + 2)) ∧ (xs (i + 2)) ≤ 3)) ∧ ¬ ((0 ≤ (xs (i + 3)) ∧ (xs (i + 3)) ≤ 500) ∧ (0 ≤ (xs (i + 4)) ∧ (xs (i + 4)) ≤ 10000))) → ov = some (vI 2) ∧ μ' = μ) ∧ ((((0 ≤ (xs (i + 1)) ∧ (xs (i + 1)) ≤ 3) ∧ (0 ≤ (xs (i + 2)) ∧ (xs (i + 2)) ≤ 3)) ∧ ((0 ≤ (xs (i + 3)) ∧ (xs (i + 3)) ≤ 500) ∧ (0 ≤ (xs (i + 4)) ∧ (xs (i + 4)) ≤ 10000)) ∧ ¬ (μ 9 (xs (i + 1)) (xs (i + 2)) + (xs (i + 3)) ≤ 2000)) → ov = some (vI 3) ∧ μ' = μ) := hq
  obtain ⟨kk, hov, hP1, hpre, hcal⟩ := cal_offer hJ h0 hB hq
  rw [hov]
  clear hov hq
  rename Mm => M1
  show LW b L xs ER ET 471 (n + 5) [some (vX b), some (vR 0 0), some (vR 38 0), some (vR 62 0), some (vI i), none, none, none] [vI kk] M1
  refine run_k 23 ?_
  show (b = b) ∧ ((0 ≤ (w32 (i + 1)) ∧ (w32 (i + 1)) < L) ∧ ((b = b) ∧ ((0 ≤ (w32 (i + 2)) ∧ (w32 (i + 2)) < L) ∧ ((b = b) ∧ ((0 ≤ (w32 (i + 3)) ∧ (w32 (i + 3)) < L) ∧ ((b = b) ∧ ((0 ≤ (w32 (i + 4)) ∧ (w32 (i + 4)) < L) ∧ (bT _ (∃ σ : Mm, cl_X5_offer.2.2.1 σ [vR 38 0, vI (xs (w32 (i + 1))), vI (xs (w32 (i + 2))), vI (xs (w32 (i + 3))), vI (xs (w32 (i + 4)))] M1 ∧ (∀ ov μ', cl_X5_offer.2.2.2.1 σ [vR 38 0, vI (xs (w32 (i + 1))), vI (xs (w32 (i + 2))), vI (xs (w32 (i + 3))), vI (xs (w32 (i + 4)))] M1 ov μ' → LW b L xs ER ET 501 (n + 5) [some (vX b), some (vR 0 0), some (vR 38 0), some (vR 62 0), some (vI i), some (vI kk), none, none] (ov.toList ++ []) μ') ∧ ∀ kx, cl_X5_offer.2.2.2.2 σ [vR 38 0, vI (xs (w32 (i + 1))), vI (xs (w32 (i + 2))), vI (xs (w32 (i + 3))), vI (xs (w32 (i + 4)))] M1 kx → thr cd_L_law ET (LW b L xs ER ET) 498 (n + 5) [some (vX b), some (vR 0 0), some (vR 38 0), some (vR 62 0), some (vI i), some (vI kk), none, none] M1 kx)))))))))
  rw [show w32 (i + 1) = i + 1 from w32_id (by simp only [in32]; omega)]
  rw [show w32 (i + 2) = i + 2 from w32_id (by simp only [in32]; omega)]
  rw [show w32 (i + 3) = i + 3 from w32_id (by simp only [in32]; omega)]
  rw [show w32 (i + 4) = i + 4 from w32_id (by simp only [in32]; omega)]
  refine ⟨rfl, ?_⟩
  refine ⟨by omega, ?_⟩
  refine ⟨rfl, ?_⟩
  refine ⟨by omega, ?_⟩
  refine ⟨rfl, ?_⟩
  refine ⟨by omega, ?_⟩
  refine ⟨rfl, ?_⟩
  refine ⟨by omega, ?_⟩
  refine bT_3 rfl rfl (Nat.ble_eq_true_of_le (show _ ≤ (20000 : Nat) from by omega)) ?_
  refine ⟨μ, ⟨rfl, show Wk M1 ∧ Xk M1 from ⟨hpre.1, hpre.2⟩⟩, fun ov μ' hq => ?_, fun k hk => hk.elim⟩
  obtain ⟨bv, hov2, hJ2, hth, hbv⟩ := hcal ov μ' hq
  rw [hov2]
  clear hov2 hq
  rename Mm => M2
  show LW b L xs ER ET 501 (n + 5) [some (vX b), some (vR 0 0), some (vR 38 0), some (vR 62 0), some (vI i), some (vI kk), none, none] [vI bv] M2
  refine run_k 3 ?_
  show bT _ (∃ σ : Mm, cl_X5_thrown.2.2.1 σ [vR 38 0] M2 ∧ (∀ ov μ', cl_X5_thrown.2.2.2.1 σ [vR 38 0] M2 ov μ' → LW b L xs ER ET 507 (n + 5) [some (vX b), some (vR 0 0), some (vR 38 0), some (vR 62 0), some (vI i), some (vI kk), some (vI bv), none] (ov.toList ++ []) μ') ∧ ∀ kx, cl_X5_thrown.2.2.2.2 σ [vR 38 0] M2 kx → thr cd_L_law ET (LW b L xs ER ET) 504 (n + 5) [some (vX b), some (vR 0 0), some (vR 38 0), some (vR 62 0), some (vI i), some (vI kk), some (vI bv), none] M2 kx)
  refine bT_3 rfl rfl (Nat.ble_eq_true_of_le (show _ ≤ (20000 : Nat) from by omega)) ?_
  refine ⟨μ, ⟨rfl, show True from True.intro⟩, fun ov μ' hq => ?_, fun k hk => hk.elim⟩
  obtain ⟨hov3, hmu⟩ : ov = some (vI (M2 38 0 0)) ∧ μ' = M2 := hq
  rw [hov3, hmu, hth]
  show LW b L xs ER ET 507 (n + 5) [some (vX b), some (vR 0 0), some (vR 38 0), some (vR 62 0), some (vI i), some (vI kk), some (vI bv), none] [vI kk] M2
  refine run_k 2 ?_
  show (kk = kk → LW b L xs ER ET 514 (n + 5) [some (vX b), some (vR 0 0), some (vR 38 0), some (vR 62 0), some (vI i), some (vI kk), some (vI bv), none] [] M2) ∧ (kk ≠ kk → LW b L xs ER ET 512 (n + 5) [some (vX b), some (vR 0 0), some (vR 38 0), some (vR 62 0), some (vI i), some (vI kk), some (vI bv), none] [] M2)
  refine ⟨fun c4 => ?_, fun c4 => ?_⟩
  · refine run_k 2 ?_
    show (kk ≠ 0 → LW b L xs ER ET 531 (n + 5) [some (vX b), some (vR 0 0), some (vR 38 0), some (vR 62 0), some (vI i), some (vI kk), some (vI bv), none] [] M2) ∧ (kk = 0 → LW b L xs ER ET 519 (n + 5) [some (vX b), some (vR 0 0), some (vR 38 0), some (vR 62 0), some (vI i), some (vI kk), some (vI bv), none] [] M2)
    refine ⟨fun c5 => ?_, fun c5 => ?_⟩
    · refine run_k 1 ?_
      show LW b L xs ER ET 1787 (n + 5) [some (vX b), some (vR 0 0), some (vR 38 0), some (vR 62 0), some (vI i), some (vI kk), some (vI bv), none] [] M2
      refine run_w (L' := [some (vX b), some (vR 0 0), some (vR 38 0), some (vR 62 0), some (vI i), none, none, none]) ⟨rfl, rfl, rfl, rfl, rfl, True.intro⟩ ?_
      exact hN _ _ hJ2 (by omega) (by omega)
    · refine run_k 7 ?_
      show (0 ≤ 0 ∧ 0 < 1) ∧ (((cmpL (M2 62 0 0) bv) = 0 → LW b L xs ER ET 531 (n + 5) [some (vX b), some (vR 0 0), some (vR 38 0), some (vR 62 0), some (vI i), some (vI kk), some (vI bv), none] [] M2) ∧ ((cmpL (M2 62 0 0) bv) ≠ 0 → LW b L xs ER ET 529 (n + 5) [some (vX b), some (vR 0 0), some (vR 38 0), some (vR 62 0), some (vI i), some (vI kk), some (vI bv), none] [] M2))
      refine ⟨by omega, ?_⟩
      refine ⟨fun c7 => ?_, fun c7 => ?_⟩
      · refine run_k 1 ?_
        show LW b L xs ER ET 1787 (n + 5) [some (vX b), some (vR 0 0), some (vR 38 0), some (vR 62 0), some (vI i), some (vI kk), some (vI bv), none] [] M2
        refine run_w (L' := [some (vX b), some (vR 0 0), some (vR 38 0), some (vR 62 0), some (vI i), none, none, none]) ⟨rfl, rfl, rfl, rfl, rfl, True.intro⟩ ?_
        exact hN _ _ hJ2 (by omega) (by omega)
      · refine run_k 2 ?_
        show bT _ ((0 = 0 ∨ 0 = 1) ∧ ER (some (vI 0)) M2)
        refine bT_i (Nat.ble_eq_true_of_le (show _ ≤ (20000 : Nat) from by omega)) ?_
        refine ⟨by omega, ?_⟩
        exfalso
        first | omega | exact absurd (hbv (by omega)) (cmpL_ne (by assumption)) | (have hz := hbv (by omega); have hz2 := cmpL_ne (by assumption); omega)
  · refine run_k 2 ?_
    show bT _ ((0 = 0 ∨ 0 = 1) ∧ ER (some (vI 0)) M2)
    refine bT_i (Nat.ble_eq_true_of_le (show _ ≤ (20000 : Nat) from by omega)) ?_
    refine ⟨by omega, ?_⟩
    exfalso
    first | omega | exact absurd (hbv (by omega)) (cmpL_ne (by assumption)) | (have hz := hbv (by omega); have hz2 := cmpL_ne (by assumption); omega)
set_option maxHeartbeats 4000000 in
set_option maxRecDepth 20000 in
theorem law_5 {b : Nat} {L : Int} {xs : Int → Int} {ER : Option AV → Mm → Prop} {ET : Nat → Mm → Prop} {B : Int} {μ : Mm} {i : Int} {n : Nat} (hJ : J B μ) (h0 : 0 ≤ B) (hB : B ≤ 8000000000000000000) (hi : 0 ≤ i ∧ i + 5 ≤ L) (hL : L ≤ 2560) (hn : n ≤ 19000) (hN : ∀ (μ' : Mm) (n' : Nat), J (B + 10000000000000000) μ' → n ≤ n' → n' ≤ n + 5 → LW b L xs ER ET 1787 n' [some (vX b), some (vR 0 0), some (vR 38 0), some (vR 62 0), some (vI i), none, none, none] [] μ') : LW b L xs ER ET 534 n [some (vX b), some (vR 0 0), some (vR 38 0), some (vR 62 0), some (vI i), none, none, none] [] μ := by
  refine run_k 13 ?_
  show (b = b) ∧ ((0 ≤ (w32 (i + 1)) ∧ (w32 (i + 1)) < L) ∧ ((b = b) ∧ ((0 ≤ (w32 (i + 2)) ∧ (w32 (i + 2)) < L) ∧ (bT _ (∃ σ : Mm, cl_L_dividend.2.2.1 σ [vR 0 0, vI (xs (w32 (i + 1))), vI (xs (w32 (i + 2))), vR 62 0] μ ∧ (∀ ov μ', cl_L_dividend.2.2.2.1 σ [vR 0 0, vI (xs (w32 (i + 1))), vI (xs (w32 (i + 2))), vR 62 0] μ ov μ' → LW b L xs ER ET 551 (n + 2) [some (vX b), some (vR 0 0), some (vR 38 0), some (vR 62 0), some (vI i), none, none, none] (ov.toList ++ []) μ') ∧ ∀ kx, cl_L_dividend.2.2.2.2 σ [vR 0 0, vI (xs (w32 (i + 1))), vI (xs (w32 (i + 2))), vR 62 0] μ kx → thr cd_L_law ET (LW b L xs ER ET) 548 (n + 2) [some (vX b), some (vR 0 0), some (vR 38 0), some (vR 62 0), some (vI i), none, none, none] μ kx)))))
  rw [show w32 (i + 1) = i + 1 from w32_id (by simp only [in32]; omega)]
  rw [show w32 (i + 2) = i + 2 from w32_id (by simp only [in32]; omega)]
  refine ⟨rfl, ?_⟩
  refine ⟨by omega, ?_⟩
  refine ⟨rfl, ?_⟩
  refine ⟨by omega, ?_⟩
  refine bT_3 rfl rfl (Nat.ble_eq_true_of_le (show _ ≤ (20000 : Nat) from by omega)) ?_
  refine ⟨μ, ⟨rfl, show CV μ from hJ.1⟩, fun ov μ' hq => ?_, fun k hk => hk.elim⟩
  have hq : (((0 ≤ (xs (i + 1)) ∧ (xs (i + 1)) ≤ 3) ∧ (1 ≤ (xs (i + 2)) ∧ (xs (i + 2)) ≤ 10000)) → ov = some (vI 0) ∧ μ' 62 0 0 = ((divB (al μ) (xs (i + 1)) (xs (i + 2)) 4).2) ∧ al μ' = (divB (al μ) (xs (i + 1)) (xs (i + 2)) 4).1 ∧ PB2 μ μ') ∧ ((¬ (0 ≤ (xs (i + 1)) ∧ (xs (i + 1)) ≤ 3)) → ov = some (vI 1) ∧ μ' = μ) ∧ (((0 ≤ (xs (i + 1)) ∧ (xs (i + 1)) ≤ 3) ∧ ¬ (1 ≤ (xs (i + 2)) ∧ (xs (i + 2)) ≤ 10000)) → ov = some (vI 2) ∧ μ' = μ) := hq
  obtain ⟨kk, hov, hP1, hpre, hcal⟩ := cal_dividend hJ h0 hB hq
  rw [hov]
  clear hov hq
  rename Mm => M1
  show LW b L xs ER ET 551 (n + 2) [some (vX b), some (vR 0 0), some (vR 38 0), some (vR 62 0), some (vI i), none, none, none] [vI kk] M1
  refine run_k 13 ?_
  show (b = b) ∧ ((0 ≤ (w32 (i + 1)) ∧ (w32 (i + 1)) < L) ∧ ((b = b) ∧ ((0 ≤ (w32 (i + 2)) ∧ (w32 (i + 2)) < L) ∧ (bT _ (∃ σ : Mm, cl_X5_dividend.2.2.1 σ [vR 38 0, vI (xs (w32 (i + 1))), vI (xs (w32 (i + 2)))] M1 ∧ (∀ ov μ', cl_X5_dividend.2.2.2.1 σ [vR 38 0, vI (xs (w32 (i + 1))), vI (xs (w32 (i + 2)))] M1 ov μ' → LW b L xs ER ET 569 (n + 2) [some (vX b), some (vR 0 0), some (vR 38 0), some (vR 62 0), some (vI i), some (vI kk), none, none] (ov.toList ++ []) μ') ∧ ∀ kx, cl_X5_dividend.2.2.2.2 σ [vR 38 0, vI (xs (w32 (i + 1))), vI (xs (w32 (i + 2)))] M1 kx → thr cd_L_law ET (LW b L xs ER ET) 566 (n + 2) [some (vX b), some (vR 0 0), some (vR 38 0), some (vR 62 0), some (vI i), some (vI kk), none, none] M1 kx)))))
  rw [show w32 (i + 1) = i + 1 from w32_id (by simp only [in32]; omega)]
  rw [show w32 (i + 2) = i + 2 from w32_id (by simp only [in32]; omega)]
  refine ⟨rfl, ?_⟩
  refine ⟨by omega, ?_⟩
  refine ⟨rfl, ?_⟩
  refine ⟨by omega, ?_⟩
  refine bT_3 rfl rfl (Nat.ble_eq_true_of_le (show _ ≤ (20000 : Nat) from by omega)) ?_
  refine ⟨μ, ⟨rfl, show Wk M1 ∧ Xk M1 from ⟨hpre.1, hpre.2⟩⟩, fun ov μ' hq => ?_, fun k hk => hk.elim⟩
  obtain ⟨bv, hov2, hJ2, hth, hbv⟩ := hcal ov μ' hq
  rw [hov2]
  clear hov2 hq
  rename Mm => M2
  show LW b L xs ER ET 569 (n + 2) [some (vX b), some (vR 0 0), some (vR 38 0), some (vR 62 0), some (vI i), some (vI kk), none, none] [vL bv] M2
  refine run_k 3 ?_
  show bT _ (∃ σ : Mm, cl_X5_thrown.2.2.1 σ [vR 38 0] M2 ∧ (∀ ov μ', cl_X5_thrown.2.2.2.1 σ [vR 38 0] M2 ov μ' → LW b L xs ER ET 575 (n + 2) [some (vX b), some (vR 0 0), some (vR 38 0), some (vR 62 0), some (vI i), some (vI kk), some (vL bv), none] (ov.toList ++ []) μ') ∧ ∀ kx, cl_X5_thrown.2.2.2.2 σ [vR 38 0] M2 kx → thr cd_L_law ET (LW b L xs ER ET) 572 (n + 2) [some (vX b), some (vR 0 0), some (vR 38 0), some (vR 62 0), some (vI i), some (vI kk), some (vL bv), none] M2 kx)
  refine bT_3 rfl rfl (Nat.ble_eq_true_of_le (show _ ≤ (20000 : Nat) from by omega)) ?_
  refine ⟨μ, ⟨rfl, show True from True.intro⟩, fun ov μ' hq => ?_, fun k hk => hk.elim⟩
  obtain ⟨hov3, hmu⟩ : ov = some (vI (M2 38 0 0)) ∧ μ' = M2 := hq
  rw [hov3, hmu, hth]
  show LW b L xs ER ET 575 (n + 2) [some (vX b), some (vR 0 0), some (vR 38 0), some (vR 62 0), some (vI i), some (vI kk), some (vL bv), none] [vI kk] M2
  refine run_k 2 ?_
  show (kk = kk → LW b L xs ER ET 582 (n + 2) [some (vX b), some (vR 0 0), some (vR 38 0), some (vR 62 0), some (vI i), some (vI kk), some (vL bv), none] [] M2) ∧ (kk ≠ kk → LW b L xs ER ET 580 (n + 2) [some (vX b), some (vR 0 0), some (vR 38 0), some (vR 62 0), some (vI i), some (vI kk), some (vL bv), none] [] M2)
  refine ⟨fun c4 => ?_, fun c4 => ?_⟩
  · refine run_k 2 ?_
    show (kk ≠ 0 → LW b L xs ER ET 598 (n + 2) [some (vX b), some (vR 0 0), some (vR 38 0), some (vR 62 0), some (vI i), some (vI kk), some (vL bv), none] [] M2) ∧ (kk = 0 → LW b L xs ER ET 587 (n + 2) [some (vX b), some (vR 0 0), some (vR 38 0), some (vR 62 0), some (vI i), some (vI kk), some (vL bv), none] [] M2)
    refine ⟨fun c5 => ?_, fun c5 => ?_⟩
    · refine run_k 1 ?_
      show LW b L xs ER ET 1787 (n + 2) [some (vX b), some (vR 0 0), some (vR 38 0), some (vR 62 0), some (vI i), some (vI kk), some (vL bv), none] [] M2
      refine run_w (L' := [some (vX b), some (vR 0 0), some (vR 38 0), some (vR 62 0), some (vI i), none, none, none]) ⟨rfl, rfl, rfl, rfl, rfl, True.intro⟩ ?_
      exact hN _ _ hJ2 (by omega) (by omega)
    · refine run_k 6 ?_
      show (0 ≤ 0 ∧ 0 < 1) ∧ (((cmpL (M2 62 0 0) bv) = 0 → LW b L xs ER ET 598 (n + 2) [some (vX b), some (vR 0 0), some (vR 38 0), some (vR 62 0), some (vI i), some (vI kk), some (vL bv), none] [] M2) ∧ ((cmpL (M2 62 0 0) bv) ≠ 0 → LW b L xs ER ET 596 (n + 2) [some (vX b), some (vR 0 0), some (vR 38 0), some (vR 62 0), some (vI i), some (vI kk), some (vL bv), none] [] M2))
      refine ⟨by omega, ?_⟩
      refine ⟨fun c7 => ?_, fun c7 => ?_⟩
      · refine run_k 1 ?_
        show LW b L xs ER ET 1787 (n + 2) [some (vX b), some (vR 0 0), some (vR 38 0), some (vR 62 0), some (vI i), some (vI kk), some (vL bv), none] [] M2
        refine run_w (L' := [some (vX b), some (vR 0 0), some (vR 38 0), some (vR 62 0), some (vI i), none, none, none]) ⟨rfl, rfl, rfl, rfl, rfl, True.intro⟩ ?_
        exact hN _ _ hJ2 (by omega) (by omega)
      · refine run_k 2 ?_
        show bT _ ((0 = 0 ∨ 0 = 1) ∧ ER (some (vI 0)) M2)
        refine bT_i (Nat.ble_eq_true_of_le (show _ ≤ (20000 : Nat) from by omega)) ?_
        refine ⟨by omega, ?_⟩
        exfalso
        first | omega | exact absurd (hbv (by omega)) (cmpL_ne (by assumption)) | (have hz := hbv (by omega); have hz2 := cmpL_ne (by assumption); omega)
  · refine run_k 2 ?_
    show bT _ ((0 = 0 ∨ 0 = 1) ∧ ER (some (vI 0)) M2)
    refine bT_i (Nat.ble_eq_true_of_le (show _ ≤ (20000 : Nat) from by omega)) ?_
    refine ⟨by omega, ?_⟩
    exfalso
    first | omega | exact absurd (hbv (by omega)) (cmpL_ne (by assumption)) | (have hz := hbv (by omega); have hz2 := cmpL_ne (by assumption); omega)
set_option maxHeartbeats 4000000 in
set_option maxRecDepth 20000 in
theorem law_6 {b : Nat} {L : Int} {xs : Int → Int} {ER : Option AV → Mm → Prop} {ET : Nat → Mm → Prop} {B : Int} {μ : Mm} {i : Int} {n : Nat} (hJ : J B μ) (h0 : 0 ≤ B) (hB : B ≤ 8000000000000000000) (hi : 0 ≤ i ∧ i + 5 ≤ L) (hL : L ≤ 2560) (hn : n ≤ 19000) (hN : ∀ (μ' : Mm) (n' : Nat), J (B + 10000000000000000) μ' → n ≤ n' → n' ≤ n + 5 → LW b L xs ER ET 1787 n' [some (vX b), some (vR 0 0), some (vR 38 0), some (vR 62 0), some (vI i), none, none, none] [] μ') : LW b L xs ER ET 601 n [some (vX b), some (vR 0 0), some (vR 38 0), some (vR 62 0), some (vI i), none, none, none] [] μ := by
  refine run_k 8 ?_
  show (b = b) ∧ ((0 ≤ (w32 (i + 1)) ∧ (w32 (i + 1)) < L) ∧ (bT _ (∃ σ : Mm, cl_L_pass.2.2.1 σ [vR 0 0, vI (xs (w32 (i + 1))), vR 62 0] μ ∧ (∀ ov μ', cl_L_pass.2.2.2.1 σ [vR 0 0, vI (xs (w32 (i + 1))), vR 62 0] μ ov μ' → LW b L xs ER ET 612 (n + 2) [some (vX b), some (vR 0 0), some (vR 38 0), some (vR 62 0), some (vI i), none, none, none] (ov.toList ++ []) μ') ∧ ∀ kx, cl_L_pass.2.2.2.2 σ [vR 0 0, vI (xs (w32 (i + 1))), vR 62 0] μ kx → thr cd_L_law ET (LW b L xs ER ET) 609 (n + 2) [some (vX b), some (vR 0 0), some (vR 38 0), some (vR 62 0), some (vI i), none, none, none] μ kx)))
  rw [show w32 (i + 1) = i + 1 from w32_id (by simp only [in32]; omega)]
  refine ⟨rfl, ?_⟩
  refine ⟨by omega, ?_⟩
  refine bT_3 rfl rfl (Nat.ble_eq_true_of_le (show _ ≤ (20000 : Nat) from by omega)) ?_
  refine ⟨μ, ⟨rfl, show CV μ from hJ.1⟩, fun ov μ' hq => ?_, fun k hk => hk.elim⟩
  have hq : (((1 ≤ (xs (i + 1)) ∧ (xs (i + 1)) ≤ 50) ∧ (μ 0 0 14 + (xs (i + 1)) ≤ 500)) → ov = some (vI 0) ∧ μ' 62 0 0 = (μ 0 0 14 + (xs (i + 1))) ∧ al μ' = psL (al μ) ((xs (i + 1))).toNat ∧ PB2 μ μ') ∧ ((¬ (1 ≤ (xs (i + 1)) ∧ (xs (i + 1)) ≤ 50)) → ov = some (vI 1) ∧ μ' = μ) ∧ (((1 ≤ (xs (i + 1)) ∧ (xs (i + 1)) ≤ 50) ∧ ¬ (μ 0 0 14 + (xs (i + 1)) ≤ 500)) → ov = some (vI 2) ∧ μ' = μ) := hq
  obtain ⟨kk, hov, hP1, hpre, hcal⟩ := cal_pass hJ h0 hB hq
  rw [hov]
  clear hov hq
  rename Mm => M1
  show LW b L xs ER ET 612 (n + 2) [some (vX b), some (vR 0 0), some (vR 38 0), some (vR 62 0), some (vI i), none, none, none] [vI kk] M1
  refine run_k 8 ?_
  show (b = b) ∧ ((0 ≤ (w32 (i + 1)) ∧ (w32 (i + 1)) < L) ∧ (bT _ (∃ σ : Mm, cl_X5_pass.2.2.1 σ [vR 38 0, vI (xs (w32 (i + 1)))] M1 ∧ (∀ ov μ', cl_X5_pass.2.2.2.1 σ [vR 38 0, vI (xs (w32 (i + 1)))] M1 ov μ' → LW b L xs ER ET 624 (n + 2) [some (vX b), some (vR 0 0), some (vR 38 0), some (vR 62 0), some (vI i), some (vI kk), none, none] (ov.toList ++ []) μ') ∧ ∀ kx, cl_X5_pass.2.2.2.2 σ [vR 38 0, vI (xs (w32 (i + 1)))] M1 kx → thr cd_L_law ET (LW b L xs ER ET) 621 (n + 2) [some (vX b), some (vR 0 0), some (vR 38 0), some (vR 62 0), some (vI i), some (vI kk), none, none] M1 kx)))
  rw [show w32 (i + 1) = i + 1 from w32_id (by simp only [in32]; omega)]
  refine ⟨rfl, ?_⟩
  refine ⟨by omega, ?_⟩
  refine bT_3 rfl rfl (Nat.ble_eq_true_of_le (show _ ≤ (20000 : Nat) from by omega)) ?_
  refine ⟨μ, ⟨rfl, show Wk M1 ∧ Xk M1 from ⟨hpre.1, hpre.2⟩⟩, fun ov μ' hq => ?_, fun k hk => hk.elim⟩
  obtain ⟨bv, hov2, hJ2, hth, hbv⟩ := hcal ov μ' hq
  rw [hov2]
  clear hov2 hq
  rename Mm => M2
  show LW b L xs ER ET 624 (n + 2) [some (vX b), some (vR 0 0), some (vR 38 0), some (vR 62 0), some (vI i), some (vI kk), none, none] [vI bv] M2
  refine run_k 3 ?_
  show bT _ (∃ σ : Mm, cl_X5_thrown.2.2.1 σ [vR 38 0] M2 ∧ (∀ ov μ', cl_X5_thrown.2.2.2.1 σ [vR 38 0] M2 ov μ' → LW b L xs ER ET 630 (n + 2) [some (vX b), some (vR 0 0), some (vR 38 0), some (vR 62 0), some (vI i), some (vI kk), some (vI bv), none] (ov.toList ++ []) μ') ∧ ∀ kx, cl_X5_thrown.2.2.2.2 σ [vR 38 0] M2 kx → thr cd_L_law ET (LW b L xs ER ET) 627 (n + 2) [some (vX b), some (vR 0 0), some (vR 38 0), some (vR 62 0), some (vI i), some (vI kk), some (vI bv), none] M2 kx)
  refine bT_3 rfl rfl (Nat.ble_eq_true_of_le (show _ ≤ (20000 : Nat) from by omega)) ?_
  refine ⟨μ, ⟨rfl, show True from True.intro⟩, fun ov μ' hq => ?_, fun k hk => hk.elim⟩
  obtain ⟨hov3, hmu⟩ : ov = some (vI (M2 38 0 0)) ∧ μ' = M2 := hq
  rw [hov3, hmu, hth]
  show LW b L xs ER ET 630 (n + 2) [some (vX b), some (vR 0 0), some (vR 38 0), some (vR 62 0), some (vI i), some (vI kk), some (vI bv), none] [vI kk] M2
  refine run_k 2 ?_
  show (kk = kk → LW b L xs ER ET 637 (n + 2) [some (vX b), some (vR 0 0), some (vR 38 0), some (vR 62 0), some (vI i), some (vI kk), some (vI bv), none] [] M2) ∧ (kk ≠ kk → LW b L xs ER ET 635 (n + 2) [some (vX b), some (vR 0 0), some (vR 38 0), some (vR 62 0), some (vI i), some (vI kk), some (vI bv), none] [] M2)
  refine ⟨fun c4 => ?_, fun c4 => ?_⟩
  · refine run_k 2 ?_
    show (kk ≠ 0 → LW b L xs ER ET 654 (n + 2) [some (vX b), some (vR 0 0), some (vR 38 0), some (vR 62 0), some (vI i), some (vI kk), some (vI bv), none] [] M2) ∧ (kk = 0 → LW b L xs ER ET 642 (n + 2) [some (vX b), some (vR 0 0), some (vR 38 0), some (vR 62 0), some (vI i), some (vI kk), some (vI bv), none] [] M2)
    refine ⟨fun c5 => ?_, fun c5 => ?_⟩
    · refine run_k 1 ?_
      show LW b L xs ER ET 1787 (n + 2) [some (vX b), some (vR 0 0), some (vR 38 0), some (vR 62 0), some (vI i), some (vI kk), some (vI bv), none] [] M2
      refine run_w (L' := [some (vX b), some (vR 0 0), some (vR 38 0), some (vR 62 0), some (vI i), none, none, none]) ⟨rfl, rfl, rfl, rfl, rfl, True.intro⟩ ?_
      exact hN _ _ hJ2 (by omega) (by omega)
    · refine run_k 7 ?_
      show (0 ≤ 0 ∧ 0 < 1) ∧ (((cmpL (M2 62 0 0) bv) = 0 → LW b L xs ER ET 654 (n + 2) [some (vX b), some (vR 0 0), some (vR 38 0), some (vR 62 0), some (vI i), some (vI kk), some (vI bv), none] [] M2) ∧ ((cmpL (M2 62 0 0) bv) ≠ 0 → LW b L xs ER ET 652 (n + 2) [some (vX b), some (vR 0 0), some (vR 38 0), some (vR 62 0), some (vI i), some (vI kk), some (vI bv), none] [] M2))
      refine ⟨by omega, ?_⟩
      refine ⟨fun c7 => ?_, fun c7 => ?_⟩
      · refine run_k 1 ?_
        show LW b L xs ER ET 1787 (n + 2) [some (vX b), some (vR 0 0), some (vR 38 0), some (vR 62 0), some (vI i), some (vI kk), some (vI bv), none] [] M2
        refine run_w (L' := [some (vX b), some (vR 0 0), some (vR 38 0), some (vR 62 0), some (vI i), none, none, none]) ⟨rfl, rfl, rfl, rfl, rfl, True.intro⟩ ?_
        exact hN _ _ hJ2 (by omega) (by omega)
      · refine run_k 2 ?_
        show bT _ ((0 = 0 ∨ 0 = 1) ∧ ER (some (vI 0)) M2)
        refine bT_i (Nat.ble_eq_true_of_le (show _ ≤ (20000 : Nat) from by omega)) ?_
        refine ⟨by omega, ?_⟩
        exfalso
        first | omega | exact absurd (hbv (by omega)) (cmpL_ne (by assumption)) | (have hz := hbv (by omega); have hz2 := cmpL_ne (by assumption); omega)
  · refine run_k 2 ?_
    show bT _ ((0 = 0 ∨ 0 = 1) ∧ ER (some (vI 0)) M2)
    refine bT_i (Nat.ble_eq_true_of_le (show _ ≤ (20000 : Nat) from by omega)) ?_
    refine ⟨by omega, ?_⟩
    exfalso
    first | omega | exact absurd (hbv (by omega)) (cmpL_ne (by assumption)) | (have hz := hbv (by omega); have hz2 := cmpL_ne (by assumption); omega)
set_option maxHeartbeats 4000000 in
set_option maxRecDepth 20000 in
theorem law_7 {b : Nat} {L : Int} {xs : Int → Int} {ER : Option AV → Mm → Prop} {ET : Nat → Mm → Prop} {B : Int} {μ : Mm} {i : Int} {n : Nat} (hJ : J B μ) (h0 : 0 ≤ B) (hB : B ≤ 8000000000000000000) (hi : 0 ≤ i ∧ i + 5 ≤ L) (hL : L ≤ 2560) (hn : n ≤ 19000) (hN : ∀ (μ' : Mm) (n' : Nat), J (B + 10000000000000000) μ' → n ≤ n' → n' ≤ n + 5 → LW b L xs ER ET 1787 n' [some (vX b), some (vR 0 0), some (vR 38 0), some (vR 62 0), some (vI i), none, none, none] [] μ') : LW b L xs ER ET 657 n [some (vX b), some (vR 0 0), some (vR 38 0), some (vR 62 0), some (vI i), none, none, none] [] μ := by
  refine run_k 18 ?_
  show (b = b) ∧ ((0 ≤ (w32 (i + 1)) ∧ (w32 (i + 1)) < L) ∧ ((b = b) ∧ ((0 ≤ (w32 (i + 2)) ∧ (w32 (i + 2)) < L) ∧ ((b = b) ∧ ((0 ≤ (w32 (i + 3)) ∧ (w32 (i + 3)) < L) ∧ (bT _ (∃ σ : Mm, cl_L_buy.2.2.1 σ [vR 0 0, vI (xs (w32 (i + 1))), vI (xs (w32 (i + 2))), vI (xs (w32 (i + 3))), vR 62 0] μ ∧ (∀ ov μ', cl_L_buy.2.2.2.1 σ [vR 0 0, vI (xs (w32 (i + 1))), vI (xs (w32 (i + 2))), vI (xs (w32 (i + 3))), vR 62 0] μ ov μ' → LW b L xs ER ET 680 (n + 4) [some (vX b), some (vR 0 0), some (vR 38 0), some (vR 62 0), some (vI i), none, none, none] (ov.toList ++ []) μ') ∧ ∀ kx, cl_L_buy.2.2.2.2 σ [vR 0 0, vI (xs (w32 (i + 1))), vI (xs (w32 (i + 2))), vI (xs (w32 (i + 3))), vR 62 0] μ kx → thr cd_L_law ET (LW b L xs ER ET) 677 (n + 4) [some (vX b), some (vR 0 0), some (vR 38 0), some (vR 62 0), some (vI i), none, none, none] μ kx)))))))
  rw [show w32 (i + 1) = i + 1 from w32_id (by simp only [in32]; omega)]
  rw [show w32 (i + 2) = i + 2 from w32_id (by simp only [in32]; omega)]
  rw [show w32 (i + 3) = i + 3 from w32_id (by simp only [in32]; omega)]
  refine ⟨rfl, ?_⟩
  refine ⟨by omega, ?_⟩
  refine ⟨rfl, ?_⟩
  refine ⟨by omega, ?_⟩
  refine ⟨rfl, ?_⟩
  refine ⟨by omega, ?_⟩
  refine bT_3 rfl rfl (Nat.ble_eq_true_of_le (show _ ≤ (20000 : Nat) from by omega)) ?_
  refine ⟨μ, ⟨rfl, show CV μ from hJ.1⟩, fun ov μ' hq => ?_, fun k hk => hk.elim⟩
  have hq : ((((0 ≤ (xs (i + 1)) ∧ (xs (i + 1)) ≤ 5) ∧ (0 ≤ (xs (i + 2)) ∧ (xs (i + 2)) ≤ 3)) ∧ (1 ≤ (xs (i + 3)) ∧ (xs (i + 3)) ≤ 500) ∧ (μ 5 0 (xs (i + 1)) = 0 ∧ μ 7 (xs (i + 1)) (xs (i + 2)) + (xs (i + 3)) ≤ 500)) → ov = some (vI 0) ∧ μ' 62 0 0 = (buysF (al μ) (xs (i + 1)) (xs (i + 2)) (xs (i + 3)) 41 0 (xs (i + 1))) ∧ al μ' = buysF (al μ) (xs (i + 1)) (xs (i + 2)) (xs (i + 3)) ∧ PB2 μ μ') ∧ ((¬ ((0 ≤ (xs (i + 1)) ∧ (xs (i + 1)) ≤ 5) ∧ (0 ≤ (xs (i + 2)) ∧ (xs (i + 2)) ≤ 3))) → ov = some (vI 1) ∧ μ' = μ) ∧ ((((0 ≤ (xs (i + 1)) ∧ (xs (i + 1)) ≤ 5) ∧ (0 ≤ (xs (i + 2)) ∧ (xs (i + 2)) ≤ 3)) ∧ ¬ (1 ≤ (xs (i + 3)) ∧ (xs (i + 3)) ≤ 500)) → ov = some (vI 2) ∧ μ' = μ) ∧ ((((0 ≤ (xs (i + 1)) ∧ (xs (i + 1)) ≤ 5) ∧ (0 ≤ (xs (i + 2)) ∧ (xs (i + 2)) ≤ 3)) ∧ (1 ≤ (xs (i + 3)) ∧ (xs (i + 3)) ≤ 500) ∧ ¬ (μ 5 0 (xs (i + 1)) = 0 ∧ μ 7 (xs (i + 1)) (xs (i + 2)) + (xs (i + 3)) ≤ 500)) → ov = some (vI 3) ∧ μ' = μ) := hq
  obtain ⟨kk, hov, hP1, hpre, hcal⟩ := cal_buy hJ h0 hB hq
  rw [hov]
  clear hov hq
  rename Mm => M1
  show LW b L xs ER ET 680 (n + 4) [some (vX b), some (vR 0 0), some (vR 38 0), some (vR 62 0), some (vI i), none, none, none] [vI kk] M1
  refine run_k 18 ?_
  show (b = b) ∧ ((0 ≤ (w32 (i + 1)) ∧ (w32 (i + 1)) < L) ∧ ((b = b) ∧ ((0 ≤ (w32 (i + 2)) ∧ (w32 (i + 2)) < L) ∧ ((b = b) ∧ ((0 ≤ (w32 (i + 3)) ∧ (w32 (i + 3)) < L) ∧ (bT _ (∃ σ : Mm, cl_X5_buy.2.2.1 σ [vR 38 0, vI (xs (w32 (i + 1))), vI (xs (w32 (i + 2))), vI (xs (w32 (i + 3)))] M1 ∧ (∀ ov μ', cl_X5_buy.2.2.2.1 σ [vR 38 0, vI (xs (w32 (i + 1))), vI (xs (w32 (i + 2))), vI (xs (w32 (i + 3)))] M1 ov μ' → LW b L xs ER ET 704 (n + 4) [some (vX b), some (vR 0 0), some (vR 38 0), some (vR 62 0), some (vI i), some (vI kk), none, none] (ov.toList ++ []) μ') ∧ ∀ kx, cl_X5_buy.2.2.2.2 σ [vR 38 0, vI (xs (w32 (i + 1))), vI (xs (w32 (i + 2))), vI (xs (w32 (i + 3)))] M1 kx → thr cd_L_law ET (LW b L xs ER ET) 701 (n + 4) [some (vX b), some (vR 0 0), some (vR 38 0), some (vR 62 0), some (vI i), some (vI kk), none, none] M1 kx)))))))
  rw [show w32 (i + 1) = i + 1 from w32_id (by simp only [in32]; omega)]
  rw [show w32 (i + 2) = i + 2 from w32_id (by simp only [in32]; omega)]
  rw [show w32 (i + 3) = i + 3 from w32_id (by simp only [in32]; omega)]
  refine ⟨rfl, ?_⟩
  refine ⟨by omega, ?_⟩
  refine ⟨rfl, ?_⟩
  refine ⟨by omega, ?_⟩
  refine ⟨rfl, ?_⟩
  refine ⟨by omega, ?_⟩
  refine bT_3 rfl rfl (Nat.ble_eq_true_of_le (show _ ≤ (20000 : Nat) from by omega)) ?_
  refine ⟨μ, ⟨rfl, show Wk M1 ∧ Xk M1 from ⟨hpre.1, hpre.2⟩⟩, fun ov μ' hq => ?_, fun k hk => hk.elim⟩
  obtain ⟨bv, hov2, hJ2, hth, hbv⟩ := hcal ov μ' hq
  rw [hov2]
  clear hov2 hq
  rename Mm => M2
  show LW b L xs ER ET 704 (n + 4) [some (vX b), some (vR 0 0), some (vR 38 0), some (vR 62 0), some (vI i), some (vI kk), none, none] [vL bv] M2
  refine run_k 3 ?_
  show bT _ (∃ σ : Mm, cl_X5_thrown.2.2.1 σ [vR 38 0] M2 ∧ (∀ ov μ', cl_X5_thrown.2.2.2.1 σ [vR 38 0] M2 ov μ' → LW b L xs ER ET 710 (n + 4) [some (vX b), some (vR 0 0), some (vR 38 0), some (vR 62 0), some (vI i), some (vI kk), some (vL bv), none] (ov.toList ++ []) μ') ∧ ∀ kx, cl_X5_thrown.2.2.2.2 σ [vR 38 0] M2 kx → thr cd_L_law ET (LW b L xs ER ET) 707 (n + 4) [some (vX b), some (vR 0 0), some (vR 38 0), some (vR 62 0), some (vI i), some (vI kk), some (vL bv), none] M2 kx)
  refine bT_3 rfl rfl (Nat.ble_eq_true_of_le (show _ ≤ (20000 : Nat) from by omega)) ?_
  refine ⟨μ, ⟨rfl, show True from True.intro⟩, fun ov μ' hq => ?_, fun k hk => hk.elim⟩
  obtain ⟨hov3, hmu⟩ : ov = some (vI (M2 38 0 0)) ∧ μ' = M2 := hq
  rw [hov3, hmu, hth]
  show LW b L xs ER ET 710 (n + 4) [some (vX b), some (vR 0 0), some (vR 38 0), some (vR 62 0), some (vI i), some (vI kk), some (vL bv), none] [vI kk] M2
  refine run_k 2 ?_
  show (kk = kk → LW b L xs ER ET 717 (n + 4) [some (vX b), some (vR 0 0), some (vR 38 0), some (vR 62 0), some (vI i), some (vI kk), some (vL bv), none] [] M2) ∧ (kk ≠ kk → LW b L xs ER ET 715 (n + 4) [some (vX b), some (vR 0 0), some (vR 38 0), some (vR 62 0), some (vI i), some (vI kk), some (vL bv), none] [] M2)
  refine ⟨fun c4 => ?_, fun c4 => ?_⟩
  · refine run_k 2 ?_
    show (kk ≠ 0 → LW b L xs ER ET 733 (n + 4) [some (vX b), some (vR 0 0), some (vR 38 0), some (vR 62 0), some (vI i), some (vI kk), some (vL bv), none] [] M2) ∧ (kk = 0 → LW b L xs ER ET 722 (n + 4) [some (vX b), some (vR 0 0), some (vR 38 0), some (vR 62 0), some (vI i), some (vI kk), some (vL bv), none] [] M2)
    refine ⟨fun c5 => ?_, fun c5 => ?_⟩
    · refine run_k 1 ?_
      show LW b L xs ER ET 1787 (n + 4) [some (vX b), some (vR 0 0), some (vR 38 0), some (vR 62 0), some (vI i), some (vI kk), some (vL bv), none] [] M2
      refine run_w (L' := [some (vX b), some (vR 0 0), some (vR 38 0), some (vR 62 0), some (vI i), none, none, none]) ⟨rfl, rfl, rfl, rfl, rfl, True.intro⟩ ?_
      exact hN _ _ hJ2 (by omega) (by omega)
    · refine run_k 6 ?_
      show (0 ≤ 0 ∧ 0 < 1) ∧ (((cmpL (M2 62 0 0) bv) = 0 → LW b L xs ER ET 733 (n + 4) [some (vX b), some (vR 0 0), some (vR 38 0), some (vR 62 0), some (vI i), some (vI kk), some (vL bv), none] [] M2) ∧ ((cmpL (M2 62 0 0) bv) ≠ 0 → LW b L xs ER ET 731 (n + 4) [some (vX b), some (vR 0 0), some (vR 38 0), some (vR 62 0), some (vI i), some (vI kk), some (vL bv), none] [] M2))
      refine ⟨by omega, ?_⟩
      refine ⟨fun c7 => ?_, fun c7 => ?_⟩
      · refine run_k 1 ?_
        show LW b L xs ER ET 1787 (n + 4) [some (vX b), some (vR 0 0), some (vR 38 0), some (vR 62 0), some (vI i), some (vI kk), some (vL bv), none] [] M2
        refine run_w (L' := [some (vX b), some (vR 0 0), some (vR 38 0), some (vR 62 0), some (vI i), none, none, none]) ⟨rfl, rfl, rfl, rfl, rfl, True.intro⟩ ?_
        exact hN _ _ hJ2 (by omega) (by omega)
      · refine run_k 2 ?_
        show bT _ ((0 = 0 ∨ 0 = 1) ∧ ER (some (vI 0)) M2)
        refine bT_i (Nat.ble_eq_true_of_le (show _ ≤ (20000 : Nat) from by omega)) ?_
        refine ⟨by omega, ?_⟩
        exfalso
        first | omega | exact absurd (hbv (by omega)) (cmpL_ne (by assumption)) | (have hz := hbv (by omega); have hz2 := cmpL_ne (by assumption); omega)
  · refine run_k 2 ?_
    show bT _ ((0 = 0 ∨ 0 = 1) ∧ ER (some (vI 0)) M2)
    refine bT_i (Nat.ble_eq_true_of_le (show _ ≤ (20000 : Nat) from by omega)) ?_
    refine ⟨by omega, ?_⟩
    exfalso
    first | omega | exact absurd (hbv (by omega)) (cmpL_ne (by assumption)) | (have hz := hbv (by omega); have hz2 := cmpL_ne (by assumption); omega)
set_option maxHeartbeats 4000000 in
set_option maxRecDepth 20000 in
theorem law_8 {b : Nat} {L : Int} {xs : Int → Int} {ER : Option AV → Mm → Prop} {ET : Nat → Mm → Prop} {B : Int} {μ : Mm} {i : Int} {n : Nat} (hJ : J B μ) (h0 : 0 ≤ B) (hB : B ≤ 8000000000000000000) (hi : 0 ≤ i ∧ i + 5 ≤ L) (hL : L ≤ 2560) (hn : n ≤ 19000) (hN : ∀ (μ' : Mm) (n' : Nat), J (B + 10000000000000000) μ' → n ≤ n' → n' ≤ n + 5 → LW b L xs ER ET 1787 n' [some (vX b), some (vR 0 0), some (vR 38 0), some (vR 62 0), some (vI i), none, none, none] [] μ') : LW b L xs ER ET 736 n [some (vX b), some (vR 0 0), some (vR 38 0), some (vR 62 0), some (vI i), none, none, none] [] μ := by
  refine run_k 18 ?_
  show (b = b) ∧ ((0 ≤ (w32 (i + 1)) ∧ (w32 (i + 1)) < L) ∧ ((b = b) ∧ ((0 ≤ (w32 (i + 2)) ∧ (w32 (i + 2)) < L) ∧ ((b = b) ∧ ((0 ≤ (w32 (i + 3)) ∧ (w32 (i + 3)) < L) ∧ (bT _ (∃ σ : Mm, cl_L_sell.2.2.1 σ [vR 0 0, vI (xs (w32 (i + 1))), vI (xs (w32 (i + 2))), vI (xs (w32 (i + 3))), vR 62 0] μ ∧ (∀ ov μ', cl_L_sell.2.2.2.1 σ [vR 0 0, vI (xs (w32 (i + 1))), vI (xs (w32 (i + 2))), vI (xs (w32 (i + 3))), vR 62 0] μ ov μ' → LW b L xs ER ET 759 (n + 4) [some (vX b), some (vR 0 0), some (vR 38 0), some (vR 62 0), some (vI i), none, none, none] (ov.toList ++ []) μ') ∧ ∀ kx, cl_L_sell.2.2.2.2 σ [vR 0 0, vI (xs (w32 (i + 1))), vI (xs (w32 (i + 2))), vI (xs (w32 (i + 3))), vR 62 0] μ kx → thr cd_L_law ET (LW b L xs ER ET) 756 (n + 4) [some (vX b), some (vR 0 0), some (vR 38 0), some (vR 62 0), some (vI i), none, none, none] μ kx)))))))
  rw [show w32 (i + 1) = i + 1 from w32_id (by simp only [in32]; omega)]
  rw [show w32 (i + 2) = i + 2 from w32_id (by simp only [in32]; omega)]
  rw [show w32 (i + 3) = i + 3 from w32_id (by simp only [in32]; omega)]
  refine ⟨rfl, ?_⟩
  refine ⟨by omega, ?_⟩
  refine ⟨rfl, ?_⟩
  refine ⟨by omega, ?_⟩
  refine ⟨rfl, ?_⟩
  refine ⟨by omega, ?_⟩
  refine bT_3 rfl rfl (Nat.ble_eq_true_of_le (show _ ≤ (20000 : Nat) from by omega)) ?_
  refine ⟨μ, ⟨rfl, show CV μ from hJ.1⟩, fun ov μ' hq => ?_, fun k hk => hk.elim⟩
  have hq : ((((0 ≤ (xs (i + 1)) ∧ (xs (i + 1)) ≤ 5) ∧ (0 ≤ (xs (i + 2)) ∧ (xs (i + 2)) ≤ 3)) ∧ (1 ≤ (xs (i + 3)) ∧ (xs (i + 3)) ≤ 500) ∧ (μ 5 0 (xs (i + 1)) = 0 ∧ (xs (i + 3)) ≤ μ 7 (xs (i + 1)) (xs (i + 2)))) → ov = some (vI 0) ∧ μ' 62 0 0 = (sellsF (al μ) (xs (i + 1)) (xs (i + 2)) (xs (i + 3)) 41 0 (xs (i + 1))) ∧ al μ' = sellsF (al μ) (xs (i + 1)) (xs (i + 2)) (xs (i + 3)) ∧ PB2 μ μ') ∧ ((¬ ((0 ≤ (xs (i + 1)) ∧ (xs (i + 1)) ≤ 5) ∧ (0 ≤ (xs (i + 2)) ∧ (xs (i + 2)) ≤ 3))) → ov = some (vI 1) ∧ μ' = μ) ∧ ((((0 ≤ (xs (i + 1)) ∧ (xs (i + 1)) ≤ 5) ∧ (0 ≤ (xs (i + 2)) ∧ (xs (i + 2)) ≤ 3)) ∧ ¬ (1 ≤ (xs (i + 3)) ∧ (xs (i + 3)) ≤ 500)) → ov = some (vI 2) ∧ μ' = μ) ∧ ((((0 ≤ (xs (i + 1)) ∧ (xs (i + 1)) ≤ 5) ∧ (0 ≤ (xs (i + 2)) ∧ (xs (i + 2)) ≤ 3)) ∧ (1 ≤ (xs (i + 3)) ∧ (xs (i + 3)) ≤ 500) ∧ ¬ (μ 5 0 (xs (i + 1)) = 0 ∧ (xs (i + 3)) ≤ μ 7 (xs (i + 1)) (xs (i + 2)))) → ov = some (vI 3) ∧ μ' = μ) := hq
  obtain ⟨kk, hov, hP1, hpre, hcal⟩ := cal_sell hJ h0 hB hq
  rw [hov]
  clear hov hq
  rename Mm => M1
  show LW b L xs ER ET 759 (n + 4) [some (vX b), some (vR 0 0), some (vR 38 0), some (vR 62 0), some (vI i), none, none, none] [vI kk] M1
  refine run_k 18 ?_
  show (b = b) ∧ ((0 ≤ (w32 (i + 1)) ∧ (w32 (i + 1)) < L) ∧ ((b = b) ∧ ((0 ≤ (w32 (i + 2)) ∧ (w32 (i + 2)) < L) ∧ ((b = b) ∧ ((0 ≤ (w32 (i + 3)) ∧ (w32 (i + 3)) < L) ∧ (bT _ (∃ σ : Mm, cl_X5_sell.2.2.1 σ [vR 38 0, vI (xs (w32 (i + 1))), vI (xs (w32 (i + 2))), vI (xs (w32 (i + 3)))] M1 ∧ (∀ ov μ', cl_X5_sell.2.2.2.1 σ [vR 38 0, vI (xs (w32 (i + 1))), vI (xs (w32 (i + 2))), vI (xs (w32 (i + 3)))] M1 ov μ' → LW b L xs ER ET 783 (n + 4) [some (vX b), some (vR 0 0), some (vR 38 0), some (vR 62 0), some (vI i), some (vI kk), none, none] (ov.toList ++ []) μ') ∧ ∀ kx, cl_X5_sell.2.2.2.2 σ [vR 38 0, vI (xs (w32 (i + 1))), vI (xs (w32 (i + 2))), vI (xs (w32 (i + 3)))] M1 kx → thr cd_L_law ET (LW b L xs ER ET) 780 (n + 4) [some (vX b), some (vR 0 0), some (vR 38 0), some (vR 62 0), some (vI i), some (vI kk), none, none] M1 kx)))))))
  rw [show w32 (i + 1) = i + 1 from w32_id (by simp only [in32]; omega)]
  rw [show w32 (i + 2) = i + 2 from w32_id (by simp only [in32]; omega)]
  rw [show w32 (i + 3) = i + 3 from w32_id (by simp only [in32]; omega)]
  refine ⟨rfl, ?_⟩
  refine ⟨by omega, ?_⟩
  refine ⟨rfl, ?_⟩
  refine ⟨by omega, ?_⟩
  refine ⟨rfl, ?_⟩
  refine ⟨by omega, ?_⟩
  refine bT_3 rfl rfl (Nat.ble_eq_true_of_le (show _ ≤ (20000 : Nat) from by omega)) ?_
  refine ⟨μ, ⟨rfl, show Wk M1 ∧ Xk M1 from ⟨hpre.1, hpre.2⟩⟩, fun ov μ' hq => ?_, fun k hk => hk.elim⟩
  obtain ⟨bv, hov2, hJ2, hth, hbv⟩ := hcal ov μ' hq
  rw [hov2]
  clear hov2 hq
  rename Mm => M2
  show LW b L xs ER ET 783 (n + 4) [some (vX b), some (vR 0 0), some (vR 38 0), some (vR 62 0), some (vI i), some (vI kk), none, none] [vL bv] M2
  refine run_k 3 ?_
  show bT _ (∃ σ : Mm, cl_X5_thrown.2.2.1 σ [vR 38 0] M2 ∧ (∀ ov μ', cl_X5_thrown.2.2.2.1 σ [vR 38 0] M2 ov μ' → LW b L xs ER ET 789 (n + 4) [some (vX b), some (vR 0 0), some (vR 38 0), some (vR 62 0), some (vI i), some (vI kk), some (vL bv), none] (ov.toList ++ []) μ') ∧ ∀ kx, cl_X5_thrown.2.2.2.2 σ [vR 38 0] M2 kx → thr cd_L_law ET (LW b L xs ER ET) 786 (n + 4) [some (vX b), some (vR 0 0), some (vR 38 0), some (vR 62 0), some (vI i), some (vI kk), some (vL bv), none] M2 kx)
  refine bT_3 rfl rfl (Nat.ble_eq_true_of_le (show _ ≤ (20000 : Nat) from by omega)) ?_
  refine ⟨μ, ⟨rfl, show True from True.intro⟩, fun ov μ' hq => ?_, fun k hk => hk.elim⟩
  obtain ⟨hov3, hmu⟩ : ov = some (vI (M2 38 0 0)) ∧ μ' = M2 := hq
  rw [hov3, hmu, hth]
  show LW b L xs ER ET 789 (n + 4) [some (vX b), some (vR 0 0), some (vR 38 0), some (vR 62 0), some (vI i), some (vI kk), some (vL bv), none] [vI kk] M2
  refine run_k 2 ?_
  show (kk = kk → LW b L xs ER ET 796 (n + 4) [some (vX b), some (vR 0 0), some (vR 38 0), some (vR 62 0), some (vI i), some (vI kk), some (vL bv), none] [] M2) ∧ (kk ≠ kk → LW b L xs ER ET 794 (n + 4) [some (vX b), some (vR 0 0), some (vR 38 0), some (vR 62 0), some (vI i), some (vI kk), some (vL bv), none] [] M2)
  refine ⟨fun c4 => ?_, fun c4 => ?_⟩
  · refine run_k 2 ?_
    show (kk ≠ 0 → LW b L xs ER ET 812 (n + 4) [some (vX b), some (vR 0 0), some (vR 38 0), some (vR 62 0), some (vI i), some (vI kk), some (vL bv), none] [] M2) ∧ (kk = 0 → LW b L xs ER ET 801 (n + 4) [some (vX b), some (vR 0 0), some (vR 38 0), some (vR 62 0), some (vI i), some (vI kk), some (vL bv), none] [] M2)
    refine ⟨fun c5 => ?_, fun c5 => ?_⟩
    · refine run_k 1 ?_
      show LW b L xs ER ET 1787 (n + 4) [some (vX b), some (vR 0 0), some (vR 38 0), some (vR 62 0), some (vI i), some (vI kk), some (vL bv), none] [] M2
      refine run_w (L' := [some (vX b), some (vR 0 0), some (vR 38 0), some (vR 62 0), some (vI i), none, none, none]) ⟨rfl, rfl, rfl, rfl, rfl, True.intro⟩ ?_
      exact hN _ _ hJ2 (by omega) (by omega)
    · refine run_k 6 ?_
      show (0 ≤ 0 ∧ 0 < 1) ∧ (((cmpL (M2 62 0 0) bv) = 0 → LW b L xs ER ET 812 (n + 4) [some (vX b), some (vR 0 0), some (vR 38 0), some (vR 62 0), some (vI i), some (vI kk), some (vL bv), none] [] M2) ∧ ((cmpL (M2 62 0 0) bv) ≠ 0 → LW b L xs ER ET 810 (n + 4) [some (vX b), some (vR 0 0), some (vR 38 0), some (vR 62 0), some (vI i), some (vI kk), some (vL bv), none] [] M2))
      refine ⟨by omega, ?_⟩
      refine ⟨fun c7 => ?_, fun c7 => ?_⟩
      · refine run_k 1 ?_
        show LW b L xs ER ET 1787 (n + 4) [some (vX b), some (vR 0 0), some (vR 38 0), some (vR 62 0), some (vI i), some (vI kk), some (vL bv), none] [] M2
        refine run_w (L' := [some (vX b), some (vR 0 0), some (vR 38 0), some (vR 62 0), some (vI i), none, none, none]) ⟨rfl, rfl, rfl, rfl, rfl, True.intro⟩ ?_
        exact hN _ _ hJ2 (by omega) (by omega)
      · refine run_k 2 ?_
        show bT _ ((0 = 0 ∨ 0 = 1) ∧ ER (some (vI 0)) M2)
        refine bT_i (Nat.ble_eq_true_of_le (show _ ≤ (20000 : Nat) from by omega)) ?_
        refine ⟨by omega, ?_⟩
        exfalso
        first | omega | exact absurd (hbv (by omega)) (cmpL_ne (by assumption)) | (have hz := hbv (by omega); have hz2 := cmpL_ne (by assumption); omega)
  · refine run_k 2 ?_
    show bT _ ((0 = 0 ∨ 0 = 1) ∧ ER (some (vI 0)) M2)
    refine bT_i (Nat.ble_eq_true_of_le (show _ ≤ (20000 : Nat) from by omega)) ?_
    refine ⟨by omega, ?_⟩
    exfalso
    first | omega | exact absurd (hbv (by omega)) (cmpL_ne (by assumption)) | (have hz := hbv (by omega); have hz2 := cmpL_ne (by assumption); omega)
set_option maxHeartbeats 4000000 in
set_option maxRecDepth 20000 in
theorem law_9 {b : Nat} {L : Int} {xs : Int → Int} {ER : Option AV → Mm → Prop} {ET : Nat → Mm → Prop} {B : Int} {μ : Mm} {i : Int} {n : Nat} (hJ : J B μ) (h0 : 0 ≤ B) (hB : B ≤ 8000000000000000000) (hi : 0 ≤ i ∧ i + 5 ≤ L) (hL : L ≤ 2560) (hn : n ≤ 19000) (hN : ∀ (μ' : Mm) (n' : Nat), J (B + 10000000000000000) μ' → n ≤ n' → n' ≤ n + 5 → LW b L xs ER ET 1787 n' [some (vX b), some (vR 0 0), some (vR 38 0), some (vR 62 0), some (vI i), none, none, none] [] μ') : LW b L xs ER ET 815 n [some (vX b), some (vR 0 0), some (vR 38 0), some (vR 62 0), some (vI i), none, none, none] [] μ := by
  refine run_k 18 ?_
  show (b = b) ∧ ((0 ≤ (w32 (i + 1)) ∧ (w32 (i + 1)) < L) ∧ ((b = b) ∧ ((0 ≤ (w32 (i + 2)) ∧ (w32 (i + 2)) < L) ∧ ((b = b) ∧ ((0 ≤ (w32 (i + 3)) ∧ (w32 (i + 3)) < L) ∧ (bT _ (∃ σ : Mm, cl_L_locate.2.2.1 σ [vR 0 0, vI (xs (w32 (i + 1))), vI (xs (w32 (i + 2))), vI (xs (w32 (i + 3))), vR 62 0] μ ∧ (∀ ov μ', cl_L_locate.2.2.2.1 σ [vR 0 0, vI (xs (w32 (i + 1))), vI (xs (w32 (i + 2))), vI (xs (w32 (i + 3))), vR 62 0] μ ov μ' → LW b L xs ER ET 838 (n + 5) [some (vX b), some (vR 0 0), some (vR 38 0), some (vR 62 0), some (vI i), none, none, none] (ov.toList ++ []) μ') ∧ ∀ kx, cl_L_locate.2.2.2.2 σ [vR 0 0, vI (xs (w32 (i + 1))), vI (xs (w32 (i + 2))), vI (xs (w32 (i + 3))), vR 62 0] μ kx → thr cd_L_law ET (LW b L xs ER ET) 835 (n + 5) [some (vX b), some (vR 0 0), some (vR 38 0), some (vR 62 0), some (vI i), none, none, none] μ kx)))))))
  rw [show w32 (i + 1) = i + 1 from w32_id (by simp only [in32]; omega)]
  rw [show w32 (i + 2) = i + 2 from w32_id (by simp only [in32]; omega)]
  rw [show w32 (i + 3) = i + 3 from w32_id (by simp only [in32]; omega)]
  refine ⟨rfl, ?_⟩
  refine ⟨by omega, ?_⟩
  refine ⟨rfl, ?_⟩
  refine ⟨by omega, ?_⟩
  refine ⟨rfl, ?_⟩
  refine ⟨by omega, ?_⟩
  refine bT_3 rfl rfl (Nat.ble_eq_true_of_le (show _ ≤ (20000 : Nat) from by omega)) ?_
  refine ⟨μ, ⟨rfl, show CV μ from hJ.1⟩, fun ov μ' hq => ?_, fun k hk => hk.elim⟩
  have hq : ((((0 ≤ (xs (i + 1)) ∧ (xs (i + 1)) ≤ 5) ∧ (0 ≤ (xs (i + 2)) ∧ (xs (i + 2)) ≤ 3)) ∧ (1 ≤ (xs (i + 3)) ∧ (xs (i + 3)) ≤ 500) ∧ ((μ 5 0 (xs (i + 1)) = 0 ∧ μ 21 0 5 < 60) ∧ (xs (i + 3)) ≤ canF (al μ) (xs (i + 1)) (xs (i + 2)))) → ov = some (vI 0) ∧ μ' 62 0 0 = (μ 21 0 5) ∧ al μ' = st (st (st (st (st (al μ) 53 0 (μ 21 0 5) (xs (i + 1))) 54 0 (μ 21 0 5) (xs (i + 2))) 55 0 (μ 21 0 5) (xs (i + 3))) 56 0 (μ 21 0 5) (μ 0 0 14)) 38 0 17 (μ 21 0 5 + 1) ∧ PB2 μ μ') ∧ ((¬ ((0 ≤ (xs (i + 1)) ∧ (xs (i + 1)) ≤ 5) ∧ (0 ≤ (xs (i + 2)) ∧ (xs (i + 2)) ≤ 3))) → ov = some (vI 1) ∧ μ' = μ) ∧ ((((0 ≤ (xs (i + 1)) ∧ (xs (i + 1)) ≤ 5) ∧ (0 ≤ (xs (i + 2)) ∧ (xs (i + 2)) ≤ 3)) ∧ ¬ (1 ≤ (xs (i + 3)) ∧ (xs (i + 3)) ≤ 500)) → ov = some (vI 2) ∧ μ' = μ) ∧ ((((0 ≤ (xs (i + 1)) ∧ (xs (i + 1)) ≤ 5) ∧ (0 ≤ (xs (i + 2)) ∧ (xs (i + 2)) ≤ 3)) ∧ (1 ≤ (xs (i + 3)) ∧ (xs (i + 3)) ≤ 500) ∧ ¬ ((μ 5 0 (xs (i + 1)) = 0 ∧ μ 21 0 5 < 60) ∧ (xs (i + 3)) ≤ canF (al μ) (xs (i + 1)) (xs (i + 2)))) → ov = some (vI 3) ∧ μ' = μ) := hq
  obtain ⟨kk, hov, hP1, hpre, hcal⟩ := cal_locate hJ h0 hB hq
  rw [hov]
  clear hov hq
  rename Mm => M1
  show LW b L xs ER ET 838 (n + 5) [some (vX b), some (vR 0 0), some (vR 38 0), some (vR 62 0), some (vI i), none, none, none] [vI kk] M1
  refine run_k 18 ?_
  show (b = b) ∧ ((0 ≤ (w32 (i + 1)) ∧ (w32 (i + 1)) < L) ∧ ((b = b) ∧ ((0 ≤ (w32 (i + 2)) ∧ (w32 (i + 2)) < L) ∧ ((b = b) ∧ ((0 ≤ (w32 (i + 3)) ∧ (w32 (i + 3)) < L) ∧ (bT _ (∃ σ : Mm, cl_X5_locate.2.2.1 σ [vR 38 0, vI (xs (w32 (i + 1))), vI (xs (w32 (i + 2))), vI (xs (w32 (i + 3)))] M1 ∧ (∀ ov μ', cl_X5_locate.2.2.2.1 σ [vR 38 0, vI (xs (w32 (i + 1))), vI (xs (w32 (i + 2))), vI (xs (w32 (i + 3)))] M1 ov μ' → LW b L xs ER ET 862 (n + 5) [some (vX b), some (vR 0 0), some (vR 38 0), some (vR 62 0), some (vI i), some (vI kk), none, none] (ov.toList ++ []) μ') ∧ ∀ kx, cl_X5_locate.2.2.2.2 σ [vR 38 0, vI (xs (w32 (i + 1))), vI (xs (w32 (i + 2))), vI (xs (w32 (i + 3)))] M1 kx → thr cd_L_law ET (LW b L xs ER ET) 859 (n + 5) [some (vX b), some (vR 0 0), some (vR 38 0), some (vR 62 0), some (vI i), some (vI kk), none, none] M1 kx)))))))
  rw [show w32 (i + 1) = i + 1 from w32_id (by simp only [in32]; omega)]
  rw [show w32 (i + 2) = i + 2 from w32_id (by simp only [in32]; omega)]
  rw [show w32 (i + 3) = i + 3 from w32_id (by simp only [in32]; omega)]
  refine ⟨rfl, ?_⟩
  refine ⟨by omega, ?_⟩
  refine ⟨rfl, ?_⟩
  refine ⟨by omega, ?_⟩
  refine ⟨rfl, ?_⟩
  refine ⟨by omega, ?_⟩
  refine bT_3 rfl rfl (Nat.ble_eq_true_of_le (show _ ≤ (20000 : Nat) from by omega)) ?_
  refine ⟨μ, ⟨rfl, show Wk M1 ∧ Xk M1 from ⟨hpre.1, hpre.2⟩⟩, fun ov μ' hq => ?_, fun k hk => hk.elim⟩
  obtain ⟨bv, hov2, hJ2, hth, hbv⟩ := hcal ov μ' hq
  rw [hov2]
  clear hov2 hq
  rename Mm => M2
  show LW b L xs ER ET 862 (n + 5) [some (vX b), some (vR 0 0), some (vR 38 0), some (vR 62 0), some (vI i), some (vI kk), none, none] [vI bv] M2
  refine run_k 3 ?_
  show bT _ (∃ σ : Mm, cl_X5_thrown.2.2.1 σ [vR 38 0] M2 ∧ (∀ ov μ', cl_X5_thrown.2.2.2.1 σ [vR 38 0] M2 ov μ' → LW b L xs ER ET 868 (n + 5) [some (vX b), some (vR 0 0), some (vR 38 0), some (vR 62 0), some (vI i), some (vI kk), some (vI bv), none] (ov.toList ++ []) μ') ∧ ∀ kx, cl_X5_thrown.2.2.2.2 σ [vR 38 0] M2 kx → thr cd_L_law ET (LW b L xs ER ET) 865 (n + 5) [some (vX b), some (vR 0 0), some (vR 38 0), some (vR 62 0), some (vI i), some (vI kk), some (vI bv), none] M2 kx)
  refine bT_3 rfl rfl (Nat.ble_eq_true_of_le (show _ ≤ (20000 : Nat) from by omega)) ?_
  refine ⟨μ, ⟨rfl, show True from True.intro⟩, fun ov μ' hq => ?_, fun k hk => hk.elim⟩
  obtain ⟨hov3, hmu⟩ : ov = some (vI (M2 38 0 0)) ∧ μ' = M2 := hq
  rw [hov3, hmu, hth]
  show LW b L xs ER ET 868 (n + 5) [some (vX b), some (vR 0 0), some (vR 38 0), some (vR 62 0), some (vI i), some (vI kk), some (vI bv), none] [vI kk] M2
  refine run_k 2 ?_
  show (kk = kk → LW b L xs ER ET 875 (n + 5) [some (vX b), some (vR 0 0), some (vR 38 0), some (vR 62 0), some (vI i), some (vI kk), some (vI bv), none] [] M2) ∧ (kk ≠ kk → LW b L xs ER ET 873 (n + 5) [some (vX b), some (vR 0 0), some (vR 38 0), some (vR 62 0), some (vI i), some (vI kk), some (vI bv), none] [] M2)
  refine ⟨fun c4 => ?_, fun c4 => ?_⟩
  · refine run_k 2 ?_
    show (kk ≠ 0 → LW b L xs ER ET 892 (n + 5) [some (vX b), some (vR 0 0), some (vR 38 0), some (vR 62 0), some (vI i), some (vI kk), some (vI bv), none] [] M2) ∧ (kk = 0 → LW b L xs ER ET 880 (n + 5) [some (vX b), some (vR 0 0), some (vR 38 0), some (vR 62 0), some (vI i), some (vI kk), some (vI bv), none] [] M2)
    refine ⟨fun c5 => ?_, fun c5 => ?_⟩
    · refine run_k 1 ?_
      show LW b L xs ER ET 1787 (n + 5) [some (vX b), some (vR 0 0), some (vR 38 0), some (vR 62 0), some (vI i), some (vI kk), some (vI bv), none] [] M2
      refine run_w (L' := [some (vX b), some (vR 0 0), some (vR 38 0), some (vR 62 0), some (vI i), none, none, none]) ⟨rfl, rfl, rfl, rfl, rfl, True.intro⟩ ?_
      exact hN _ _ hJ2 (by omega) (by omega)
    · refine run_k 7 ?_
      show (0 ≤ 0 ∧ 0 < 1) ∧ (((cmpL (M2 62 0 0) bv) = 0 → LW b L xs ER ET 892 (n + 5) [some (vX b), some (vR 0 0), some (vR 38 0), some (vR 62 0), some (vI i), some (vI kk), some (vI bv), none] [] M2) ∧ ((cmpL (M2 62 0 0) bv) ≠ 0 → LW b L xs ER ET 890 (n + 5) [some (vX b), some (vR 0 0), some (vR 38 0), some (vR 62 0), some (vI i), some (vI kk), some (vI bv), none] [] M2))
      refine ⟨by omega, ?_⟩
      refine ⟨fun c7 => ?_, fun c7 => ?_⟩
      · refine run_k 1 ?_
        show LW b L xs ER ET 1787 (n + 5) [some (vX b), some (vR 0 0), some (vR 38 0), some (vR 62 0), some (vI i), some (vI kk), some (vI bv), none] [] M2
        refine run_w (L' := [some (vX b), some (vR 0 0), some (vR 38 0), some (vR 62 0), some (vI i), none, none, none]) ⟨rfl, rfl, rfl, rfl, rfl, True.intro⟩ ?_
        exact hN _ _ hJ2 (by omega) (by omega)
      · refine run_k 2 ?_
        show bT _ ((0 = 0 ∨ 0 = 1) ∧ ER (some (vI 0)) M2)
        refine bT_i (Nat.ble_eq_true_of_le (show _ ≤ (20000 : Nat) from by omega)) ?_
        refine ⟨by omega, ?_⟩
        exfalso
        first | omega | exact absurd (hbv (by omega)) (cmpL_ne (by assumption)) | (have hz := hbv (by omega); have hz2 := cmpL_ne (by assumption); omega)
  · refine run_k 2 ?_
    show bT _ ((0 = 0 ∨ 0 = 1) ∧ ER (some (vI 0)) M2)
    refine bT_i (Nat.ble_eq_true_of_le (show _ ≤ (20000 : Nat) from by omega)) ?_
    refine ⟨by omega, ?_⟩
    exfalso
    first | omega | exact absurd (hbv (by omega)) (cmpL_ne (by assumption)) | (have hz := hbv (by omega); have hz2 := cmpL_ne (by assumption); omega)
set_option maxHeartbeats 4000000 in
set_option maxRecDepth 20000 in
theorem law_10 {b : Nat} {L : Int} {xs : Int → Int} {ER : Option AV → Mm → Prop} {ET : Nat → Mm → Prop} {B : Int} {μ : Mm} {i : Int} {n : Nat} (hJ : J B μ) (h0 : 0 ≤ B) (hB : B ≤ 8000000000000000000) (hi : 0 ≤ i ∧ i + 5 ≤ L) (hL : L ≤ 2560) (hn : n ≤ 19000) (hN : ∀ (μ' : Mm) (n' : Nat), J (B + 10000000000000000) μ' → n ≤ n' → n' ≤ n + 5 → LW b L xs ER ET 1787 n' [some (vX b), some (vR 0 0), some (vR 38 0), some (vR 62 0), some (vI i), none, none, none] [] μ') : LW b L xs ER ET 895 n [some (vX b), some (vR 0 0), some (vR 38 0), some (vR 62 0), some (vI i), none, none, none] [] μ := by
  refine run_k 13 ?_
  show (b = b) ∧ ((0 ≤ (w32 (i + 1)) ∧ (w32 (i + 1)) < L) ∧ ((b = b) ∧ ((0 ≤ (w32 (i + 2)) ∧ (w32 (i + 2)) < L) ∧ (bT _ (∃ σ : Mm, cl_L_sellShort.2.2.1 σ [vR 0 0, vI (xs (w32 (i + 1))), vI (xs (w32 (i + 2))), vR 62 0] μ ∧ (∀ ov μ', cl_L_sellShort.2.2.2.1 σ [vR 0 0, vI (xs (w32 (i + 1))), vI (xs (w32 (i + 2))), vR 62 0] μ ov μ' → LW b L xs ER ET 912 (n + 5) [some (vX b), some (vR 0 0), some (vR 38 0), some (vR 62 0), some (vI i), none, none, none] (ov.toList ++ []) μ') ∧ ∀ kx, cl_L_sellShort.2.2.2.2 σ [vR 0 0, vI (xs (w32 (i + 1))), vI (xs (w32 (i + 2))), vR 62 0] μ kx → thr cd_L_law ET (LW b L xs ER ET) 909 (n + 5) [some (vX b), some (vR 0 0), some (vR 38 0), some (vR 62 0), some (vI i), none, none, none] μ kx)))))
  rw [show w32 (i + 1) = i + 1 from w32_id (by simp only [in32]; omega)]
  rw [show w32 (i + 2) = i + 2 from w32_id (by simp only [in32]; omega)]
  refine ⟨rfl, ?_⟩
  refine ⟨by omega, ?_⟩
  refine ⟨rfl, ?_⟩
  refine ⟨by omega, ?_⟩
  refine bT_3 rfl rfl (Nat.ble_eq_true_of_le (show _ ≤ (20000 : Nat) from by omega)) ?_
  refine ⟨μ, ⟨rfl, show CV μ from hJ.1⟩, fun ov μ' hq => ?_, fun k hk => hk.elim⟩
  have hq : (((0 ≤ (xs (i + 1)) ∧ (xs (i + 1)) < μ 21 0 5) ∧ (1 ≤ (xs (i + 2)) ∧ (xs (i + 2)) ≤ μ 24 0 (xs (i + 1))) ∧ ((holdsF (al μ) (xs (i + 1)) ≠ 0 ∧ μ 5 0 (μ 22 0 (xs (i + 1))) = 0) ∧ (μ 7 (μ 22 0 (xs (i + 1))) (μ 23 0 (xs (i + 1))) ≤ 0 ∧ -500 ≤ μ 7 (μ 22 0 (xs (i + 1))) (μ 23 0 (xs (i + 1))) - (xs (i + 2))) ∧ (xs (i + 2)) ≤ canF (al μ) (μ 22 0 (xs (i + 1))) (μ 23 0 (xs (i + 1))))) → ov = some (vI 0) ∧ μ' 62 0 0 = (shortF (al μ) (xs (i + 1)) (xs (i + 2)) 41 0 (μ 22 0 (xs (i + 1)))) ∧ al μ' = shortF (al μ) (xs (i + 1)) (xs (i + 2)) ∧ PB2 μ μ') ∧ ((¬ (0 ≤ (xs (i + 1)) ∧ (xs (i + 1)) < μ 21 0 5)) → ov = some (vI 1) ∧ μ' = μ) ∧ (((0 ≤ (xs (i + 1)) ∧ (xs (i + 1)) < μ 21 0 5) ∧ ¬ (1 ≤ (xs (i + 2)) ∧ (xs (i + 2)) ≤ μ 24 0 (xs (i + 1)))) → ov = some (vI 2) ∧ μ' = μ) ∧ (((0 ≤ (xs (i + 1)) ∧ (xs (i + 1)) < μ 21 0 5) ∧ (1 ≤ (xs (i + 2)) ∧ (xs (i + 2)) ≤ μ 24 0 (xs (i + 1))) ∧ ¬ ((holdsF (al μ) (xs (i + 1)) ≠ 0 ∧ μ 5 0 (μ 22 0 (xs (i + 1))) = 0) ∧ (μ 7 (μ 22 0 (xs (i + 1))) (μ 23 0 (xs (i + 1))) ≤ 0 ∧ -500 ≤ μ 7 (μ 22 0 (xs (i + 1))) (μ 23 0 (xs (i + 1))) - (xs (i + 2))) ∧ (xs (i + 2)) ≤ canF (al μ) (μ 22 0 (xs (i + 1))) (μ 23 0 (xs (i + 1))))) → ov = some (vI 3) ∧ μ' = μ) := hq
  obtain ⟨kk, hov, hP1, hpre, hcal⟩ := cal_sellShort hJ h0 hB hq
  rw [hov]
  clear hov hq
  rename Mm => M1
  show LW b L xs ER ET 912 (n + 5) [some (vX b), some (vR 0 0), some (vR 38 0), some (vR 62 0), some (vI i), none, none, none] [vI kk] M1
  refine run_k 13 ?_
  show (b = b) ∧ ((0 ≤ (w32 (i + 1)) ∧ (w32 (i + 1)) < L) ∧ ((b = b) ∧ ((0 ≤ (w32 (i + 2)) ∧ (w32 (i + 2)) < L) ∧ (bT _ (∃ σ : Mm, cl_X5_sellShort.2.2.1 σ [vR 38 0, vI (xs (w32 (i + 1))), vI (xs (w32 (i + 2)))] M1 ∧ (∀ ov μ', cl_X5_sellShort.2.2.2.1 σ [vR 38 0, vI (xs (w32 (i + 1))), vI (xs (w32 (i + 2)))] M1 ov μ' → LW b L xs ER ET 930 (n + 5) [some (vX b), some (vR 0 0), some (vR 38 0), some (vR 62 0), some (vI i), some (vI kk), none, none] (ov.toList ++ []) μ') ∧ ∀ kx, cl_X5_sellShort.2.2.2.2 σ [vR 38 0, vI (xs (w32 (i + 1))), vI (xs (w32 (i + 2)))] M1 kx → thr cd_L_law ET (LW b L xs ER ET) 927 (n + 5) [some (vX b), some (vR 0 0), some (vR 38 0), some (vR 62 0), some (vI i), some (vI kk), none, none] M1 kx)))))
  rw [show w32 (i + 1) = i + 1 from w32_id (by simp only [in32]; omega)]
  rw [show w32 (i + 2) = i + 2 from w32_id (by simp only [in32]; omega)]
  refine ⟨rfl, ?_⟩
  refine ⟨by omega, ?_⟩
  refine ⟨rfl, ?_⟩
  refine ⟨by omega, ?_⟩
  refine bT_3 rfl rfl (Nat.ble_eq_true_of_le (show _ ≤ (20000 : Nat) from by omega)) ?_
  refine ⟨μ, ⟨rfl, show Wk M1 ∧ Xk M1 from ⟨hpre.1, hpre.2⟩⟩, fun ov μ' hq => ?_, fun k hk => hk.elim⟩
  obtain ⟨bv, hov2, hJ2, hth, hbv⟩ := hcal ov μ' hq
  rw [hov2]
  clear hov2 hq
  rename Mm => M2
  show LW b L xs ER ET 930 (n + 5) [some (vX b), some (vR 0 0), some (vR 38 0), some (vR 62 0), some (vI i), some (vI kk), none, none] [vL bv] M2
  refine run_k 3 ?_
  show bT _ (∃ σ : Mm, cl_X5_thrown.2.2.1 σ [vR 38 0] M2 ∧ (∀ ov μ', cl_X5_thrown.2.2.2.1 σ [vR 38 0] M2 ov μ' → LW b L xs ER ET 936 (n + 5) [some (vX b), some (vR 0 0), some (vR 38 0), some (vR 62 0), some (vI i), some (vI kk), some (vL bv), none] (ov.toList ++ []) μ') ∧ ∀ kx, cl_X5_thrown.2.2.2.2 σ [vR 38 0] M2 kx → thr cd_L_law ET (LW b L xs ER ET) 933 (n + 5) [some (vX b), some (vR 0 0), some (vR 38 0), some (vR 62 0), some (vI i), some (vI kk), some (vL bv), none] M2 kx)
  refine bT_3 rfl rfl (Nat.ble_eq_true_of_le (show _ ≤ (20000 : Nat) from by omega)) ?_
  refine ⟨μ, ⟨rfl, show True from True.intro⟩, fun ov μ' hq => ?_, fun k hk => hk.elim⟩
  obtain ⟨hov3, hmu⟩ : ov = some (vI (M2 38 0 0)) ∧ μ' = M2 := hq
  rw [hov3, hmu, hth]
  show LW b L xs ER ET 936 (n + 5) [some (vX b), some (vR 0 0), some (vR 38 0), some (vR 62 0), some (vI i), some (vI kk), some (vL bv), none] [vI kk] M2
  refine run_k 2 ?_
  show (kk = kk → LW b L xs ER ET 943 (n + 5) [some (vX b), some (vR 0 0), some (vR 38 0), some (vR 62 0), some (vI i), some (vI kk), some (vL bv), none] [] M2) ∧ (kk ≠ kk → LW b L xs ER ET 941 (n + 5) [some (vX b), some (vR 0 0), some (vR 38 0), some (vR 62 0), some (vI i), some (vI kk), some (vL bv), none] [] M2)
  refine ⟨fun c4 => ?_, fun c4 => ?_⟩
  · refine run_k 2 ?_
    show (kk ≠ 0 → LW b L xs ER ET 959 (n + 5) [some (vX b), some (vR 0 0), some (vR 38 0), some (vR 62 0), some (vI i), some (vI kk), some (vL bv), none] [] M2) ∧ (kk = 0 → LW b L xs ER ET 948 (n + 5) [some (vX b), some (vR 0 0), some (vR 38 0), some (vR 62 0), some (vI i), some (vI kk), some (vL bv), none] [] M2)
    refine ⟨fun c5 => ?_, fun c5 => ?_⟩
    · refine run_k 1 ?_
      show LW b L xs ER ET 1787 (n + 5) [some (vX b), some (vR 0 0), some (vR 38 0), some (vR 62 0), some (vI i), some (vI kk), some (vL bv), none] [] M2
      refine run_w (L' := [some (vX b), some (vR 0 0), some (vR 38 0), some (vR 62 0), some (vI i), none, none, none]) ⟨rfl, rfl, rfl, rfl, rfl, True.intro⟩ ?_
      exact hN _ _ hJ2 (by omega) (by omega)
    · refine run_k 6 ?_
      show (0 ≤ 0 ∧ 0 < 1) ∧ (((cmpL (M2 62 0 0) bv) = 0 → LW b L xs ER ET 959 (n + 5) [some (vX b), some (vR 0 0), some (vR 38 0), some (vR 62 0), some (vI i), some (vI kk), some (vL bv), none] [] M2) ∧ ((cmpL (M2 62 0 0) bv) ≠ 0 → LW b L xs ER ET 957 (n + 5) [some (vX b), some (vR 0 0), some (vR 38 0), some (vR 62 0), some (vI i), some (vI kk), some (vL bv), none] [] M2))
      refine ⟨by omega, ?_⟩
      refine ⟨fun c7 => ?_, fun c7 => ?_⟩
      · refine run_k 1 ?_
        show LW b L xs ER ET 1787 (n + 5) [some (vX b), some (vR 0 0), some (vR 38 0), some (vR 62 0), some (vI i), some (vI kk), some (vL bv), none] [] M2
        refine run_w (L' := [some (vX b), some (vR 0 0), some (vR 38 0), some (vR 62 0), some (vI i), none, none, none]) ⟨rfl, rfl, rfl, rfl, rfl, True.intro⟩ ?_
        exact hN _ _ hJ2 (by omega) (by omega)
      · refine run_k 2 ?_
        show bT _ ((0 = 0 ∨ 0 = 1) ∧ ER (some (vI 0)) M2)
        refine bT_i (Nat.ble_eq_true_of_le (show _ ≤ (20000 : Nat) from by omega)) ?_
        refine ⟨by omega, ?_⟩
        exfalso
        first | omega | exact absurd (hbv (by omega)) (cmpL_ne (by assumption)) | (have hz := hbv (by omega); have hz2 := cmpL_ne (by assumption); omega)
  · refine run_k 2 ?_
    show bT _ ((0 = 0 ∨ 0 = 1) ∧ ER (some (vI 0)) M2)
    refine bT_i (Nat.ble_eq_true_of_le (show _ ≤ (20000 : Nat) from by omega)) ?_
    refine ⟨by omega, ?_⟩
    exfalso
    first | omega | exact absurd (hbv (by omega)) (cmpL_ne (by assumption)) | (have hz := hbv (by omega); have hz2 := cmpL_ne (by assumption); omega)
set_option maxHeartbeats 4000000 in
set_option maxRecDepth 20000 in
theorem law_11 {b : Nat} {L : Int} {xs : Int → Int} {ER : Option AV → Mm → Prop} {ET : Nat → Mm → Prop} {B : Int} {μ : Mm} {i : Int} {n : Nat} (hJ : J B μ) (h0 : 0 ≤ B) (hB : B ≤ 8000000000000000000) (hi : 0 ≤ i ∧ i + 5 ≤ L) (hL : L ≤ 2560) (hn : n ≤ 19000) (hN : ∀ (μ' : Mm) (n' : Nat), J (B + 10000000000000000) μ' → n ≤ n' → n' ≤ n + 5 → LW b L xs ER ET 1787 n' [some (vX b), some (vR 0 0), some (vR 38 0), some (vR 62 0), some (vI i), none, none, none] [] μ') : LW b L xs ER ET 962 n [some (vX b), some (vR 0 0), some (vR 38 0), some (vR 62 0), some (vI i), none, none, none] [] μ := by
  refine run_k 23 ?_
  show (b = b) ∧ ((0 ≤ (w32 (i + 1)) ∧ (w32 (i + 1)) < L) ∧ ((b = b) ∧ ((0 ≤ (w32 (i + 2)) ∧ (w32 (i + 2)) < L) ∧ ((b = b) ∧ ((0 ≤ (w32 (i + 3)) ∧ (w32 (i + 3)) < L) ∧ ((b = b) ∧ ((0 ≤ (w32 (i + 4)) ∧ (w32 (i + 4)) < L) ∧ (bT _ (∃ σ : Mm, cl_L_recall.2.2.1 σ [vR 0 0, vI (xs (w32 (i + 1))), vI (xs (w32 (i + 2))), vI (xs (w32 (i + 3))), vI (xs (w32 (i + 4))), vR 62 0] μ ∧ (∀ ov μ', cl_L_recall.2.2.2.1 σ [vR 0 0, vI (xs (w32 (i + 1))), vI (xs (w32 (i + 2))), vI (xs (w32 (i + 3))), vI (xs (w32 (i + 4))), vR 62 0] μ ov μ' → LW b L xs ER ET 991 (n + 5) [some (vX b), some (vR 0 0), some (vR 38 0), some (vR 62 0), some (vI i), none, none, none] (ov.toList ++ []) μ') ∧ ∀ kx, cl_L_recall.2.2.2.2 σ [vR 0 0, vI (xs (w32 (i + 1))), vI (xs (w32 (i + 2))), vI (xs (w32 (i + 3))), vI (xs (w32 (i + 4))), vR 62 0] μ kx → thr cd_L_law ET (LW b L xs ER ET) 988 (n + 5) [some (vX b), some (vR 0 0), some (vR 38 0), some (vR 62 0), some (vI i), none, none, none] μ kx)))))))))
  rw [show w32 (i + 1) = i + 1 from w32_id (by simp only [in32]; omega)]
  rw [show w32 (i + 2) = i + 2 from w32_id (by simp only [in32]; omega)]
  rw [show w32 (i + 3) = i + 3 from w32_id (by simp only [in32]; omega)]
  rw [show w32 (i + 4) = i + 4 from w32_id (by simp only [in32]; omega)]
  refine ⟨rfl, ?_⟩
  refine ⟨by omega, ?_⟩
  refine ⟨rfl, ?_⟩
  refine ⟨by omega, ?_⟩
  refine ⟨rfl, ?_⟩
  refine ⟨by omega, ?_⟩
  refine ⟨rfl, ?_⟩
  refine ⟨by omega, ?_⟩
  refine bT_3 rfl rfl (Nat.ble_eq_true_of_le (show _ ≤ (20000 : Nat) from by omega)) ?_
  refine ⟨μ, ⟨rfl, show CV μ from hJ.1⟩, fun ov μ' hq => ?_, fun k hk => hk.elim⟩
  have hq : ((((0 ≤ (xs (i + 1)) ∧ (xs (i + 1)) ≤ 3) ∧ (0 ≤ (xs (i + 2)) ∧ (xs (i + 2)) ≤ 3)) ∧ ((1 ≤ (xs (i + 3)) ∧ (xs (i + 3)) ≤ 500) ∧ (1 ≤ (xs (i + 4)) ∧ (xs (i + 4)) ≤ 10)) ∧ (μ 27 0 5 < 40)) → ov = some (vI 0) ∧ μ' 62 0 0 = (μ 27 0 5) ∧ al μ' = st (st (st (st (st (al μ) 58 0 (μ 27 0 5) (xs (i + 1))) 59 0 (μ 27 0 5) (xs (i + 2))) 60 0 (μ 27 0 5) (xs (i + 3))) 61 0 (μ 27 0 5) (μ 0 0 14 + (xs (i + 4)))) 38 0 23 (μ 27 0 5 + 1) ∧ PB2 μ μ') ∧ ((¬ ((0 ≤ (xs (i + 1)) ∧ (xs (i + 1)) ≤ 3) ∧ (0 ≤ (xs (i + 2)) ∧ (xs (i + 2)) ≤ 3))) → ov = some (vI 1) ∧ μ' = μ) ∧ ((((0 ≤ (xs (i + 1)) ∧ (xs (i + 1)) ≤ 3) ∧ (0 ≤ (xs (i + 2)) ∧ (xs (i + 2)) ≤ 3)) ∧ ¬ ((1 ≤ (xs (i + 3)) ∧ (xs (i + 3)) ≤ 500) ∧ (1 ≤ (xs (i + 4)) ∧ (xs (i + 4)) ≤ 10))) → ov = some (vI 2) ∧ μ' = μ) ∧ ((((0 ≤ (xs (i + 1)) ∧ (xs (i + 1)) ≤ 3) ∧ (0 ≤ (xs (i + 2)) ∧ (xs (i + 2)) ≤ 3)) ∧ ((1 ≤ (xs (i + 3)) ∧ (xs (i + 3)) ≤ 500) ∧ (1 ≤ (xs (i + 4)) ∧ (xs (i + 4)) ≤ 10)) ∧ ¬ (μ 27 0 5 < 40)) → ov = some (vI 3) ∧ μ' = μ) := hq
  obtain ⟨kk, hov, hP1, hpre, hcal⟩ := cal_recall hJ h0 hB hq
  rw [hov]
  clear hov hq
  rename Mm => M1
  show LW b L xs ER ET 991 (n + 5) [some (vX b), some (vR 0 0), some (vR 38 0), some (vR 62 0), some (vI i), none, none, none] [vI kk] M1
  refine run_k 23 ?_
  show (b = b) ∧ ((0 ≤ (w32 (i + 1)) ∧ (w32 (i + 1)) < L) ∧ ((b = b) ∧ ((0 ≤ (w32 (i + 2)) ∧ (w32 (i + 2)) < L) ∧ ((b = b) ∧ ((0 ≤ (w32 (i + 3)) ∧ (w32 (i + 3)) < L) ∧ ((b = b) ∧ ((0 ≤ (w32 (i + 4)) ∧ (w32 (i + 4)) < L) ∧ (bT _ (∃ σ : Mm, cl_X5_recall.2.2.1 σ [vR 38 0, vI (xs (w32 (i + 1))), vI (xs (w32 (i + 2))), vI (xs (w32 (i + 3))), vI (xs (w32 (i + 4)))] M1 ∧ (∀ ov μ', cl_X5_recall.2.2.2.1 σ [vR 38 0, vI (xs (w32 (i + 1))), vI (xs (w32 (i + 2))), vI (xs (w32 (i + 3))), vI (xs (w32 (i + 4)))] M1 ov μ' → LW b L xs ER ET 1021 (n + 5) [some (vX b), some (vR 0 0), some (vR 38 0), some (vR 62 0), some (vI i), some (vI kk), none, none] (ov.toList ++ []) μ') ∧ ∀ kx, cl_X5_recall.2.2.2.2 σ [vR 38 0, vI (xs (w32 (i + 1))), vI (xs (w32 (i + 2))), vI (xs (w32 (i + 3))), vI (xs (w32 (i + 4)))] M1 kx → thr cd_L_law ET (LW b L xs ER ET) 1018 (n + 5) [some (vX b), some (vR 0 0), some (vR 38 0), some (vR 62 0), some (vI i), some (vI kk), none, none] M1 kx)))))))))
  rw [show w32 (i + 1) = i + 1 from w32_id (by simp only [in32]; omega)]
  rw [show w32 (i + 2) = i + 2 from w32_id (by simp only [in32]; omega)]
  rw [show w32 (i + 3) = i + 3 from w32_id (by simp only [in32]; omega)]
  rw [show w32 (i + 4) = i + 4 from w32_id (by simp only [in32]; omega)]
  refine ⟨rfl, ?_⟩
  refine ⟨by omega, ?_⟩
  refine ⟨rfl, ?_⟩
  refine ⟨by omega, ?_⟩
  refine ⟨rfl, ?_⟩
  refine ⟨by omega, ?_⟩
  refine ⟨rfl, ?_⟩
  refine ⟨by omega, ?_⟩
  refine bT_3 rfl rfl (Nat.ble_eq_true_of_le (show _ ≤ (20000 : Nat) from by omega)) ?_
  refine ⟨μ, ⟨rfl, show Wk M1 ∧ Xk M1 from ⟨hpre.1, hpre.2⟩⟩, fun ov μ' hq => ?_, fun k hk => hk.elim⟩
  obtain ⟨bv, hov2, hJ2, hth, hbv⟩ := hcal ov μ' hq
  rw [hov2]
  clear hov2 hq
  rename Mm => M2
  show LW b L xs ER ET 1021 (n + 5) [some (vX b), some (vR 0 0), some (vR 38 0), some (vR 62 0), some (vI i), some (vI kk), none, none] [vI bv] M2
  refine run_k 3 ?_
  show bT _ (∃ σ : Mm, cl_X5_thrown.2.2.1 σ [vR 38 0] M2 ∧ (∀ ov μ', cl_X5_thrown.2.2.2.1 σ [vR 38 0] M2 ov μ' → LW b L xs ER ET 1027 (n + 5) [some (vX b), some (vR 0 0), some (vR 38 0), some (vR 62 0), some (vI i), some (vI kk), some (vI bv), none] (ov.toList ++ []) μ') ∧ ∀ kx, cl_X5_thrown.2.2.2.2 σ [vR 38 0] M2 kx → thr cd_L_law ET (LW b L xs ER ET) 1024 (n + 5) [some (vX b), some (vR 0 0), some (vR 38 0), some (vR 62 0), some (vI i), some (vI kk), some (vI bv), none] M2 kx)
  refine bT_3 rfl rfl (Nat.ble_eq_true_of_le (show _ ≤ (20000 : Nat) from by omega)) ?_
  refine ⟨μ, ⟨rfl, show True from True.intro⟩, fun ov μ' hq => ?_, fun k hk => hk.elim⟩
  obtain ⟨hov3, hmu⟩ : ov = some (vI (M2 38 0 0)) ∧ μ' = M2 := hq
  rw [hov3, hmu, hth]
  show LW b L xs ER ET 1027 (n + 5) [some (vX b), some (vR 0 0), some (vR 38 0), some (vR 62 0), some (vI i), some (vI kk), some (vI bv), none] [vI kk] M2
  refine run_k 2 ?_
  show (kk = kk → LW b L xs ER ET 1034 (n + 5) [some (vX b), some (vR 0 0), some (vR 38 0), some (vR 62 0), some (vI i), some (vI kk), some (vI bv), none] [] M2) ∧ (kk ≠ kk → LW b L xs ER ET 1032 (n + 5) [some (vX b), some (vR 0 0), some (vR 38 0), some (vR 62 0), some (vI i), some (vI kk), some (vI bv), none] [] M2)
  refine ⟨fun c4 => ?_, fun c4 => ?_⟩
  · refine run_k 2 ?_
    show (kk ≠ 0 → LW b L xs ER ET 1051 (n + 5) [some (vX b), some (vR 0 0), some (vR 38 0), some (vR 62 0), some (vI i), some (vI kk), some (vI bv), none] [] M2) ∧ (kk = 0 → LW b L xs ER ET 1039 (n + 5) [some (vX b), some (vR 0 0), some (vR 38 0), some (vR 62 0), some (vI i), some (vI kk), some (vI bv), none] [] M2)
    refine ⟨fun c5 => ?_, fun c5 => ?_⟩
    · refine run_k 1 ?_
      show LW b L xs ER ET 1787 (n + 5) [some (vX b), some (vR 0 0), some (vR 38 0), some (vR 62 0), some (vI i), some (vI kk), some (vI bv), none] [] M2
      refine run_w (L' := [some (vX b), some (vR 0 0), some (vR 38 0), some (vR 62 0), some (vI i), none, none, none]) ⟨rfl, rfl, rfl, rfl, rfl, True.intro⟩ ?_
      exact hN _ _ hJ2 (by omega) (by omega)
    · refine run_k 7 ?_
      show (0 ≤ 0 ∧ 0 < 1) ∧ (((cmpL (M2 62 0 0) bv) = 0 → LW b L xs ER ET 1051 (n + 5) [some (vX b), some (vR 0 0), some (vR 38 0), some (vR 62 0), some (vI i), some (vI kk), some (vI bv), none] [] M2) ∧ ((cmpL (M2 62 0 0) bv) ≠ 0 → LW b L xs ER ET 1049 (n + 5) [some (vX b), some (vR 0 0), some (vR 38 0), some (vR 62 0), some (vI i), some (vI kk), some (vI bv), none] [] M2))
      refine ⟨by omega, ?_⟩
      refine ⟨fun c7 => ?_, fun c7 => ?_⟩
      · refine run_k 1 ?_
        show LW b L xs ER ET 1787 (n + 5) [some (vX b), some (vR 0 0), some (vR 38 0), some (vR 62 0), some (vI i), some (vI kk), some (vI bv), none] [] M2
        refine run_w (L' := [some (vX b), some (vR 0 0), some (vR 38 0), some (vR 62 0), some (vI i), none, none, none]) ⟨rfl, rfl, rfl, rfl, rfl, True.intro⟩ ?_
        exact hN _ _ hJ2 (by omega) (by omega)
      · refine run_k 2 ?_
        show bT _ ((0 = 0 ∨ 0 = 1) ∧ ER (some (vI 0)) M2)
        refine bT_i (Nat.ble_eq_true_of_le (show _ ≤ (20000 : Nat) from by omega)) ?_
        refine ⟨by omega, ?_⟩
        exfalso
        first | omega | exact absurd (hbv (by omega)) (cmpL_ne (by assumption)) | (have hz := hbv (by omega); have hz2 := cmpL_ne (by assumption); omega)
  · refine run_k 2 ?_
    show bT _ ((0 = 0 ∨ 0 = 1) ∧ ER (some (vI 0)) M2)
    refine bT_i (Nat.ble_eq_true_of_le (show _ ≤ (20000 : Nat) from by omega)) ?_
    refine ⟨by omega, ?_⟩
    exfalso
    first | omega | exact absurd (hbv (by omega)) (cmpL_ne (by assumption)) | (have hz := hbv (by omega); have hz2 := cmpL_ne (by assumption); omega)
set_option maxHeartbeats 4000000 in
set_option maxRecDepth 20000 in
theorem law_12 {b : Nat} {L : Int} {xs : Int → Int} {ER : Option AV → Mm → Prop} {ET : Nat → Mm → Prop} {B : Int} {μ : Mm} {i : Int} {n : Nat} (hJ : J B μ) (h0 : 0 ≤ B) (hB : B ≤ 8000000000000000000) (hi : 0 ≤ i ∧ i + 5 ≤ L) (hL : L ≤ 2560) (hn : n ≤ 19000) (hN : ∀ (μ' : Mm) (n' : Nat), J (B + 10000000000000000) μ' → n ≤ n' → n' ≤ n + 5 → LW b L xs ER ET 1787 n' [some (vX b), some (vR 0 0), some (vR 38 0), some (vR 62 0), some (vI i), none, none, none] [] μ') : LW b L xs ER ET 1054 n [some (vX b), some (vR 0 0), some (vR 38 0), some (vR 62 0), some (vI i), none, none, none] [] μ := by
  refine run_k 8 ?_
  show (b = b) ∧ ((0 ≤ (w32 (i + 1)) ∧ (w32 (i + 1)) < L) ∧ (bT _ (∃ σ : Mm, cl_L_liquidate.2.2.1 σ [vR 0 0, vI (xs (w32 (i + 1))), vR 62 0] μ ∧ (∀ ov μ', cl_L_liquidate.2.2.2.1 σ [vR 0 0, vI (xs (w32 (i + 1))), vR 62 0] μ ov μ' → LW b L xs ER ET 1065 (n + 2) [some (vX b), some (vR 0 0), some (vR 38 0), some (vR 62 0), some (vI i), none, none, none] (ov.toList ++ []) μ') ∧ ∀ kx, cl_L_liquidate.2.2.2.2 σ [vR 0 0, vI (xs (w32 (i + 1))), vR 62 0] μ kx → thr cd_L_law ET (LW b L xs ER ET) 1062 (n + 2) [some (vX b), some (vR 0 0), some (vR 38 0), some (vR 62 0), some (vI i), none, none, none] μ kx)))
  rw [show w32 (i + 1) = i + 1 from w32_id (by simp only [in32]; omega)]
  refine ⟨rfl, ?_⟩
  refine ⟨by omega, ?_⟩
  refine bT_3 rfl rfl (Nat.ble_eq_true_of_le (show _ ≤ (20000 : Nat) from by omega)) ?_
  refine ⟨μ, ⟨rfl, show CV μ from hJ.1⟩, fun ov μ' hq => ?_, fun k hk => hk.elim⟩
  have hq : (((0 ≤ (xs (i + 1)) ∧ (xs (i + 1)) ≤ 5) ∧ (calledF (al μ) (xs (i + 1)) ≠ 0)) → ov = some (vI 0) ∧ μ' 62 0 0 = ((liqF (al μ) (xs (i + 1))).2) ∧ al μ' = (liqF (al μ) (xs (i + 1))).1 ∧ PB2 μ μ') ∧ ((¬ (0 ≤ (xs (i + 1)) ∧ (xs (i + 1)) ≤ 5)) → ov = some (vI 1) ∧ μ' = μ) ∧ (((0 ≤ (xs (i + 1)) ∧ (xs (i + 1)) ≤ 5) ∧ ¬ (calledF (al μ) (xs (i + 1)) ≠ 0)) → ov = some (vI 2) ∧ μ' = μ) := hq
  obtain ⟨kk, hov, hP1, hpre, hcal⟩ := cal_liquidate hJ h0 hB hq
  rw [hov]
  clear hov hq
  rename Mm => M1
  show LW b L xs ER ET 1065 (n + 2) [some (vX b), some (vR 0 0), some (vR 38 0), some (vR 62 0), some (vI i), none, none, none] [vI kk] M1
  refine run_k 8 ?_
  show (b = b) ∧ ((0 ≤ (w32 (i + 1)) ∧ (w32 (i + 1)) < L) ∧ (bT _ (∃ σ : Mm, cl_X5_liquidate.2.2.1 σ [vR 38 0, vI (xs (w32 (i + 1)))] M1 ∧ (∀ ov μ', cl_X5_liquidate.2.2.2.1 σ [vR 38 0, vI (xs (w32 (i + 1)))] M1 ov μ' → LW b L xs ER ET 1077 (n + 2) [some (vX b), some (vR 0 0), some (vR 38 0), some (vR 62 0), some (vI i), some (vI kk), none, none] (ov.toList ++ []) μ') ∧ ∀ kx, cl_X5_liquidate.2.2.2.2 σ [vR 38 0, vI (xs (w32 (i + 1)))] M1 kx → thr cd_L_law ET (LW b L xs ER ET) 1074 (n + 2) [some (vX b), some (vR 0 0), some (vR 38 0), some (vR 62 0), some (vI i), some (vI kk), none, none] M1 kx)))
  rw [show w32 (i + 1) = i + 1 from w32_id (by simp only [in32]; omega)]
  refine ⟨rfl, ?_⟩
  refine ⟨by omega, ?_⟩
  refine bT_3 rfl rfl (Nat.ble_eq_true_of_le (show _ ≤ (20000 : Nat) from by omega)) ?_
  refine ⟨μ, ⟨rfl, show Wk M1 ∧ Xk M1 from ⟨hpre.1, hpre.2⟩⟩, fun ov μ' hq => ?_, fun k hk => hk.elim⟩
  obtain ⟨bv, hov2, hJ2, hth, hbv⟩ := hcal ov μ' hq
  rw [hov2]
  clear hov2 hq
  rename Mm => M2
  show LW b L xs ER ET 1077 (n + 2) [some (vX b), some (vR 0 0), some (vR 38 0), some (vR 62 0), some (vI i), some (vI kk), none, none] [vI bv] M2
  refine run_k 3 ?_
  show bT _ (∃ σ : Mm, cl_X5_thrown.2.2.1 σ [vR 38 0] M2 ∧ (∀ ov μ', cl_X5_thrown.2.2.2.1 σ [vR 38 0] M2 ov μ' → LW b L xs ER ET 1083 (n + 2) [some (vX b), some (vR 0 0), some (vR 38 0), some (vR 62 0), some (vI i), some (vI kk), some (vI bv), none] (ov.toList ++ []) μ') ∧ ∀ kx, cl_X5_thrown.2.2.2.2 σ [vR 38 0] M2 kx → thr cd_L_law ET (LW b L xs ER ET) 1080 (n + 2) [some (vX b), some (vR 0 0), some (vR 38 0), some (vR 62 0), some (vI i), some (vI kk), some (vI bv), none] M2 kx)
  refine bT_3 rfl rfl (Nat.ble_eq_true_of_le (show _ ≤ (20000 : Nat) from by omega)) ?_
  refine ⟨μ, ⟨rfl, show True from True.intro⟩, fun ov μ' hq => ?_, fun k hk => hk.elim⟩
  obtain ⟨hov3, hmu⟩ : ov = some (vI (M2 38 0 0)) ∧ μ' = M2 := hq
  rw [hov3, hmu, hth]
  show LW b L xs ER ET 1083 (n + 2) [some (vX b), some (vR 0 0), some (vR 38 0), some (vR 62 0), some (vI i), some (vI kk), some (vI bv), none] [vI kk] M2
  refine run_k 2 ?_
  show (kk = kk → LW b L xs ER ET 1090 (n + 2) [some (vX b), some (vR 0 0), some (vR 38 0), some (vR 62 0), some (vI i), some (vI kk), some (vI bv), none] [] M2) ∧ (kk ≠ kk → LW b L xs ER ET 1088 (n + 2) [some (vX b), some (vR 0 0), some (vR 38 0), some (vR 62 0), some (vI i), some (vI kk), some (vI bv), none] [] M2)
  refine ⟨fun c4 => ?_, fun c4 => ?_⟩
  · refine run_k 2 ?_
    show (kk ≠ 0 → LW b L xs ER ET 1107 (n + 2) [some (vX b), some (vR 0 0), some (vR 38 0), some (vR 62 0), some (vI i), some (vI kk), some (vI bv), none] [] M2) ∧ (kk = 0 → LW b L xs ER ET 1095 (n + 2) [some (vX b), some (vR 0 0), some (vR 38 0), some (vR 62 0), some (vI i), some (vI kk), some (vI bv), none] [] M2)
    refine ⟨fun c5 => ?_, fun c5 => ?_⟩
    · refine run_k 1 ?_
      show LW b L xs ER ET 1787 (n + 2) [some (vX b), some (vR 0 0), some (vR 38 0), some (vR 62 0), some (vI i), some (vI kk), some (vI bv), none] [] M2
      refine run_w (L' := [some (vX b), some (vR 0 0), some (vR 38 0), some (vR 62 0), some (vI i), none, none, none]) ⟨rfl, rfl, rfl, rfl, rfl, True.intro⟩ ?_
      exact hN _ _ hJ2 (by omega) (by omega)
    · refine run_k 7 ?_
      show (0 ≤ 0 ∧ 0 < 1) ∧ (((cmpL (M2 62 0 0) bv) = 0 → LW b L xs ER ET 1107 (n + 2) [some (vX b), some (vR 0 0), some (vR 38 0), some (vR 62 0), some (vI i), some (vI kk), some (vI bv), none] [] M2) ∧ ((cmpL (M2 62 0 0) bv) ≠ 0 → LW b L xs ER ET 1105 (n + 2) [some (vX b), some (vR 0 0), some (vR 38 0), some (vR 62 0), some (vI i), some (vI kk), some (vI bv), none] [] M2))
      refine ⟨by omega, ?_⟩
      refine ⟨fun c7 => ?_, fun c7 => ?_⟩
      · refine run_k 1 ?_
        show LW b L xs ER ET 1787 (n + 2) [some (vX b), some (vR 0 0), some (vR 38 0), some (vR 62 0), some (vI i), some (vI kk), some (vI bv), none] [] M2
        refine run_w (L' := [some (vX b), some (vR 0 0), some (vR 38 0), some (vR 62 0), some (vI i), none, none, none]) ⟨rfl, rfl, rfl, rfl, rfl, True.intro⟩ ?_
        exact hN _ _ hJ2 (by omega) (by omega)
      · refine run_k 2 ?_
        show bT _ ((0 = 0 ∨ 0 = 1) ∧ ER (some (vI 0)) M2)
        refine bT_i (Nat.ble_eq_true_of_le (show _ ≤ (20000 : Nat) from by omega)) ?_
        refine ⟨by omega, ?_⟩
        exfalso
        first | omega | exact absurd (hbv (by omega)) (cmpL_ne (by assumption)) | (have hz := hbv (by omega); have hz2 := cmpL_ne (by assumption); omega)
  · refine run_k 2 ?_
    show bT _ ((0 = 0 ∨ 0 = 1) ∧ ER (some (vI 0)) M2)
    refine bT_i (Nat.ble_eq_true_of_le (show _ ≤ (20000 : Nat) from by omega)) ?_
    refine ⟨by omega, ?_⟩
    exfalso
    first | omega | exact absurd (hbv (by omega)) (cmpL_ne (by assumption)) | (have hz := hbv (by omega); have hz2 := cmpL_ne (by assumption); omega)
set_option maxHeartbeats 4000000 in
set_option maxRecDepth 20000 in
theorem law_13 {b : Nat} {L : Int} {xs : Int → Int} {ER : Option AV → Mm → Prop} {ET : Nat → Mm → Prop} {B : Int} {μ : Mm} {i : Int} {n : Nat} (hJ : J B μ) (h0 : 0 ≤ B) (hB : B ≤ 8000000000000000000) (hi : 0 ≤ i ∧ i + 5 ≤ L) (hL : L ≤ 2560) (hn : n ≤ 19000) (hN : ∀ (μ' : Mm) (n' : Nat), J (B + 10000000000000000) μ' → n ≤ n' → n' ≤ n + 5 → LW b L xs ER ET 1787 n' [some (vX b), some (vR 0 0), some (vR 38 0), some (vR 62 0), some (vI i), none, none, none] [] μ') : LW b L xs ER ET 1110 n [some (vX b), some (vR 0 0), some (vR 38 0), some (vR 62 0), some (vI i), none, none, none] [] μ := by
  refine run_k 8 ?_
  show (b = b) ∧ ((0 ≤ (w32 (i + 1)) ∧ (w32 (i + 1)) < L) ∧ (bT _ (∃ σ : Mm, cl_L_fail.2.2.1 σ [vR 0 0, vI (xs (w32 (i + 1))), vR 62 0] μ ∧ (∀ ov μ', cl_L_fail.2.2.2.1 σ [vR 0 0, vI (xs (w32 (i + 1))), vR 62 0] μ ov μ' → LW b L xs ER ET 1121 (n + 2) [some (vX b), some (vR 0 0), some (vR 38 0), some (vR 62 0), some (vI i), none, none, none] (ov.toList ++ []) μ') ∧ ∀ kx, cl_L_fail.2.2.2.2 σ [vR 0 0, vI (xs (w32 (i + 1))), vR 62 0] μ kx → thr cd_L_law ET (LW b L xs ER ET) 1118 (n + 2) [some (vX b), some (vR 0 0), some (vR 38 0), some (vR 62 0), some (vI i), none, none, none] μ kx)))
  rw [show w32 (i + 1) = i + 1 from w32_id (by simp only [in32]; omega)]
  refine ⟨rfl, ?_⟩
  refine ⟨by omega, ?_⟩
  refine bT_3 rfl rfl (Nat.ble_eq_true_of_le (show _ ≤ (20000 : Nat) from by omega)) ?_
  refine ⟨μ, ⟨rfl, show CV μ ∧ ((0 ≤ (xs (i + 1)) ∧ (xs (i + 1)) ≤ 5) → -9000000000000000000 ≤ failL (al μ) (xs (i + 1)) 4 41 0 (xs (i + 1)) ∧ failL (al μ) (xs (i + 1)) 4 41 0 (xs (i + 1)) ≤ 9000000000000000000) from ⟨hJ.1, fun hc => by
        have hb := itC_B hc (J_gd hJ).1 (J_gd hJ).2.2.1 (J_gd hJ).2.2.2 h0 4 (by decide) (by omega)
        have h2 := hb.2.1 _ hc.1 hc.2
        rw [fl_it, al_th]
        omega⟩⟩, fun ov μ' hq => ?_, fun k hk => hk.elim⟩
  have hq : (((0 ≤ (xs (i + 1)) ∧ (xs (i + 1)) ≤ 5) ∧ (μ 5 0 (xs (i + 1)) = 0)) → ov = some (vI 0) ∧ μ' 62 0 0 = (lossF (failL (al μ) (xs (i + 1)) 4) (xs (i + 1))) ∧ al μ' = failF (al μ) (xs (i + 1)) ∧ PB2 μ μ') ∧ ((¬ (0 ≤ (xs (i + 1)) ∧ (xs (i + 1)) ≤ 5)) → ov = some (vI 1) ∧ μ' = μ) ∧ (((0 ≤ (xs (i + 1)) ∧ (xs (i + 1)) ≤ 5) ∧ ¬ (μ 5 0 (xs (i + 1)) = 0)) → ov = some (vI 2) ∧ μ' = μ) := hq
  obtain ⟨kk, hov, hP1, hpre, hcal⟩ := cal_fail hJ h0 hB hq
  rw [hov]
  clear hov hq
  rename Mm => M1
  show LW b L xs ER ET 1121 (n + 2) [some (vX b), some (vR 0 0), some (vR 38 0), some (vR 62 0), some (vI i), none, none, none] [vI kk] M1
  refine run_k 8 ?_
  show (b = b) ∧ ((0 ≤ (w32 (i + 1)) ∧ (w32 (i + 1)) < L) ∧ (bT _ (∃ σ : Mm, cl_X5_fail.2.2.1 σ [vR 38 0, vI (xs (w32 (i + 1)))] M1 ∧ (∀ ov μ', cl_X5_fail.2.2.2.1 σ [vR 38 0, vI (xs (w32 (i + 1)))] M1 ov μ' → LW b L xs ER ET 1133 (n + 2) [some (vX b), some (vR 0 0), some (vR 38 0), some (vR 62 0), some (vI i), some (vI kk), none, none] (ov.toList ++ []) μ') ∧ ∀ kx, cl_X5_fail.2.2.2.2 σ [vR 38 0, vI (xs (w32 (i + 1)))] M1 kx → thr cd_L_law ET (LW b L xs ER ET) 1130 (n + 2) [some (vX b), some (vR 0 0), some (vR 38 0), some (vR 62 0), some (vI i), some (vI kk), none, none] M1 kx)))
  rw [show w32 (i + 1) = i + 1 from w32_id (by simp only [in32]; omega)]
  refine ⟨rfl, ?_⟩
  refine ⟨by omega, ?_⟩
  refine bT_3 rfl rfl (Nat.ble_eq_true_of_le (show _ ≤ (20000 : Nat) from by omega)) ?_
  refine ⟨μ, ⟨rfl, show Wk M1 ∧ Xk M1 from ⟨hpre.1, hpre.2⟩⟩, fun ov μ' hq => ?_, fun k hk => hk.elim⟩
  obtain ⟨bv, hov2, hJ2, hth, hbv⟩ := hcal ov μ' hq
  rw [hov2]
  clear hov2 hq
  rename Mm => M2
  show LW b L xs ER ET 1133 (n + 2) [some (vX b), some (vR 0 0), some (vR 38 0), some (vR 62 0), some (vI i), some (vI kk), none, none] [vL bv] M2
  refine run_k 3 ?_
  show bT _ (∃ σ : Mm, cl_X5_thrown.2.2.1 σ [vR 38 0] M2 ∧ (∀ ov μ', cl_X5_thrown.2.2.2.1 σ [vR 38 0] M2 ov μ' → LW b L xs ER ET 1139 (n + 2) [some (vX b), some (vR 0 0), some (vR 38 0), some (vR 62 0), some (vI i), some (vI kk), some (vL bv), none] (ov.toList ++ []) μ') ∧ ∀ kx, cl_X5_thrown.2.2.2.2 σ [vR 38 0] M2 kx → thr cd_L_law ET (LW b L xs ER ET) 1136 (n + 2) [some (vX b), some (vR 0 0), some (vR 38 0), some (vR 62 0), some (vI i), some (vI kk), some (vL bv), none] M2 kx)
  refine bT_3 rfl rfl (Nat.ble_eq_true_of_le (show _ ≤ (20000 : Nat) from by omega)) ?_
  refine ⟨μ, ⟨rfl, show True from True.intro⟩, fun ov μ' hq => ?_, fun k hk => hk.elim⟩
  obtain ⟨hov3, hmu⟩ : ov = some (vI (M2 38 0 0)) ∧ μ' = M2 := hq
  rw [hov3, hmu, hth]
  show LW b L xs ER ET 1139 (n + 2) [some (vX b), some (vR 0 0), some (vR 38 0), some (vR 62 0), some (vI i), some (vI kk), some (vL bv), none] [vI kk] M2
  refine run_k 2 ?_
  show (kk = kk → LW b L xs ER ET 1146 (n + 2) [some (vX b), some (vR 0 0), some (vR 38 0), some (vR 62 0), some (vI i), some (vI kk), some (vL bv), none] [] M2) ∧ (kk ≠ kk → LW b L xs ER ET 1144 (n + 2) [some (vX b), some (vR 0 0), some (vR 38 0), some (vR 62 0), some (vI i), some (vI kk), some (vL bv), none] [] M2)
  refine ⟨fun c4 => ?_, fun c4 => ?_⟩
  · refine run_k 2 ?_
    show (kk ≠ 0 → LW b L xs ER ET 1162 (n + 2) [some (vX b), some (vR 0 0), some (vR 38 0), some (vR 62 0), some (vI i), some (vI kk), some (vL bv), none] [] M2) ∧ (kk = 0 → LW b L xs ER ET 1151 (n + 2) [some (vX b), some (vR 0 0), some (vR 38 0), some (vR 62 0), some (vI i), some (vI kk), some (vL bv), none] [] M2)
    refine ⟨fun c5 => ?_, fun c5 => ?_⟩
    · refine run_k 1 ?_
      show LW b L xs ER ET 1787 (n + 2) [some (vX b), some (vR 0 0), some (vR 38 0), some (vR 62 0), some (vI i), some (vI kk), some (vL bv), none] [] M2
      refine run_w (L' := [some (vX b), some (vR 0 0), some (vR 38 0), some (vR 62 0), some (vI i), none, none, none]) ⟨rfl, rfl, rfl, rfl, rfl, True.intro⟩ ?_
      exact hN _ _ hJ2 (by omega) (by omega)
    · refine run_k 6 ?_
      show (0 ≤ 0 ∧ 0 < 1) ∧ (((cmpL (M2 62 0 0) bv) = 0 → LW b L xs ER ET 1162 (n + 2) [some (vX b), some (vR 0 0), some (vR 38 0), some (vR 62 0), some (vI i), some (vI kk), some (vL bv), none] [] M2) ∧ ((cmpL (M2 62 0 0) bv) ≠ 0 → LW b L xs ER ET 1160 (n + 2) [some (vX b), some (vR 0 0), some (vR 38 0), some (vR 62 0), some (vI i), some (vI kk), some (vL bv), none] [] M2))
      refine ⟨by omega, ?_⟩
      refine ⟨fun c7 => ?_, fun c7 => ?_⟩
      · refine run_k 1 ?_
        show LW b L xs ER ET 1787 (n + 2) [some (vX b), some (vR 0 0), some (vR 38 0), some (vR 62 0), some (vI i), some (vI kk), some (vL bv), none] [] M2
        refine run_w (L' := [some (vX b), some (vR 0 0), some (vR 38 0), some (vR 62 0), some (vI i), none, none, none]) ⟨rfl, rfl, rfl, rfl, rfl, True.intro⟩ ?_
        exact hN _ _ hJ2 (by omega) (by omega)
      · refine run_k 2 ?_
        show bT _ ((0 = 0 ∨ 0 = 1) ∧ ER (some (vI 0)) M2)
        refine bT_i (Nat.ble_eq_true_of_le (show _ ≤ (20000 : Nat) from by omega)) ?_
        refine ⟨by omega, ?_⟩
        exfalso
        first | omega | exact absurd (hbv (by omega)) (cmpL_ne (by assumption)) | (have hz := hbv (by omega); have hz2 := cmpL_ne (by assumption); omega)
  · refine run_k 2 ?_
    show bT _ ((0 = 0 ∨ 0 = 1) ∧ ER (some (vI 0)) M2)
    refine bT_i (Nat.ble_eq_true_of_le (show _ ≤ (20000 : Nat) from by omega)) ?_
    refine ⟨by omega, ?_⟩
    exfalso
    first | omega | exact absurd (hbv (by omega)) (cmpL_ne (by assumption)) | (have hz := hbv (by omega); have hz2 := cmpL_ne (by assumption); omega)
set_option maxHeartbeats 4000000 in
set_option maxRecDepth 20000 in
theorem law_14 {b : Nat} {L : Int} {xs : Int → Int} {ER : Option AV → Mm → Prop} {ET : Nat → Mm → Prop} {B : Int} {μ : Mm} {i : Int} {n : Nat} (hJ : J B μ) (h0 : 0 ≤ B) (hB : B ≤ 8000000000000000000) (hi : 0 ≤ i ∧ i + 5 ≤ L) (hL : L ≤ 2560) (hn : n ≤ 19000) (hN : ∀ (μ' : Mm) (n' : Nat), J (B + 10000000000000000) μ' → n ≤ n' → n' ≤ n + 5 → LW b L xs ER ET 1787 n' [some (vX b), some (vR 0 0), some (vR 38 0), some (vR 62 0), some (vI i), none, none, none] [] μ') : LW b L xs ER ET 1165 n [some (vX b), some (vR 0 0), some (vR 38 0), some (vR 62 0), some (vI i), none, none, none] [] μ := by
  have he : μ 38 0 1 = μ 0 0 14 := rqn (J_rp hJ (PB2_rf hJ)) (by decide)
  refine run_k 2 ?_
  show bT _ (∃ σ : Mm, cl_X4_day.2.2.1 σ [vR 0 0] μ ∧ (∀ ov μ', cl_X4_day.2.2.2.1 σ [vR 0 0] μ ov μ' → LW b L xs ER ET 1169 n [some (vX b), some (vR 0 0), some (vR 38 0), some (vR 62 0), some (vI i), none, none, none] (ov.toList ++ []) μ') ∧ ∀ kx, cl_X4_day.2.2.2.2 σ [vR 0 0] μ kx → thr cd_L_law ET (LW b L xs ER ET) 1166 n [some (vX b), some (vR 0 0), some (vR 38 0), some (vR 62 0), some (vI i), none, none, none] μ kx)
  refine bT_3 rfl rfl (Nat.ble_eq_true_of_le (show _ ≤ (20000 : Nat) from by omega)) ?_
  refine ⟨μ, ⟨rfl, show True from True.intro⟩, fun ov μ' hq => ?_, fun k hk => hk.elim⟩
  obtain ⟨hov, hmu⟩ : ov = some (vI (μ 0 0 14)) ∧ μ' = μ := hq
  rw [hov, hmu]
  show LW b L xs ER ET 1169 n [some (vX b), some (vR 0 0), some (vR 38 0), some (vR 62 0), some (vI i), none, none, none] [vI (μ 0 0 14)] μ
  refine run_k 2 ?_
  show bT _ (∃ σ : Mm, cl_X5_day.2.2.1 σ [vR 38 0] μ ∧ (∀ ov μ', cl_X5_day.2.2.2.1 σ [vR 38 0] μ ov μ' → LW b L xs ER ET 1173 n [some (vX b), some (vR 0 0), some (vR 38 0), some (vR 62 0), some (vI i), none, none, none] (ov.toList ++ [vI (μ 0 0 14)]) μ') ∧ ∀ kx, cl_X5_day.2.2.2.2 σ [vR 38 0] μ kx → thr cd_L_law ET (LW b L xs ER ET) 1170 n [some (vX b), some (vR 0 0), some (vR 38 0), some (vR 62 0), some (vI i), none, none, none] μ kx)
  refine bT_3 rfl rfl (Nat.ble_eq_true_of_le (show _ ≤ (20000 : Nat) from by omega)) ?_
  refine ⟨μ, ⟨rfl, show True from True.intro⟩, fun ov μ' hq => ?_, fun k hk => hk.elim⟩
  obtain ⟨hov, hmu⟩ : ov = some (vI (μ 38 0 1)) ∧ μ' = st μ 38 0 0 0 := hq
  rw [hov, hmu]
  show LW b L xs ER ET 1173 n [some (vX b), some (vR 0 0), some (vR 38 0), some (vR 62 0), some (vI i), none, none, none] [vI (μ 38 0 1), vI (μ 0 0 14)] (st μ 38 0 0 0)
  refine run_k 1 ?_
  show ((μ 0 0 14) = (μ 38 0 1) → LW b L xs ER ET 1787 n [some (vX b), some (vR 0 0), some (vR 38 0), some (vR 62 0), some (vI i), none, none, none] [] (st μ 38 0 0 0)) ∧ ((μ 0 0 14) ≠ (μ 38 0 1) → LW b L xs ER ET 1176 n [some (vX b), some (vR 0 0), some (vR 38 0), some (vR 62 0), some (vI i), none, none, none] [] (st μ 38 0 0 0))
  refine ⟨fun c3 => ?_, fun c3 => ?_⟩
  · refine run_w (L' := [some (vX b), some (vR 0 0), some (vR 38 0), some (vR 62 0), some (vI i), none, none, none]) ⟨rfl, rfl, rfl, rfl, rfl, True.intro⟩ ?_
    exact hN _ _ (J_err hJ (by omega) 0) (by omega) (by omega)
  · refine run_k 2 ?_
    show bT _ ((0 = 0 ∨ 0 = 1) ∧ ER (some (vI 0)) (st μ 38 0 0 0))
    refine bT_i (Nat.ble_eq_true_of_le (show _ ≤ (20000 : Nat) from by omega)) ?_
    refine ⟨by omega, ?_⟩
    exfalso
    first | omega | exact absurd (hbv (by omega)) (cmpL_ne (by assumption)) | (have hz := hbv (by omega); have hz2 := cmpL_ne (by assumption); omega)
set_option maxHeartbeats 4000000 in
set_option maxRecDepth 20000 in
theorem law_15 {b : Nat} {L : Int} {xs : Int → Int} {ER : Option AV → Mm → Prop} {ET : Nat → Mm → Prop} {B : Int} {μ : Mm} {i : Int} {n : Nat} (hJ : J B μ) (h0 : 0 ≤ B) (hB : B ≤ 8000000000000000000) (hi : 0 ≤ i ∧ i + 5 ≤ L) (hL : L ≤ 2560) (hn : n ≤ 19000) (hN : ∀ (μ' : Mm) (n' : Nat), J (B + 10000000000000000) μ' → n ≤ n' → n' ≤ n + 5 → LW b L xs ER ET 1787 n' [some (vX b), some (vR 0 0), some (vR 38 0), some (vR 62 0), some (vI i), none, none, none] [] μ') : LW b L xs ER ET 1178 n [some (vX b), some (vR 0 0), some (vR 38 0), some (vR 62 0), some (vI i), none, none, none] [] μ := by
  refine run_k 13 ?_
  show (b = b) ∧ ((0 ≤ (w32 (i + 1)) ∧ (w32 (i + 1)) < L) ∧ ((b = b) ∧ ((0 ≤ (w32 (i + 2)) ∧ (w32 (i + 2)) < L) ∧ (bT _ (∃ σ : Mm, cl_L_position.2.2.1 σ [vR 0 0, vI (xs (w32 (i + 1))), vI (xs (w32 (i + 2))), vR 62 0] μ ∧ (∀ ov μ', cl_L_position.2.2.2.1 σ [vR 0 0, vI (xs (w32 (i + 1))), vI (xs (w32 (i + 2))), vR 62 0] μ ov μ' → LW b L xs ER ET 1195 (n + 2) [some (vX b), some (vR 0 0), some (vR 38 0), some (vR 62 0), some (vI i), none, none, none] (ov.toList ++ []) μ') ∧ ∀ kx, cl_L_position.2.2.2.2 σ [vR 0 0, vI (xs (w32 (i + 1))), vI (xs (w32 (i + 2))), vR 62 0] μ kx → thr cd_L_law ET (LW b L xs ER ET) 1192 (n + 2) [some (vX b), some (vR 0 0), some (vR 38 0), some (vR 62 0), some (vI i), none, none, none] μ kx)))))
  rw [show w32 (i + 1) = i + 1 from w32_id (by simp only [in32]; omega)]
  rw [show w32 (i + 2) = i + 2 from w32_id (by simp only [in32]; omega)]
  refine ⟨rfl, ?_⟩
  refine ⟨by omega, ?_⟩
  refine ⟨rfl, ?_⟩
  refine ⟨by omega, ?_⟩
  refine bT_3 rfl rfl (Nat.ble_eq_true_of_le (show _ ≤ (20000 : Nat) from by omega)) ?_
  refine ⟨μ, ⟨rfl, show CV μ from hJ.1⟩, fun ov μ' hq => ?_, fun k hk => hk.elim⟩
  have hq : ((((0 ≤ (xs (i + 1)) ∧ (xs (i + 1)) ≤ 5) ∧ (0 ≤ (xs (i + 2)) ∧ (xs (i + 2)) ≤ 3))) → ov = some (vI 0) ∧ μ' 62 0 0 = (μ 7 (xs (i + 1)) (xs (i + 2))) ∧ al μ' = al μ ∧ PB2 μ μ') ∧ ((¬ ((0 ≤ (xs (i + 1)) ∧ (xs (i + 1)) ≤ 5) ∧ (0 ≤ (xs (i + 2)) ∧ (xs (i + 2)) ≤ 3))) → ov = some (vI 1) ∧ μ' = μ) := hq
  obtain ⟨kk, hov, hP1, hpre, hcal⟩ := cal_position hJ h0 hB hq
  rw [hov]
  clear hov hq
  rename Mm => M1
  show LW b L xs ER ET 1195 (n + 2) [some (vX b), some (vR 0 0), some (vR 38 0), some (vR 62 0), some (vI i), none, none, none] [vI kk] M1
  refine run_k 13 ?_
  show (b = b) ∧ ((0 ≤ (w32 (i + 1)) ∧ (w32 (i + 1)) < L) ∧ ((b = b) ∧ ((0 ≤ (w32 (i + 2)) ∧ (w32 (i + 2)) < L) ∧ (bT _ (∃ σ : Mm, cl_X5_position.2.2.1 σ [vR 38 0, vI (xs (w32 (i + 1))), vI (xs (w32 (i + 2)))] M1 ∧ (∀ ov μ', cl_X5_position.2.2.2.1 σ [vR 38 0, vI (xs (w32 (i + 1))), vI (xs (w32 (i + 2)))] M1 ov μ' → LW b L xs ER ET 1213 (n + 2) [some (vX b), some (vR 0 0), some (vR 38 0), some (vR 62 0), some (vI i), some (vI kk), none, none] (ov.toList ++ []) μ') ∧ ∀ kx, cl_X5_position.2.2.2.2 σ [vR 38 0, vI (xs (w32 (i + 1))), vI (xs (w32 (i + 2)))] M1 kx → thr cd_L_law ET (LW b L xs ER ET) 1210 (n + 2) [some (vX b), some (vR 0 0), some (vR 38 0), some (vR 62 0), some (vI i), some (vI kk), none, none] M1 kx)))))
  rw [show w32 (i + 1) = i + 1 from w32_id (by simp only [in32]; omega)]
  rw [show w32 (i + 2) = i + 2 from w32_id (by simp only [in32]; omega)]
  refine ⟨rfl, ?_⟩
  refine ⟨by omega, ?_⟩
  refine ⟨rfl, ?_⟩
  refine ⟨by omega, ?_⟩
  refine bT_3 rfl rfl (Nat.ble_eq_true_of_le (show _ ≤ (20000 : Nat) from by omega)) ?_
  refine ⟨μ, ⟨rfl, show Wk M1 ∧ Xk M1 from ⟨hpre.1, hpre.2⟩⟩, fun ov μ' hq => ?_, fun k hk => hk.elim⟩
  obtain ⟨bv, hov2, hJ2, hth, hbv⟩ := hcal ov μ' hq
  rw [hov2]
  clear hov2 hq
  rename Mm => M2
  show LW b L xs ER ET 1213 (n + 2) [some (vX b), some (vR 0 0), some (vR 38 0), some (vR 62 0), some (vI i), some (vI kk), none, none] [vI bv] M2
  refine run_k 3 ?_
  show bT _ (∃ σ : Mm, cl_X5_thrown.2.2.1 σ [vR 38 0] M2 ∧ (∀ ov μ', cl_X5_thrown.2.2.2.1 σ [vR 38 0] M2 ov μ' → LW b L xs ER ET 1219 (n + 2) [some (vX b), some (vR 0 0), some (vR 38 0), some (vR 62 0), some (vI i), some (vI kk), some (vI bv), none] (ov.toList ++ []) μ') ∧ ∀ kx, cl_X5_thrown.2.2.2.2 σ [vR 38 0] M2 kx → thr cd_L_law ET (LW b L xs ER ET) 1216 (n + 2) [some (vX b), some (vR 0 0), some (vR 38 0), some (vR 62 0), some (vI i), some (vI kk), some (vI bv), none] M2 kx)
  refine bT_3 rfl rfl (Nat.ble_eq_true_of_le (show _ ≤ (20000 : Nat) from by omega)) ?_
  refine ⟨μ, ⟨rfl, show True from True.intro⟩, fun ov μ' hq => ?_, fun k hk => hk.elim⟩
  obtain ⟨hov3, hmu⟩ : ov = some (vI (M2 38 0 0)) ∧ μ' = M2 := hq
  rw [hov3, hmu, hth]
  show LW b L xs ER ET 1219 (n + 2) [some (vX b), some (vR 0 0), some (vR 38 0), some (vR 62 0), some (vI i), some (vI kk), some (vI bv), none] [vI kk] M2
  refine run_k 2 ?_
  show (kk = kk → LW b L xs ER ET 1226 (n + 2) [some (vX b), some (vR 0 0), some (vR 38 0), some (vR 62 0), some (vI i), some (vI kk), some (vI bv), none] [] M2) ∧ (kk ≠ kk → LW b L xs ER ET 1224 (n + 2) [some (vX b), some (vR 0 0), some (vR 38 0), some (vR 62 0), some (vI i), some (vI kk), some (vI bv), none] [] M2)
  refine ⟨fun c4 => ?_, fun c4 => ?_⟩
  · refine run_k 2 ?_
    show (kk ≠ 0 → LW b L xs ER ET 1243 (n + 2) [some (vX b), some (vR 0 0), some (vR 38 0), some (vR 62 0), some (vI i), some (vI kk), some (vI bv), none] [] M2) ∧ (kk = 0 → LW b L xs ER ET 1231 (n + 2) [some (vX b), some (vR 0 0), some (vR 38 0), some (vR 62 0), some (vI i), some (vI kk), some (vI bv), none] [] M2)
    refine ⟨fun c5 => ?_, fun c5 => ?_⟩
    · refine run_k 1 ?_
      show LW b L xs ER ET 1787 (n + 2) [some (vX b), some (vR 0 0), some (vR 38 0), some (vR 62 0), some (vI i), some (vI kk), some (vI bv), none] [] M2
      refine run_w (L' := [some (vX b), some (vR 0 0), some (vR 38 0), some (vR 62 0), some (vI i), none, none, none]) ⟨rfl, rfl, rfl, rfl, rfl, True.intro⟩ ?_
      exact hN _ _ hJ2 (by omega) (by omega)
    · refine run_k 7 ?_
      show (0 ≤ 0 ∧ 0 < 1) ∧ (((cmpL (M2 62 0 0) bv) = 0 → LW b L xs ER ET 1243 (n + 2) [some (vX b), some (vR 0 0), some (vR 38 0), some (vR 62 0), some (vI i), some (vI kk), some (vI bv), none] [] M2) ∧ ((cmpL (M2 62 0 0) bv) ≠ 0 → LW b L xs ER ET 1241 (n + 2) [some (vX b), some (vR 0 0), some (vR 38 0), some (vR 62 0), some (vI i), some (vI kk), some (vI bv), none] [] M2))
      refine ⟨by omega, ?_⟩
      refine ⟨fun c7 => ?_, fun c7 => ?_⟩
      · refine run_k 1 ?_
        show LW b L xs ER ET 1787 (n + 2) [some (vX b), some (vR 0 0), some (vR 38 0), some (vR 62 0), some (vI i), some (vI kk), some (vI bv), none] [] M2
        refine run_w (L' := [some (vX b), some (vR 0 0), some (vR 38 0), some (vR 62 0), some (vI i), none, none, none]) ⟨rfl, rfl, rfl, rfl, rfl, True.intro⟩ ?_
        exact hN _ _ hJ2 (by omega) (by omega)
      · refine run_k 2 ?_
        show bT _ ((0 = 0 ∨ 0 = 1) ∧ ER (some (vI 0)) M2)
        refine bT_i (Nat.ble_eq_true_of_le (show _ ≤ (20000 : Nat) from by omega)) ?_
        refine ⟨by omega, ?_⟩
        exfalso
        first | omega | exact absurd (hbv (by omega)) (cmpL_ne (by assumption)) | (have hz := hbv (by omega); have hz2 := cmpL_ne (by assumption); omega)
  · refine run_k 2 ?_
    show bT _ ((0 = 0 ∨ 0 = 1) ∧ ER (some (vI 0)) M2)
    refine bT_i (Nat.ble_eq_true_of_le (show _ ≤ (20000 : Nat) from by omega)) ?_
    refine ⟨by omega, ?_⟩
    exfalso
    first | omega | exact absurd (hbv (by omega)) (cmpL_ne (by assumption)) | (have hz := hbv (by omega); have hz2 := cmpL_ne (by assumption); omega)
set_option maxHeartbeats 4000000 in
set_option maxRecDepth 20000 in
theorem law_16 {b : Nat} {L : Int} {xs : Int → Int} {ER : Option AV → Mm → Prop} {ET : Nat → Mm → Prop} {B : Int} {μ : Mm} {i : Int} {n : Nat} (hJ : J B μ) (h0 : 0 ≤ B) (hB : B ≤ 8000000000000000000) (hi : 0 ≤ i ∧ i + 5 ≤ L) (hL : L ≤ 2560) (hn : n ≤ 19000) (hN : ∀ (μ' : Mm) (n' : Nat), J (B + 10000000000000000) μ' → n ≤ n' → n' ≤ n + 5 → LW b L xs ER ET 1787 n' [some (vX b), some (vR 0 0), some (vR 38 0), some (vR 62 0), some (vI i), none, none, none] [] μ') : LW b L xs ER ET 1246 n [some (vX b), some (vR 0 0), some (vR 38 0), some (vR 62 0), some (vI i), none, none, none] [] μ := by
  refine run_k 13 ?_
  show (b = b) ∧ ((0 ≤ (w32 (i + 1)) ∧ (w32 (i + 1)) < L) ∧ ((b = b) ∧ ((0 ≤ (w32 (i + 2)) ∧ (w32 (i + 2)) < L) ∧ (bT _ (∃ σ : Mm, cl_L_part.2.2.1 σ [vR 0 0, vI (xs (w32 (i + 1))), vI (xs (w32 (i + 2))), vR 62 0] μ ∧ (∀ ov μ', cl_L_part.2.2.2.1 σ [vR 0 0, vI (xs (w32 (i + 1))), vI (xs (w32 (i + 2))), vR 62 0] μ ov μ' → LW b L xs ER ET 1263 (n + 2) [some (vX b), some (vR 0 0), some (vR 38 0), some (vR 62 0), some (vI i), none, none, none] (ov.toList ++ []) μ') ∧ ∀ kx, cl_L_part.2.2.2.2 σ [vR 0 0, vI (xs (w32 (i + 1))), vI (xs (w32 (i + 2))), vR 62 0] μ kx → thr cd_L_law ET (LW b L xs ER ET) 1260 (n + 2) [some (vX b), some (vR 0 0), some (vR 38 0), some (vR 62 0), some (vI i), none, none, none] μ kx)))))
  rw [show w32 (i + 1) = i + 1 from w32_id (by simp only [in32]; omega)]
  rw [show w32 (i + 2) = i + 2 from w32_id (by simp only [in32]; omega)]
  refine ⟨rfl, ?_⟩
  refine ⟨by omega, ?_⟩
  refine ⟨rfl, ?_⟩
  refine ⟨by omega, ?_⟩
  refine bT_3 rfl rfl (Nat.ble_eq_true_of_le (show _ ≤ (20000 : Nat) from by omega)) ?_
  refine ⟨μ, ⟨rfl, show CV μ from hJ.1⟩, fun ov μ' hq => ?_, fun k hk => hk.elim⟩
  have hq : ((((0 ≤ (xs (i + 1)) ∧ (xs (i + 1)) ≤ 5) ∧ (0 ≤ (xs (i + 2)) ∧ (xs (i + 2)) ≤ 3))) → ov = some (vI 0) ∧ μ' 62 0 0 = (partF (al μ) (xs (i + 1)) (xs (i + 2))) ∧ al μ' = al μ ∧ PB2 μ μ') ∧ ((¬ ((0 ≤ (xs (i + 1)) ∧ (xs (i + 1)) ≤ 5) ∧ (0 ≤ (xs (i + 2)) ∧ (xs (i + 2)) ≤ 3))) → ov = some (vI 1) ∧ μ' = μ) := hq
  obtain ⟨kk, hov, hP1, hpre, hcal⟩ := cal_part hJ h0 hB hq
  rw [hov]
  clear hov hq
  rename Mm => M1
  show LW b L xs ER ET 1263 (n + 2) [some (vX b), some (vR 0 0), some (vR 38 0), some (vR 62 0), some (vI i), none, none, none] [vI kk] M1
  refine run_k 13 ?_
  show (b = b) ∧ ((0 ≤ (w32 (i + 1)) ∧ (w32 (i + 1)) < L) ∧ ((b = b) ∧ ((0 ≤ (w32 (i + 2)) ∧ (w32 (i + 2)) < L) ∧ (bT _ (∃ σ : Mm, cl_X5_part.2.2.1 σ [vR 38 0, vI (xs (w32 (i + 1))), vI (xs (w32 (i + 2)))] M1 ∧ (∀ ov μ', cl_X5_part.2.2.2.1 σ [vR 38 0, vI (xs (w32 (i + 1))), vI (xs (w32 (i + 2)))] M1 ov μ' → LW b L xs ER ET 1281 (n + 2) [some (vX b), some (vR 0 0), some (vR 38 0), some (vR 62 0), some (vI i), some (vI kk), none, none] (ov.toList ++ []) μ') ∧ ∀ kx, cl_X5_part.2.2.2.2 σ [vR 38 0, vI (xs (w32 (i + 1))), vI (xs (w32 (i + 2)))] M1 kx → thr cd_L_law ET (LW b L xs ER ET) 1278 (n + 2) [some (vX b), some (vR 0 0), some (vR 38 0), some (vR 62 0), some (vI i), some (vI kk), none, none] M1 kx)))))
  rw [show w32 (i + 1) = i + 1 from w32_id (by simp only [in32]; omega)]
  rw [show w32 (i + 2) = i + 2 from w32_id (by simp only [in32]; omega)]
  refine ⟨rfl, ?_⟩
  refine ⟨by omega, ?_⟩
  refine ⟨rfl, ?_⟩
  refine ⟨by omega, ?_⟩
  refine bT_3 rfl rfl (Nat.ble_eq_true_of_le (show _ ≤ (20000 : Nat) from by omega)) ?_
  refine ⟨μ, ⟨rfl, show Wk M1 ∧ Xk M1 from ⟨hpre.1, hpre.2⟩⟩, fun ov μ' hq => ?_, fun k hk => hk.elim⟩
  obtain ⟨bv, hov2, hJ2, hth, hbv⟩ := hcal ov μ' hq
  rw [hov2]
  clear hov2 hq
  rename Mm => M2
  show LW b L xs ER ET 1281 (n + 2) [some (vX b), some (vR 0 0), some (vR 38 0), some (vR 62 0), some (vI i), some (vI kk), none, none] [vI bv] M2
  refine run_k 3 ?_
  show bT _ (∃ σ : Mm, cl_X5_thrown.2.2.1 σ [vR 38 0] M2 ∧ (∀ ov μ', cl_X5_thrown.2.2.2.1 σ [vR 38 0] M2 ov μ' → LW b L xs ER ET 1287 (n + 2) [some (vX b), some (vR 0 0), some (vR 38 0), some (vR 62 0), some (vI i), some (vI kk), some (vI bv), none] (ov.toList ++ []) μ') ∧ ∀ kx, cl_X5_thrown.2.2.2.2 σ [vR 38 0] M2 kx → thr cd_L_law ET (LW b L xs ER ET) 1284 (n + 2) [some (vX b), some (vR 0 0), some (vR 38 0), some (vR 62 0), some (vI i), some (vI kk), some (vI bv), none] M2 kx)
  refine bT_3 rfl rfl (Nat.ble_eq_true_of_le (show _ ≤ (20000 : Nat) from by omega)) ?_
  refine ⟨μ, ⟨rfl, show True from True.intro⟩, fun ov μ' hq => ?_, fun k hk => hk.elim⟩
  obtain ⟨hov3, hmu⟩ : ov = some (vI (M2 38 0 0)) ∧ μ' = M2 := hq
  rw [hov3, hmu, hth]
  show LW b L xs ER ET 1287 (n + 2) [some (vX b), some (vR 0 0), some (vR 38 0), some (vR 62 0), some (vI i), some (vI kk), some (vI bv), none] [vI kk] M2
  refine run_k 2 ?_
  show (kk = kk → LW b L xs ER ET 1294 (n + 2) [some (vX b), some (vR 0 0), some (vR 38 0), some (vR 62 0), some (vI i), some (vI kk), some (vI bv), none] [] M2) ∧ (kk ≠ kk → LW b L xs ER ET 1292 (n + 2) [some (vX b), some (vR 0 0), some (vR 38 0), some (vR 62 0), some (vI i), some (vI kk), some (vI bv), none] [] M2)
  refine ⟨fun c4 => ?_, fun c4 => ?_⟩
  · refine run_k 2 ?_
    show (kk ≠ 0 → LW b L xs ER ET 1311 (n + 2) [some (vX b), some (vR 0 0), some (vR 38 0), some (vR 62 0), some (vI i), some (vI kk), some (vI bv), none] [] M2) ∧ (kk = 0 → LW b L xs ER ET 1299 (n + 2) [some (vX b), some (vR 0 0), some (vR 38 0), some (vR 62 0), some (vI i), some (vI kk), some (vI bv), none] [] M2)
    refine ⟨fun c5 => ?_, fun c5 => ?_⟩
    · refine run_k 1 ?_
      show LW b L xs ER ET 1787 (n + 2) [some (vX b), some (vR 0 0), some (vR 38 0), some (vR 62 0), some (vI i), some (vI kk), some (vI bv), none] [] M2
      refine run_w (L' := [some (vX b), some (vR 0 0), some (vR 38 0), some (vR 62 0), some (vI i), none, none, none]) ⟨rfl, rfl, rfl, rfl, rfl, True.intro⟩ ?_
      exact hN _ _ hJ2 (by omega) (by omega)
    · refine run_k 7 ?_
      show (0 ≤ 0 ∧ 0 < 1) ∧ (((cmpL (M2 62 0 0) bv) = 0 → LW b L xs ER ET 1311 (n + 2) [some (vX b), some (vR 0 0), some (vR 38 0), some (vR 62 0), some (vI i), some (vI kk), some (vI bv), none] [] M2) ∧ ((cmpL (M2 62 0 0) bv) ≠ 0 → LW b L xs ER ET 1309 (n + 2) [some (vX b), some (vR 0 0), some (vR 38 0), some (vR 62 0), some (vI i), some (vI kk), some (vI bv), none] [] M2))
      refine ⟨by omega, ?_⟩
      refine ⟨fun c7 => ?_, fun c7 => ?_⟩
      · refine run_k 1 ?_
        show LW b L xs ER ET 1787 (n + 2) [some (vX b), some (vR 0 0), some (vR 38 0), some (vR 62 0), some (vI i), some (vI kk), some (vI bv), none] [] M2
        refine run_w (L' := [some (vX b), some (vR 0 0), some (vR 38 0), some (vR 62 0), some (vI i), none, none, none]) ⟨rfl, rfl, rfl, rfl, rfl, True.intro⟩ ?_
        exact hN _ _ hJ2 (by omega) (by omega)
      · refine run_k 2 ?_
        show bT _ ((0 = 0 ∨ 0 = 1) ∧ ER (some (vI 0)) M2)
        refine bT_i (Nat.ble_eq_true_of_le (show _ ≤ (20000 : Nat) from by omega)) ?_
        refine ⟨by omega, ?_⟩
        exfalso
        first | omega | exact absurd (hbv (by omega)) (cmpL_ne (by assumption)) | (have hz := hbv (by omega); have hz2 := cmpL_ne (by assumption); omega)
  · refine run_k 2 ?_
    show bT _ ((0 = 0 ∨ 0 = 1) ∧ ER (some (vI 0)) M2)
    refine bT_i (Nat.ble_eq_true_of_le (show _ ≤ (20000 : Nat) from by omega)) ?_
    refine ⟨by omega, ?_⟩
    exfalso
    first | omega | exact absurd (hbv (by omega)) (cmpL_ne (by assumption)) | (have hz := hbv (by omega); have hz2 := cmpL_ne (by assumption); omega)
set_option maxHeartbeats 4000000 in
set_option maxRecDepth 20000 in
theorem law_17 {b : Nat} {L : Int} {xs : Int → Int} {ER : Option AV → Mm → Prop} {ET : Nat → Mm → Prop} {B : Int} {μ : Mm} {i : Int} {n : Nat} (hJ : J B μ) (h0 : 0 ≤ B) (hB : B ≤ 8000000000000000000) (hi : 0 ≤ i ∧ i + 5 ≤ L) (hL : L ≤ 2560) (hn : n ≤ 19000) (hN : ∀ (μ' : Mm) (n' : Nat), J (B + 10000000000000000) μ' → n ≤ n' → n' ≤ n + 5 → LW b L xs ER ET 1787 n' [some (vX b), some (vR 0 0), some (vR 38 0), some (vR 62 0), some (vI i), none, none, none] [] μ') : LW b L xs ER ET 1314 n [some (vX b), some (vR 0 0), some (vR 38 0), some (vR 62 0), some (vI i), none, none, none] [] μ := by
  refine run_k 13 ?_
  show (b = b) ∧ ((0 ≤ (w32 (i + 1)) ∧ (w32 (i + 1)) < L) ∧ ((b = b) ∧ ((0 ≤ (w32 (i + 2)) ∧ (w32 (i + 2)) < L) ∧ (bT _ (∃ σ : Mm, cl_L_partAnew.2.2.1 σ [vR 0 0, vI (xs (w32 (i + 1))), vI (xs (w32 (i + 2))), vR 62 0] μ ∧ (∀ ov μ', cl_L_partAnew.2.2.2.1 σ [vR 0 0, vI (xs (w32 (i + 1))), vI (xs (w32 (i + 2))), vR 62 0] μ ov μ' → LW b L xs ER ET 1331 (n + 2) [some (vX b), some (vR 0 0), some (vR 38 0), some (vR 62 0), some (vI i), none, none, none] (ov.toList ++ []) μ') ∧ ∀ kx, cl_L_partAnew.2.2.2.2 σ [vR 0 0, vI (xs (w32 (i + 1))), vI (xs (w32 (i + 2))), vR 62 0] μ kx → thr cd_L_law ET (LW b L xs ER ET) 1328 (n + 2) [some (vX b), some (vR 0 0), some (vR 38 0), some (vR 62 0), some (vI i), none, none, none] μ kx)))))
  rw [show w32 (i + 1) = i + 1 from w32_id (by simp only [in32]; omega)]
  rw [show w32 (i + 2) = i + 2 from w32_id (by simp only [in32]; omega)]
  refine ⟨rfl, ?_⟩
  refine ⟨by omega, ?_⟩
  refine ⟨rfl, ?_⟩
  refine ⟨by omega, ?_⟩
  refine bT_3 rfl rfl (Nat.ble_eq_true_of_le (show _ ≤ (20000 : Nat) from by omega)) ?_
  refine ⟨μ, ⟨rfl, show CV μ from hJ.1⟩, fun ov μ' hq => ?_, fun k hk => hk.elim⟩
  have hq : ((((0 ≤ (xs (i + 1)) ∧ (xs (i + 1)) ≤ 5) ∧ (0 ≤ (xs (i + 2)) ∧ (xs (i + 2)) ≤ 3))) → ov = some (vI 0) ∧ μ' 62 0 0 = (partF (al μ) (xs (i + 1)) (xs (i + 2))) ∧ al μ' = al μ ∧ PB2 μ μ') ∧ ((¬ ((0 ≤ (xs (i + 1)) ∧ (xs (i + 1)) ≤ 5) ∧ (0 ≤ (xs (i + 2)) ∧ (xs (i + 2)) ≤ 3))) → ov = some (vI 1) ∧ μ' = μ) := hq
  obtain ⟨kk, hov, hP1, hpre, hcal⟩ := cal_partAnew hJ h0 hB hq
  rw [hov]
  clear hov hq
  rename Mm => M1
  show LW b L xs ER ET 1331 (n + 2) [some (vX b), some (vR 0 0), some (vR 38 0), some (vR 62 0), some (vI i), none, none, none] [vI kk] M1
  refine run_k 13 ?_
  show (b = b) ∧ ((0 ≤ (w32 (i + 1)) ∧ (w32 (i + 1)) < L) ∧ ((b = b) ∧ ((0 ≤ (w32 (i + 2)) ∧ (w32 (i + 2)) < L) ∧ (bT _ (∃ σ : Mm, cl_X5_partAnew.2.2.1 σ [vR 38 0, vI (xs (w32 (i + 1))), vI (xs (w32 (i + 2)))] M1 ∧ (∀ ov μ', cl_X5_partAnew.2.2.2.1 σ [vR 38 0, vI (xs (w32 (i + 1))), vI (xs (w32 (i + 2)))] M1 ov μ' → LW b L xs ER ET 1349 (n + 2) [some (vX b), some (vR 0 0), some (vR 38 0), some (vR 62 0), some (vI i), some (vI kk), none, none] (ov.toList ++ []) μ') ∧ ∀ kx, cl_X5_partAnew.2.2.2.2 σ [vR 38 0, vI (xs (w32 (i + 1))), vI (xs (w32 (i + 2)))] M1 kx → thr cd_L_law ET (LW b L xs ER ET) 1346 (n + 2) [some (vX b), some (vR 0 0), some (vR 38 0), some (vR 62 0), some (vI i), some (vI kk), none, none] M1 kx)))))
  rw [show w32 (i + 1) = i + 1 from w32_id (by simp only [in32]; omega)]
  rw [show w32 (i + 2) = i + 2 from w32_id (by simp only [in32]; omega)]
  refine ⟨rfl, ?_⟩
  refine ⟨by omega, ?_⟩
  refine ⟨rfl, ?_⟩
  refine ⟨by omega, ?_⟩
  refine bT_3 rfl rfl (Nat.ble_eq_true_of_le (show _ ≤ (20000 : Nat) from by omega)) ?_
  refine ⟨μ, ⟨rfl, show Wk M1 ∧ Xk M1 from ⟨hpre.1, hpre.2⟩⟩, fun ov μ' hq => ?_, fun k hk => hk.elim⟩
  obtain ⟨bv, hov2, hJ2, hth, hbv⟩ := hcal ov μ' hq
  rw [hov2]
  clear hov2 hq
  rename Mm => M2
  show LW b L xs ER ET 1349 (n + 2) [some (vX b), some (vR 0 0), some (vR 38 0), some (vR 62 0), some (vI i), some (vI kk), none, none] [vI bv] M2
  refine run_k 3 ?_
  show bT _ (∃ σ : Mm, cl_X5_thrown.2.2.1 σ [vR 38 0] M2 ∧ (∀ ov μ', cl_X5_thrown.2.2.2.1 σ [vR 38 0] M2 ov μ' → LW b L xs ER ET 1355 (n + 2) [some (vX b), some (vR 0 0), some (vR 38 0), some (vR 62 0), some (vI i), some (vI kk), some (vI bv), none] (ov.toList ++ []) μ') ∧ ∀ kx, cl_X5_thrown.2.2.2.2 σ [vR 38 0] M2 kx → thr cd_L_law ET (LW b L xs ER ET) 1352 (n + 2) [some (vX b), some (vR 0 0), some (vR 38 0), some (vR 62 0), some (vI i), some (vI kk), some (vI bv), none] M2 kx)
  refine bT_3 rfl rfl (Nat.ble_eq_true_of_le (show _ ≤ (20000 : Nat) from by omega)) ?_
  refine ⟨μ, ⟨rfl, show True from True.intro⟩, fun ov μ' hq => ?_, fun k hk => hk.elim⟩
  obtain ⟨hov3, hmu⟩ : ov = some (vI (M2 38 0 0)) ∧ μ' = M2 := hq
  rw [hov3, hmu, hth]
  show LW b L xs ER ET 1355 (n + 2) [some (vX b), some (vR 0 0), some (vR 38 0), some (vR 62 0), some (vI i), some (vI kk), some (vI bv), none] [vI kk] M2
  refine run_k 2 ?_
  show (kk = kk → LW b L xs ER ET 1362 (n + 2) [some (vX b), some (vR 0 0), some (vR 38 0), some (vR 62 0), some (vI i), some (vI kk), some (vI bv), none] [] M2) ∧ (kk ≠ kk → LW b L xs ER ET 1360 (n + 2) [some (vX b), some (vR 0 0), some (vR 38 0), some (vR 62 0), some (vI i), some (vI kk), some (vI bv), none] [] M2)
  refine ⟨fun c4 => ?_, fun c4 => ?_⟩
  · refine run_k 2 ?_
    show (kk ≠ 0 → LW b L xs ER ET 1379 (n + 2) [some (vX b), some (vR 0 0), some (vR 38 0), some (vR 62 0), some (vI i), some (vI kk), some (vI bv), none] [] M2) ∧ (kk = 0 → LW b L xs ER ET 1367 (n + 2) [some (vX b), some (vR 0 0), some (vR 38 0), some (vR 62 0), some (vI i), some (vI kk), some (vI bv), none] [] M2)
    refine ⟨fun c5 => ?_, fun c5 => ?_⟩
    · refine run_k 1 ?_
      show LW b L xs ER ET 1787 (n + 2) [some (vX b), some (vR 0 0), some (vR 38 0), some (vR 62 0), some (vI i), some (vI kk), some (vI bv), none] [] M2
      refine run_w (L' := [some (vX b), some (vR 0 0), some (vR 38 0), some (vR 62 0), some (vI i), none, none, none]) ⟨rfl, rfl, rfl, rfl, rfl, True.intro⟩ ?_
      exact hN _ _ hJ2 (by omega) (by omega)
    · refine run_k 7 ?_
      show (0 ≤ 0 ∧ 0 < 1) ∧ (((cmpL (M2 62 0 0) bv) = 0 → LW b L xs ER ET 1379 (n + 2) [some (vX b), some (vR 0 0), some (vR 38 0), some (vR 62 0), some (vI i), some (vI kk), some (vI bv), none] [] M2) ∧ ((cmpL (M2 62 0 0) bv) ≠ 0 → LW b L xs ER ET 1377 (n + 2) [some (vX b), some (vR 0 0), some (vR 38 0), some (vR 62 0), some (vI i), some (vI kk), some (vI bv), none] [] M2))
      refine ⟨by omega, ?_⟩
      refine ⟨fun c7 => ?_, fun c7 => ?_⟩
      · refine run_k 1 ?_
        show LW b L xs ER ET 1787 (n + 2) [some (vX b), some (vR 0 0), some (vR 38 0), some (vR 62 0), some (vI i), some (vI kk), some (vI bv), none] [] M2
        refine run_w (L' := [some (vX b), some (vR 0 0), some (vR 38 0), some (vR 62 0), some (vI i), none, none, none]) ⟨rfl, rfl, rfl, rfl, rfl, True.intro⟩ ?_
        exact hN _ _ hJ2 (by omega) (by omega)
      · refine run_k 2 ?_
        show bT _ ((0 = 0 ∨ 0 = 1) ∧ ER (some (vI 0)) M2)
        refine bT_i (Nat.ble_eq_true_of_le (show _ ≤ (20000 : Nat) from by omega)) ?_
        refine ⟨by omega, ?_⟩
        exfalso
        first | omega | exact absurd (hbv (by omega)) (cmpL_ne (by assumption)) | (have hz := hbv (by omega); have hz2 := cmpL_ne (by assumption); omega)
  · refine run_k 2 ?_
    show bT _ ((0 = 0 ∨ 0 = 1) ∧ ER (some (vI 0)) M2)
    refine bT_i (Nat.ble_eq_true_of_le (show _ ≤ (20000 : Nat) from by omega)) ?_
    refine ⟨by omega, ?_⟩
    exfalso
    first | omega | exact absurd (hbv (by omega)) (cmpL_ne (by assumption)) | (have hz := hbv (by omega); have hz2 := cmpL_ne (by assumption); omega)
set_option maxHeartbeats 4000000 in
set_option maxRecDepth 20000 in
theorem law_18 {b : Nat} {L : Int} {xs : Int → Int} {ER : Option AV → Mm → Prop} {ET : Nat → Mm → Prop} {B : Int} {μ : Mm} {i : Int} {n : Nat} (hJ : J B μ) (h0 : 0 ≤ B) (hB : B ≤ 8000000000000000000) (hi : 0 ≤ i ∧ i + 5 ≤ L) (hL : L ≤ 2560) (hn : n ≤ 19000) (hN : ∀ (μ' : Mm) (n' : Nat), J (B + 10000000000000000) μ' → n ≤ n' → n' ≤ n + 5 → LW b L xs ER ET 1787 n' [some (vX b), some (vR 0 0), some (vR 38 0), some (vR 62 0), some (vI i), none, none, none] [] μ') : LW b L xs ER ET 1382 n [some (vX b), some (vR 0 0), some (vR 38 0), some (vR 62 0), some (vI i), none, none, none] [] μ := by
  refine run_k 13 ?_
  show (b = b) ∧ ((0 ≤ (w32 (i + 1)) ∧ (w32 (i + 1)) < L) ∧ ((b = b) ∧ ((0 ≤ (w32 (i + 2)) ∧ (w32 (i + 2)) < L) ∧ (bT _ (∃ σ : Mm, cl_L_clientOf.2.2.1 σ [vR 0 0, vI (xs (w32 (i + 1))), vI (xs (w32 (i + 2))), vR 62 0] μ ∧ (∀ ov μ', cl_L_clientOf.2.2.2.1 σ [vR 0 0, vI (xs (w32 (i + 1))), vI (xs (w32 (i + 2))), vR 62 0] μ ov μ' → LW b L xs ER ET 1399 (n + 3) [some (vX b), some (vR 0 0), some (vR 38 0), some (vR 62 0), some (vI i), none, none, none] (ov.toList ++ []) μ') ∧ ∀ kx, cl_L_clientOf.2.2.2.2 σ [vR 0 0, vI (xs (w32 (i + 1))), vI (xs (w32 (i + 2))), vR 62 0] μ kx → thr cd_L_law ET (LW b L xs ER ET) 1396 (n + 3) [some (vX b), some (vR 0 0), some (vR 38 0), some (vR 62 0), some (vI i), none, none, none] μ kx)))))
  rw [show w32 (i + 1) = i + 1 from w32_id (by simp only [in32]; omega)]
  rw [show w32 (i + 2) = i + 2 from w32_id (by simp only [in32]; omega)]
  refine ⟨rfl, ?_⟩
  refine ⟨by omega, ?_⟩
  refine ⟨rfl, ?_⟩
  refine ⟨by omega, ?_⟩
  refine bT_3 rfl rfl (Nat.ble_eq_true_of_le (show _ ≤ (20000 : Nat) from by omega)) ?_
  refine ⟨μ, ⟨rfl, show CV μ from hJ.1⟩, fun ov μ' hq => ?_, fun k hk => hk.elim⟩
  have hq : (((0 ≤ (xs (i + 1)) ∧ (xs (i + 1)) ≤ 5) ∧ (0 ≤ (xs (i + 2)) ∧ (xs (i + 2)) ≤ 4)) → ov = some (vI 0) ∧ μ' 62 0 0 = (if (xs (i + 2)) = 0 then μ 3 0 (xs (i + 1)) else if (xs (i + 2)) = 1 then equityF (al μ) (xs (i + 1)) else if (xs (i + 2)) = 2 then needF (al μ) (xs (i + 1)) else if (xs (i + 2)) = 3 then calledF (al μ) (xs (i + 1)) else μ 5 0 (xs (i + 1))) ∧ al μ' = al μ ∧ PB2 μ μ') ∧ ((¬ (0 ≤ (xs (i + 1)) ∧ (xs (i + 1)) ≤ 5)) → ov = some (vI 1) ∧ μ' = μ) ∧ (((0 ≤ (xs (i + 1)) ∧ (xs (i + 1)) ≤ 5) ∧ ¬ (0 ≤ (xs (i + 2)) ∧ (xs (i + 2)) ≤ 4)) → ov = some (vI 2) ∧ μ' = μ) := hq
  obtain ⟨kk, hov, hP1, hpre, hcal⟩ := cal_clientOf hJ h0 hB hq
  rw [hov]
  clear hov hq
  rename Mm => M1
  show LW b L xs ER ET 1399 (n + 3) [some (vX b), some (vR 0 0), some (vR 38 0), some (vR 62 0), some (vI i), none, none, none] [vI kk] M1
  refine run_k 13 ?_
  show (b = b) ∧ ((0 ≤ (w32 (i + 1)) ∧ (w32 (i + 1)) < L) ∧ ((b = b) ∧ ((0 ≤ (w32 (i + 2)) ∧ (w32 (i + 2)) < L) ∧ (bT _ (∃ σ : Mm, cl_X5_clientOf.2.2.1 σ [vR 38 0, vI (xs (w32 (i + 1))), vI (xs (w32 (i + 2)))] M1 ∧ (∀ ov μ', cl_X5_clientOf.2.2.2.1 σ [vR 38 0, vI (xs (w32 (i + 1))), vI (xs (w32 (i + 2)))] M1 ov μ' → LW b L xs ER ET 1417 (n + 3) [some (vX b), some (vR 0 0), some (vR 38 0), some (vR 62 0), some (vI i), some (vI kk), none, none] (ov.toList ++ []) μ') ∧ ∀ kx, cl_X5_clientOf.2.2.2.2 σ [vR 38 0, vI (xs (w32 (i + 1))), vI (xs (w32 (i + 2)))] M1 kx → thr cd_L_law ET (LW b L xs ER ET) 1414 (n + 3) [some (vX b), some (vR 0 0), some (vR 38 0), some (vR 62 0), some (vI i), some (vI kk), none, none] M1 kx)))))
  rw [show w32 (i + 1) = i + 1 from w32_id (by simp only [in32]; omega)]
  rw [show w32 (i + 2) = i + 2 from w32_id (by simp only [in32]; omega)]
  refine ⟨rfl, ?_⟩
  refine ⟨by omega, ?_⟩
  refine ⟨rfl, ?_⟩
  refine ⟨by omega, ?_⟩
  refine bT_3 rfl rfl (Nat.ble_eq_true_of_le (show _ ≤ (20000 : Nat) from by omega)) ?_
  refine ⟨μ, ⟨rfl, show Wk M1 ∧ Xk M1 from ⟨hpre.1, hpre.2⟩⟩, fun ov μ' hq => ?_, fun k hk => hk.elim⟩
  obtain ⟨bv, hov2, hJ2, hth, hbv⟩ := hcal ov μ' hq
  rw [hov2]
  clear hov2 hq
  rename Mm => M2
  show LW b L xs ER ET 1417 (n + 3) [some (vX b), some (vR 0 0), some (vR 38 0), some (vR 62 0), some (vI i), some (vI kk), none, none] [vL bv] M2
  refine run_k 3 ?_
  show bT _ (∃ σ : Mm, cl_X5_thrown.2.2.1 σ [vR 38 0] M2 ∧ (∀ ov μ', cl_X5_thrown.2.2.2.1 σ [vR 38 0] M2 ov μ' → LW b L xs ER ET 1423 (n + 3) [some (vX b), some (vR 0 0), some (vR 38 0), some (vR 62 0), some (vI i), some (vI kk), some (vL bv), none] (ov.toList ++ []) μ') ∧ ∀ kx, cl_X5_thrown.2.2.2.2 σ [vR 38 0] M2 kx → thr cd_L_law ET (LW b L xs ER ET) 1420 (n + 3) [some (vX b), some (vR 0 0), some (vR 38 0), some (vR 62 0), some (vI i), some (vI kk), some (vL bv), none] M2 kx)
  refine bT_3 rfl rfl (Nat.ble_eq_true_of_le (show _ ≤ (20000 : Nat) from by omega)) ?_
  refine ⟨μ, ⟨rfl, show True from True.intro⟩, fun ov μ' hq => ?_, fun k hk => hk.elim⟩
  obtain ⟨hov3, hmu⟩ : ov = some (vI (M2 38 0 0)) ∧ μ' = M2 := hq
  rw [hov3, hmu, hth]
  show LW b L xs ER ET 1423 (n + 3) [some (vX b), some (vR 0 0), some (vR 38 0), some (vR 62 0), some (vI i), some (vI kk), some (vL bv), none] [vI kk] M2
  refine run_k 2 ?_
  show (kk = kk → LW b L xs ER ET 1430 (n + 3) [some (vX b), some (vR 0 0), some (vR 38 0), some (vR 62 0), some (vI i), some (vI kk), some (vL bv), none] [] M2) ∧ (kk ≠ kk → LW b L xs ER ET 1428 (n + 3) [some (vX b), some (vR 0 0), some (vR 38 0), some (vR 62 0), some (vI i), some (vI kk), some (vL bv), none] [] M2)
  refine ⟨fun c4 => ?_, fun c4 => ?_⟩
  · refine run_k 2 ?_
    show (kk ≠ 0 → LW b L xs ER ET 1446 (n + 3) [some (vX b), some (vR 0 0), some (vR 38 0), some (vR 62 0), some (vI i), some (vI kk), some (vL bv), none] [] M2) ∧ (kk = 0 → LW b L xs ER ET 1435 (n + 3) [some (vX b), some (vR 0 0), some (vR 38 0), some (vR 62 0), some (vI i), some (vI kk), some (vL bv), none] [] M2)
    refine ⟨fun c5 => ?_, fun c5 => ?_⟩
    · refine run_k 1 ?_
      show LW b L xs ER ET 1787 (n + 3) [some (vX b), some (vR 0 0), some (vR 38 0), some (vR 62 0), some (vI i), some (vI kk), some (vL bv), none] [] M2
      refine run_w (L' := [some (vX b), some (vR 0 0), some (vR 38 0), some (vR 62 0), some (vI i), none, none, none]) ⟨rfl, rfl, rfl, rfl, rfl, True.intro⟩ ?_
      exact hN _ _ hJ2 (by omega) (by omega)
    · refine run_k 6 ?_
      show (0 ≤ 0 ∧ 0 < 1) ∧ (((cmpL (M2 62 0 0) bv) = 0 → LW b L xs ER ET 1446 (n + 3) [some (vX b), some (vR 0 0), some (vR 38 0), some (vR 62 0), some (vI i), some (vI kk), some (vL bv), none] [] M2) ∧ ((cmpL (M2 62 0 0) bv) ≠ 0 → LW b L xs ER ET 1444 (n + 3) [some (vX b), some (vR 0 0), some (vR 38 0), some (vR 62 0), some (vI i), some (vI kk), some (vL bv), none] [] M2))
      refine ⟨by omega, ?_⟩
      refine ⟨fun c7 => ?_, fun c7 => ?_⟩
      · refine run_k 1 ?_
        show LW b L xs ER ET 1787 (n + 3) [some (vX b), some (vR 0 0), some (vR 38 0), some (vR 62 0), some (vI i), some (vI kk), some (vL bv), none] [] M2
        refine run_w (L' := [some (vX b), some (vR 0 0), some (vR 38 0), some (vR 62 0), some (vI i), none, none, none]) ⟨rfl, rfl, rfl, rfl, rfl, True.intro⟩ ?_
        exact hN _ _ hJ2 (by omega) (by omega)
      · refine run_k 2 ?_
        show bT _ ((0 = 0 ∨ 0 = 1) ∧ ER (some (vI 0)) M2)
        refine bT_i (Nat.ble_eq_true_of_le (show _ ≤ (20000 : Nat) from by omega)) ?_
        refine ⟨by omega, ?_⟩
        exfalso
        first | omega | exact absurd (hbv (by omega)) (cmpL_ne (by assumption)) | (have hz := hbv (by omega); have hz2 := cmpL_ne (by assumption); omega)
  · refine run_k 2 ?_
    show bT _ ((0 = 0 ∨ 0 = 1) ∧ ER (some (vI 0)) M2)
    refine bT_i (Nat.ble_eq_true_of_le (show _ ≤ (20000 : Nat) from by omega)) ?_
    refine ⟨by omega, ?_⟩
    exfalso
    first | omega | exact absurd (hbv (by omega)) (cmpL_ne (by assumption)) | (have hz := hbv (by omega); have hz2 := cmpL_ne (by assumption); omega)
set_option maxHeartbeats 4000000 in
set_option maxRecDepth 20000 in
theorem law_19 {b : Nat} {L : Int} {xs : Int → Int} {ER : Option AV → Mm → Prop} {ET : Nat → Mm → Prop} {B : Int} {μ : Mm} {i : Int} {n : Nat} (hJ : J B μ) (h0 : 0 ≤ B) (hB : B ≤ 8000000000000000000) (hi : 0 ≤ i ∧ i + 5 ≤ L) (hL : L ≤ 2560) (hn : n ≤ 19000) (hN : ∀ (μ' : Mm) (n' : Nat), J (B + 10000000000000000) μ' → n ≤ n' → n' ≤ n + 5 → LW b L xs ER ET 1787 n' [some (vX b), some (vR 0 0), some (vR 38 0), some (vR 62 0), some (vI i), none, none, none] [] μ') : LW b L xs ER ET 1449 n [some (vX b), some (vR 0 0), some (vR 38 0), some (vR 62 0), some (vI i), none, none, none] [] μ := by
  refine run_k 18 ?_
  show (b = b) ∧ ((0 ≤ (w32 (i + 1)) ∧ (w32 (i + 1)) < L) ∧ ((b = b) ∧ ((0 ≤ (w32 (i + 2)) ∧ (w32 (i + 2)) < L) ∧ ((b = b) ∧ ((0 ≤ (w32 (i + 3)) ∧ (w32 (i + 3)) < L) ∧ (bT _ (∃ σ : Mm, cl_L_lenderOf.2.2.1 σ [vR 0 0, vI (xs (w32 (i + 1))), vI (xs (w32 (i + 2))), vI (xs (w32 (i + 3))), vR 62 0] μ ∧ (∀ ov μ', cl_L_lenderOf.2.2.2.1 σ [vR 0 0, vI (xs (w32 (i + 1))), vI (xs (w32 (i + 2))), vI (xs (w32 (i + 3))), vR 62 0] μ ov μ' → LW b L xs ER ET 1472 (n + 3) [some (vX b), some (vR 0 0), some (vR 38 0), some (vR 62 0), some (vI i), none, none, none] (ov.toList ++ []) μ') ∧ ∀ kx, cl_L_lenderOf.2.2.2.2 σ [vR 0 0, vI (xs (w32 (i + 1))), vI (xs (w32 (i + 2))), vI (xs (w32 (i + 3))), vR 62 0] μ kx → thr cd_L_law ET (LW b L xs ER ET) 1469 (n + 3) [some (vX b), some (vR 0 0), some (vR 38 0), some (vR 62 0), some (vI i), none, none, none] μ kx)))))))
  rw [show w32 (i + 1) = i + 1 from w32_id (by simp only [in32]; omega)]
  rw [show w32 (i + 2) = i + 2 from w32_id (by simp only [in32]; omega)]
  rw [show w32 (i + 3) = i + 3 from w32_id (by simp only [in32]; omega)]
  refine ⟨rfl, ?_⟩
  refine ⟨by omega, ?_⟩
  refine ⟨rfl, ?_⟩
  refine ⟨by omega, ?_⟩
  refine ⟨rfl, ?_⟩
  refine ⟨by omega, ?_⟩
  refine bT_3 rfl rfl (Nat.ble_eq_true_of_le (show _ ≤ (20000 : Nat) from by omega)) ?_
  refine ⟨μ, ⟨rfl, show CV μ from hJ.1⟩, fun ov μ' hq => ?_, fun k hk => hk.elim⟩
  have hq : ((((0 ≤ (xs (i + 1)) ∧ (xs (i + 1)) ≤ 3) ∧ (0 ≤ (xs (i + 2)) ∧ (xs (i + 2)) ≤ 3)) ∧ (0 ≤ (xs (i + 3)) ∧ (xs (i + 3)) ≤ 3)) → ov = some (vI 0) ∧ μ' 62 0 0 = (if (xs (i + 3)) = 0 then μ 9 (xs (i + 1)) (xs (i + 2)) else if (xs (i + 3)) = 1 then lentF (al μ) (10 + (xs (i + 1))) (xs (i + 2)) else if (xs (i + 3)) = 2 then μ 11 (xs (i + 1)) (xs (i + 2)) else μ 12 0 (xs (i + 1))) ∧ al μ' = al μ ∧ PB2 μ μ') ∧ ((¬ ((0 ≤ (xs (i + 1)) ∧ (xs (i + 1)) ≤ 3) ∧ (0 ≤ (xs (i + 2)) ∧ (xs (i + 2)) ≤ 3))) → ov = some (vI 1) ∧ μ' = μ) ∧ ((((0 ≤ (xs (i + 1)) ∧ (xs (i + 1)) ≤ 3) ∧ (0 ≤ (xs (i + 2)) ∧ (xs (i + 2)) ≤ 3)) ∧ ¬ (0 ≤ (xs (i + 3)) ∧ (xs (i + 3)) ≤ 3)) → ov = some (vI 2) ∧ μ' = μ) := hq
  obtain ⟨kk, hov, hP1, hpre, hcal⟩ := cal_lenderOf hJ h0 hB hq
  rw [hov]
  clear hov hq
  rename Mm => M1
  show LW b L xs ER ET 1472 (n + 3) [some (vX b), some (vR 0 0), some (vR 38 0), some (vR 62 0), some (vI i), none, none, none] [vI kk] M1
  refine run_k 18 ?_
  show (b = b) ∧ ((0 ≤ (w32 (i + 1)) ∧ (w32 (i + 1)) < L) ∧ ((b = b) ∧ ((0 ≤ (w32 (i + 2)) ∧ (w32 (i + 2)) < L) ∧ ((b = b) ∧ ((0 ≤ (w32 (i + 3)) ∧ (w32 (i + 3)) < L) ∧ (bT _ (∃ σ : Mm, cl_X5_lenderOf.2.2.1 σ [vR 38 0, vI (xs (w32 (i + 1))), vI (xs (w32 (i + 2))), vI (xs (w32 (i + 3)))] M1 ∧ (∀ ov μ', cl_X5_lenderOf.2.2.2.1 σ [vR 38 0, vI (xs (w32 (i + 1))), vI (xs (w32 (i + 2))), vI (xs (w32 (i + 3)))] M1 ov μ' → LW b L xs ER ET 1496 (n + 3) [some (vX b), some (vR 0 0), some (vR 38 0), some (vR 62 0), some (vI i), some (vI kk), none, none] (ov.toList ++ []) μ') ∧ ∀ kx, cl_X5_lenderOf.2.2.2.2 σ [vR 38 0, vI (xs (w32 (i + 1))), vI (xs (w32 (i + 2))), vI (xs (w32 (i + 3)))] M1 kx → thr cd_L_law ET (LW b L xs ER ET) 1493 (n + 3) [some (vX b), some (vR 0 0), some (vR 38 0), some (vR 62 0), some (vI i), some (vI kk), none, none] M1 kx)))))))
  rw [show w32 (i + 1) = i + 1 from w32_id (by simp only [in32]; omega)]
  rw [show w32 (i + 2) = i + 2 from w32_id (by simp only [in32]; omega)]
  rw [show w32 (i + 3) = i + 3 from w32_id (by simp only [in32]; omega)]
  refine ⟨rfl, ?_⟩
  refine ⟨by omega, ?_⟩
  refine ⟨rfl, ?_⟩
  refine ⟨by omega, ?_⟩
  refine ⟨rfl, ?_⟩
  refine ⟨by omega, ?_⟩
  refine bT_3 rfl rfl (Nat.ble_eq_true_of_le (show _ ≤ (20000 : Nat) from by omega)) ?_
  refine ⟨μ, ⟨rfl, show Wk M1 ∧ Xk M1 from ⟨hpre.1, hpre.2⟩⟩, fun ov μ' hq => ?_, fun k hk => hk.elim⟩
  obtain ⟨bv, hov2, hJ2, hth, hbv⟩ := hcal ov μ' hq
  rw [hov2]
  clear hov2 hq
  rename Mm => M2
  show LW b L xs ER ET 1496 (n + 3) [some (vX b), some (vR 0 0), some (vR 38 0), some (vR 62 0), some (vI i), some (vI kk), none, none] [vL bv] M2
  refine run_k 3 ?_
  show bT _ (∃ σ : Mm, cl_X5_thrown.2.2.1 σ [vR 38 0] M2 ∧ (∀ ov μ', cl_X5_thrown.2.2.2.1 σ [vR 38 0] M2 ov μ' → LW b L xs ER ET 1502 (n + 3) [some (vX b), some (vR 0 0), some (vR 38 0), some (vR 62 0), some (vI i), some (vI kk), some (vL bv), none] (ov.toList ++ []) μ') ∧ ∀ kx, cl_X5_thrown.2.2.2.2 σ [vR 38 0] M2 kx → thr cd_L_law ET (LW b L xs ER ET) 1499 (n + 3) [some (vX b), some (vR 0 0), some (vR 38 0), some (vR 62 0), some (vI i), some (vI kk), some (vL bv), none] M2 kx)
  refine bT_3 rfl rfl (Nat.ble_eq_true_of_le (show _ ≤ (20000 : Nat) from by omega)) ?_
  refine ⟨μ, ⟨rfl, show True from True.intro⟩, fun ov μ' hq => ?_, fun k hk => hk.elim⟩
  obtain ⟨hov3, hmu⟩ : ov = some (vI (M2 38 0 0)) ∧ μ' = M2 := hq
  rw [hov3, hmu, hth]
  show LW b L xs ER ET 1502 (n + 3) [some (vX b), some (vR 0 0), some (vR 38 0), some (vR 62 0), some (vI i), some (vI kk), some (vL bv), none] [vI kk] M2
  refine run_k 2 ?_
  show (kk = kk → LW b L xs ER ET 1509 (n + 3) [some (vX b), some (vR 0 0), some (vR 38 0), some (vR 62 0), some (vI i), some (vI kk), some (vL bv), none] [] M2) ∧ (kk ≠ kk → LW b L xs ER ET 1507 (n + 3) [some (vX b), some (vR 0 0), some (vR 38 0), some (vR 62 0), some (vI i), some (vI kk), some (vL bv), none] [] M2)
  refine ⟨fun c4 => ?_, fun c4 => ?_⟩
  · refine run_k 2 ?_
    show (kk ≠ 0 → LW b L xs ER ET 1525 (n + 3) [some (vX b), some (vR 0 0), some (vR 38 0), some (vR 62 0), some (vI i), some (vI kk), some (vL bv), none] [] M2) ∧ (kk = 0 → LW b L xs ER ET 1514 (n + 3) [some (vX b), some (vR 0 0), some (vR 38 0), some (vR 62 0), some (vI i), some (vI kk), some (vL bv), none] [] M2)
    refine ⟨fun c5 => ?_, fun c5 => ?_⟩
    · refine run_k 1 ?_
      show LW b L xs ER ET 1787 (n + 3) [some (vX b), some (vR 0 0), some (vR 38 0), some (vR 62 0), some (vI i), some (vI kk), some (vL bv), none] [] M2
      refine run_w (L' := [some (vX b), some (vR 0 0), some (vR 38 0), some (vR 62 0), some (vI i), none, none, none]) ⟨rfl, rfl, rfl, rfl, rfl, True.intro⟩ ?_
      exact hN _ _ hJ2 (by omega) (by omega)
    · refine run_k 6 ?_
      show (0 ≤ 0 ∧ 0 < 1) ∧ (((cmpL (M2 62 0 0) bv) = 0 → LW b L xs ER ET 1525 (n + 3) [some (vX b), some (vR 0 0), some (vR 38 0), some (vR 62 0), some (vI i), some (vI kk), some (vL bv), none] [] M2) ∧ ((cmpL (M2 62 0 0) bv) ≠ 0 → LW b L xs ER ET 1523 (n + 3) [some (vX b), some (vR 0 0), some (vR 38 0), some (vR 62 0), some (vI i), some (vI kk), some (vL bv), none] [] M2))
      refine ⟨by omega, ?_⟩
      refine ⟨fun c7 => ?_, fun c7 => ?_⟩
      · refine run_k 1 ?_
        show LW b L xs ER ET 1787 (n + 3) [some (vX b), some (vR 0 0), some (vR 38 0), some (vR 62 0), some (vI i), some (vI kk), some (vL bv), none] [] M2
        refine run_w (L' := [some (vX b), some (vR 0 0), some (vR 38 0), some (vR 62 0), some (vI i), none, none, none]) ⟨rfl, rfl, rfl, rfl, rfl, True.intro⟩ ?_
        exact hN _ _ hJ2 (by omega) (by omega)
      · refine run_k 2 ?_
        show bT _ ((0 = 0 ∨ 0 = 1) ∧ ER (some (vI 0)) M2)
        refine bT_i (Nat.ble_eq_true_of_le (show _ ≤ (20000 : Nat) from by omega)) ?_
        refine ⟨by omega, ?_⟩
        exfalso
        first | omega | exact absurd (hbv (by omega)) (cmpL_ne (by assumption)) | (have hz := hbv (by omega); have hz2 := cmpL_ne (by assumption); omega)
  · refine run_k 2 ?_
    show bT _ ((0 = 0 ∨ 0 = 1) ∧ ER (some (vI 0)) M2)
    refine bT_i (Nat.ble_eq_true_of_le (show _ ≤ (20000 : Nat) from by omega)) ?_
    refine ⟨by omega, ?_⟩
    exfalso
    first | omega | exact absurd (hbv (by omega)) (cmpL_ne (by assumption)) | (have hz := hbv (by omega); have hz2 := cmpL_ne (by assumption); omega)
set_option maxHeartbeats 4000000 in
set_option maxRecDepth 20000 in
theorem law_20 {b : Nat} {L : Int} {xs : Int → Int} {ER : Option AV → Mm → Prop} {ET : Nat → Mm → Prop} {B : Int} {μ : Mm} {i : Int} {n : Nat} (hJ : J B μ) (h0 : 0 ≤ B) (hB : B ≤ 8000000000000000000) (hi : 0 ≤ i ∧ i + 5 ≤ L) (hL : L ≤ 2560) (hn : n ≤ 19000) (hN : ∀ (μ' : Mm) (n' : Nat), J (B + 10000000000000000) μ' → n ≤ n' → n' ≤ n + 5 → LW b L xs ER ET 1787 n' [some (vX b), some (vR 0 0), some (vR 38 0), some (vR 62 0), some (vI i), none, none, none] [] μ') : LW b L xs ER ET 1528 n [some (vX b), some (vR 0 0), some (vR 38 0), some (vR 62 0), some (vI i), none, none, none] [] μ := by
  refine run_k 13 ?_
  show (b = b) ∧ ((0 ≤ (w32 (i + 1)) ∧ (w32 (i + 1)) < L) ∧ ((b = b) ∧ ((0 ≤ (w32 (i + 2)) ∧ (w32 (i + 2)) < L) ∧ (bT _ (∃ σ : Mm, cl_L_stockOf.2.2.1 σ [vR 0 0, vI (xs (w32 (i + 1))), vI (xs (w32 (i + 2))), vR 62 0] μ ∧ (∀ ov μ', cl_L_stockOf.2.2.2.1 σ [vR 0 0, vI (xs (w32 (i + 1))), vI (xs (w32 (i + 2))), vR 62 0] μ ov μ' → LW b L xs ER ET 1545 (n + 2) [some (vX b), some (vR 0 0), some (vR 38 0), some (vR 62 0), some (vI i), none, none, none] (ov.toList ++ []) μ') ∧ ∀ kx, cl_L_stockOf.2.2.2.2 σ [vR 0 0, vI (xs (w32 (i + 1))), vI (xs (w32 (i + 2))), vR 62 0] μ kx → thr cd_L_law ET (LW b L xs ER ET) 1542 (n + 2) [some (vX b), some (vR 0 0), some (vR 38 0), some (vR 62 0), some (vI i), none, none, none] μ kx)))))
  rw [show w32 (i + 1) = i + 1 from w32_id (by simp only [in32]; omega)]
  rw [show w32 (i + 2) = i + 2 from w32_id (by simp only [in32]; omega)]
  refine ⟨rfl, ?_⟩
  refine ⟨by omega, ?_⟩
  refine ⟨rfl, ?_⟩
  refine ⟨by omega, ?_⟩
  refine bT_3 rfl rfl (Nat.ble_eq_true_of_le (show _ ≤ (20000 : Nat) from by omega)) ?_
  refine ⟨μ, ⟨rfl, show CV μ from hJ.1⟩, fun ov μ' hq => ?_, fun k hk => hk.elim⟩
  have hq : (((0 ≤ (xs (i + 1)) ∧ (xs (i + 1)) ≤ 3) ∧ (0 ≤ (xs (i + 2)) ∧ (xs (i + 2)) ≤ 6)) → ov = some (vI 0) ∧ μ' 62 0 0 = (if (xs (i + 2)) = 0 then μ 1 0 (xs (i + 1)) else if (xs (i + 2)) = 1 then longF (al μ) (xs (i + 1)) else if (xs (i + 2)) = 2 then shtF (al μ) (xs (i + 1)) else if (xs (i + 2)) = 3 then longF (al μ) (xs (i + 1)) - lbF (al μ) (xs (i + 1)) else if (xs (i + 2)) = 4 then lbF (al μ) (xs (i + 1)) else if (xs (i + 2)) = 5 then llF (al μ) (xs (i + 1)) else μ 2 0 (xs (i + 1))) ∧ al μ' = al μ ∧ PB2 μ μ') ∧ ((¬ (0 ≤ (xs (i + 1)) ∧ (xs (i + 1)) ≤ 3)) → ov = some (vI 1) ∧ μ' = μ) ∧ (((0 ≤ (xs (i + 1)) ∧ (xs (i + 1)) ≤ 3) ∧ ¬ (0 ≤ (xs (i + 2)) ∧ (xs (i + 2)) ≤ 6)) → ov = some (vI 2) ∧ μ' = μ) := hq
  obtain ⟨kk, hov, hP1, hpre, hcal⟩ := cal_stockOf hJ h0 hB hq
  rw [hov]
  clear hov hq
  rename Mm => M1
  show LW b L xs ER ET 1545 (n + 2) [some (vX b), some (vR 0 0), some (vR 38 0), some (vR 62 0), some (vI i), none, none, none] [vI kk] M1
  refine run_k 13 ?_
  show (b = b) ∧ ((0 ≤ (w32 (i + 1)) ∧ (w32 (i + 1)) < L) ∧ ((b = b) ∧ ((0 ≤ (w32 (i + 2)) ∧ (w32 (i + 2)) < L) ∧ (bT _ (∃ σ : Mm, cl_X5_stockOf.2.2.1 σ [vR 38 0, vI (xs (w32 (i + 1))), vI (xs (w32 (i + 2)))] M1 ∧ (∀ ov μ', cl_X5_stockOf.2.2.2.1 σ [vR 38 0, vI (xs (w32 (i + 1))), vI (xs (w32 (i + 2)))] M1 ov μ' → LW b L xs ER ET 1563 (n + 2) [some (vX b), some (vR 0 0), some (vR 38 0), some (vR 62 0), some (vI i), some (vI kk), none, none] (ov.toList ++ []) μ') ∧ ∀ kx, cl_X5_stockOf.2.2.2.2 σ [vR 38 0, vI (xs (w32 (i + 1))), vI (xs (w32 (i + 2)))] M1 kx → thr cd_L_law ET (LW b L xs ER ET) 1560 (n + 2) [some (vX b), some (vR 0 0), some (vR 38 0), some (vR 62 0), some (vI i), some (vI kk), none, none] M1 kx)))))
  rw [show w32 (i + 1) = i + 1 from w32_id (by simp only [in32]; omega)]
  rw [show w32 (i + 2) = i + 2 from w32_id (by simp only [in32]; omega)]
  refine ⟨rfl, ?_⟩
  refine ⟨by omega, ?_⟩
  refine ⟨rfl, ?_⟩
  refine ⟨by omega, ?_⟩
  refine bT_3 rfl rfl (Nat.ble_eq_true_of_le (show _ ≤ (20000 : Nat) from by omega)) ?_
  refine ⟨μ, ⟨rfl, show Wk M1 ∧ Xk M1 from ⟨hpre.1, hpre.2⟩⟩, fun ov μ' hq => ?_, fun k hk => hk.elim⟩
  obtain ⟨bv, hov2, hJ2, hth, hbv⟩ := hcal ov μ' hq
  rw [hov2]
  clear hov2 hq
  rename Mm => M2
  show LW b L xs ER ET 1563 (n + 2) [some (vX b), some (vR 0 0), some (vR 38 0), some (vR 62 0), some (vI i), some (vI kk), none, none] [vI bv] M2
  refine run_k 3 ?_
  show bT _ (∃ σ : Mm, cl_X5_thrown.2.2.1 σ [vR 38 0] M2 ∧ (∀ ov μ', cl_X5_thrown.2.2.2.1 σ [vR 38 0] M2 ov μ' → LW b L xs ER ET 1569 (n + 2) [some (vX b), some (vR 0 0), some (vR 38 0), some (vR 62 0), some (vI i), some (vI kk), some (vI bv), none] (ov.toList ++ []) μ') ∧ ∀ kx, cl_X5_thrown.2.2.2.2 σ [vR 38 0] M2 kx → thr cd_L_law ET (LW b L xs ER ET) 1566 (n + 2) [some (vX b), some (vR 0 0), some (vR 38 0), some (vR 62 0), some (vI i), some (vI kk), some (vI bv), none] M2 kx)
  refine bT_3 rfl rfl (Nat.ble_eq_true_of_le (show _ ≤ (20000 : Nat) from by omega)) ?_
  refine ⟨μ, ⟨rfl, show True from True.intro⟩, fun ov μ' hq => ?_, fun k hk => hk.elim⟩
  obtain ⟨hov3, hmu⟩ : ov = some (vI (M2 38 0 0)) ∧ μ' = M2 := hq
  rw [hov3, hmu, hth]
  show LW b L xs ER ET 1569 (n + 2) [some (vX b), some (vR 0 0), some (vR 38 0), some (vR 62 0), some (vI i), some (vI kk), some (vI bv), none] [vI kk] M2
  refine run_k 2 ?_
  show (kk = kk → LW b L xs ER ET 1576 (n + 2) [some (vX b), some (vR 0 0), some (vR 38 0), some (vR 62 0), some (vI i), some (vI kk), some (vI bv), none] [] M2) ∧ (kk ≠ kk → LW b L xs ER ET 1574 (n + 2) [some (vX b), some (vR 0 0), some (vR 38 0), some (vR 62 0), some (vI i), some (vI kk), some (vI bv), none] [] M2)
  refine ⟨fun c4 => ?_, fun c4 => ?_⟩
  · refine run_k 2 ?_
    show (kk ≠ 0 → LW b L xs ER ET 1593 (n + 2) [some (vX b), some (vR 0 0), some (vR 38 0), some (vR 62 0), some (vI i), some (vI kk), some (vI bv), none] [] M2) ∧ (kk = 0 → LW b L xs ER ET 1581 (n + 2) [some (vX b), some (vR 0 0), some (vR 38 0), some (vR 62 0), some (vI i), some (vI kk), some (vI bv), none] [] M2)
    refine ⟨fun c5 => ?_, fun c5 => ?_⟩
    · refine run_k 1 ?_
      show LW b L xs ER ET 1787 (n + 2) [some (vX b), some (vR 0 0), some (vR 38 0), some (vR 62 0), some (vI i), some (vI kk), some (vI bv), none] [] M2
      refine run_w (L' := [some (vX b), some (vR 0 0), some (vR 38 0), some (vR 62 0), some (vI i), none, none, none]) ⟨rfl, rfl, rfl, rfl, rfl, True.intro⟩ ?_
      exact hN _ _ hJ2 (by omega) (by omega)
    · refine run_k 7 ?_
      show (0 ≤ 0 ∧ 0 < 1) ∧ (((cmpL (M2 62 0 0) bv) = 0 → LW b L xs ER ET 1593 (n + 2) [some (vX b), some (vR 0 0), some (vR 38 0), some (vR 62 0), some (vI i), some (vI kk), some (vI bv), none] [] M2) ∧ ((cmpL (M2 62 0 0) bv) ≠ 0 → LW b L xs ER ET 1591 (n + 2) [some (vX b), some (vR 0 0), some (vR 38 0), some (vR 62 0), some (vI i), some (vI kk), some (vI bv), none] [] M2))
      refine ⟨by omega, ?_⟩
      refine ⟨fun c7 => ?_, fun c7 => ?_⟩
      · refine run_k 1 ?_
        show LW b L xs ER ET 1787 (n + 2) [some (vX b), some (vR 0 0), some (vR 38 0), some (vR 62 0), some (vI i), some (vI kk), some (vI bv), none] [] M2
        refine run_w (L' := [some (vX b), some (vR 0 0), some (vR 38 0), some (vR 62 0), some (vI i), none, none, none]) ⟨rfl, rfl, rfl, rfl, rfl, True.intro⟩ ?_
        exact hN _ _ hJ2 (by omega) (by omega)
      · refine run_k 2 ?_
        show bT _ ((0 = 0 ∨ 0 = 1) ∧ ER (some (vI 0)) M2)
        refine bT_i (Nat.ble_eq_true_of_le (show _ ≤ (20000 : Nat) from by omega)) ?_
        refine ⟨by omega, ?_⟩
        exfalso
        first | omega | exact absurd (hbv (by omega)) (cmpL_ne (by assumption)) | (have hz := hbv (by omega); have hz2 := cmpL_ne (by assumption); omega)
  · refine run_k 2 ?_
    show bT _ ((0 = 0 ∨ 0 = 1) ∧ ER (some (vI 0)) M2)
    refine bT_i (Nat.ble_eq_true_of_le (show _ ≤ (20000 : Nat) from by omega)) ?_
    refine ⟨by omega, ?_⟩
    exfalso
    first | omega | exact absurd (hbv (by omega)) (cmpL_ne (by assumption)) | (have hz := hbv (by omega); have hz2 := cmpL_ne (by assumption); omega)
set_option maxHeartbeats 4000000 in
set_option maxRecDepth 20000 in
theorem law_21 {b : Nat} {L : Int} {xs : Int → Int} {ER : Option AV → Mm → Prop} {ET : Nat → Mm → Prop} {B : Int} {μ : Mm} {i : Int} {n : Nat} (hJ : J B μ) (h0 : 0 ≤ B) (hB : B ≤ 8000000000000000000) (hi : 0 ≤ i ∧ i + 5 ≤ L) (hL : L ≤ 2560) (hn : n ≤ 19000) (hN : ∀ (μ' : Mm) (n' : Nat), J (B + 10000000000000000) μ' → n ≤ n' → n' ≤ n + 5 → LW b L xs ER ET 1787 n' [some (vX b), some (vR 0 0), some (vR 38 0), some (vR 62 0), some (vI i), none, none, none] [] μ') : LW b L xs ER ET 1596 n [some (vX b), some (vR 0 0), some (vR 38 0), some (vR 62 0), some (vI i), none, none, none] [] μ := by
  refine run_k 13 ?_
  show (b = b) ∧ ((0 ≤ (w32 (i + 1)) ∧ (w32 (i + 1)) < L) ∧ ((b = b) ∧ ((0 ≤ (w32 (i + 2)) ∧ (w32 (i + 2)) < L) ∧ (bT _ (∃ σ : Mm, cl_L_loanOf.2.2.1 σ [vR 0 0, vI (xs (w32 (i + 1))), vI (xs (w32 (i + 2))), vR 62 0] μ ∧ (∀ ov μ', cl_L_loanOf.2.2.2.1 σ [vR 0 0, vI (xs (w32 (i + 1))), vI (xs (w32 (i + 2))), vR 62 0] μ ov μ' → LW b L xs ER ET 1613 (n + 2) [some (vX b), some (vR 0 0), some (vR 38 0), some (vR 62 0), some (vI i), none, none, none] (ov.toList ++ []) μ') ∧ ∀ kx, cl_L_loanOf.2.2.2.2 σ [vR 0 0, vI (xs (w32 (i + 1))), vI (xs (w32 (i + 2))), vR 62 0] μ kx → thr cd_L_law ET (LW b L xs ER ET) 1610 (n + 2) [some (vX b), some (vR 0 0), some (vR 38 0), some (vR 62 0), some (vI i), none, none, none] μ kx)))))
  rw [show w32 (i + 1) = i + 1 from w32_id (by simp only [in32]; omega)]
  rw [show w32 (i + 2) = i + 2 from w32_id (by simp only [in32]; omega)]
  refine ⟨rfl, ?_⟩
  refine ⟨by omega, ?_⟩
  refine ⟨rfl, ?_⟩
  refine ⟨by omega, ?_⟩
  refine bT_3 rfl rfl (Nat.ble_eq_true_of_le (show _ ≤ (20000 : Nat) from by omega)) ?_
  refine ⟨μ, ⟨rfl, show CV μ from hJ.1⟩, fun ov μ' hq => ?_, fun k hk => hk.elim⟩
  have hq : (((0 ≤ (xs (i + 1)) ∧ (xs (i + 1)) < μ 15 0 5) ∧ (0 ≤ (xs (i + 2)) ∧ (xs (i + 2)) ≤ 4)) → ov = some (vI 0) ∧ μ' 62 0 0 = (if (xs (i + 2)) = 0 then μ 16 0 (xs (i + 1)) else if (xs (i + 2)) = 1 then μ 17 0 (xs (i + 1)) else if (xs (i + 2)) = 2 then μ 18 0 (xs (i + 1)) else if (xs (i + 2)) = 3 then μ 19 0 (xs (i + 1)) else μ 20 0 (xs (i + 1))) ∧ al μ' = al μ ∧ PB2 μ μ') ∧ ((¬ (0 ≤ (xs (i + 1)) ∧ (xs (i + 1)) < μ 15 0 5)) → ov = some (vI 1) ∧ μ' = μ) ∧ (((0 ≤ (xs (i + 1)) ∧ (xs (i + 1)) < μ 15 0 5) ∧ ¬ (0 ≤ (xs (i + 2)) ∧ (xs (i + 2)) ≤ 4)) → ov = some (vI 2) ∧ μ' = μ) := hq
  obtain ⟨kk, hov, hP1, hpre, hcal⟩ := cal_loanOf hJ h0 hB hq
  rw [hov]
  clear hov hq
  rename Mm => M1
  show LW b L xs ER ET 1613 (n + 2) [some (vX b), some (vR 0 0), some (vR 38 0), some (vR 62 0), some (vI i), none, none, none] [vI kk] M1
  refine run_k 13 ?_
  show (b = b) ∧ ((0 ≤ (w32 (i + 1)) ∧ (w32 (i + 1)) < L) ∧ ((b = b) ∧ ((0 ≤ (w32 (i + 2)) ∧ (w32 (i + 2)) < L) ∧ (bT _ (∃ σ : Mm, cl_X5_loanOf.2.2.1 σ [vR 38 0, vI (xs (w32 (i + 1))), vI (xs (w32 (i + 2)))] M1 ∧ (∀ ov μ', cl_X5_loanOf.2.2.2.1 σ [vR 38 0, vI (xs (w32 (i + 1))), vI (xs (w32 (i + 2)))] M1 ov μ' → LW b L xs ER ET 1631 (n + 2) [some (vX b), some (vR 0 0), some (vR 38 0), some (vR 62 0), some (vI i), some (vI kk), none, none] (ov.toList ++ []) μ') ∧ ∀ kx, cl_X5_loanOf.2.2.2.2 σ [vR 38 0, vI (xs (w32 (i + 1))), vI (xs (w32 (i + 2)))] M1 kx → thr cd_L_law ET (LW b L xs ER ET) 1628 (n + 2) [some (vX b), some (vR 0 0), some (vR 38 0), some (vR 62 0), some (vI i), some (vI kk), none, none] M1 kx)))))
  rw [show w32 (i + 1) = i + 1 from w32_id (by simp only [in32]; omega)]
  rw [show w32 (i + 2) = i + 2 from w32_id (by simp only [in32]; omega)]
  refine ⟨rfl, ?_⟩
  refine ⟨by omega, ?_⟩
  refine ⟨rfl, ?_⟩
  refine ⟨by omega, ?_⟩
  refine bT_3 rfl rfl (Nat.ble_eq_true_of_le (show _ ≤ (20000 : Nat) from by omega)) ?_
  refine ⟨μ, ⟨rfl, show Wk M1 ∧ Xk M1 from ⟨hpre.1, hpre.2⟩⟩, fun ov μ' hq => ?_, fun k hk => hk.elim⟩
  obtain ⟨bv, hov2, hJ2, hth, hbv⟩ := hcal ov μ' hq
  rw [hov2]
  clear hov2 hq
  rename Mm => M2
  show LW b L xs ER ET 1631 (n + 2) [some (vX b), some (vR 0 0), some (vR 38 0), some (vR 62 0), some (vI i), some (vI kk), none, none] [vI bv] M2
  refine run_k 3 ?_
  show bT _ (∃ σ : Mm, cl_X5_thrown.2.2.1 σ [vR 38 0] M2 ∧ (∀ ov μ', cl_X5_thrown.2.2.2.1 σ [vR 38 0] M2 ov μ' → LW b L xs ER ET 1637 (n + 2) [some (vX b), some (vR 0 0), some (vR 38 0), some (vR 62 0), some (vI i), some (vI kk), some (vI bv), none] (ov.toList ++ []) μ') ∧ ∀ kx, cl_X5_thrown.2.2.2.2 σ [vR 38 0] M2 kx → thr cd_L_law ET (LW b L xs ER ET) 1634 (n + 2) [some (vX b), some (vR 0 0), some (vR 38 0), some (vR 62 0), some (vI i), some (vI kk), some (vI bv), none] M2 kx)
  refine bT_3 rfl rfl (Nat.ble_eq_true_of_le (show _ ≤ (20000 : Nat) from by omega)) ?_
  refine ⟨μ, ⟨rfl, show True from True.intro⟩, fun ov μ' hq => ?_, fun k hk => hk.elim⟩
  obtain ⟨hov3, hmu⟩ : ov = some (vI (M2 38 0 0)) ∧ μ' = M2 := hq
  rw [hov3, hmu, hth]
  show LW b L xs ER ET 1637 (n + 2) [some (vX b), some (vR 0 0), some (vR 38 0), some (vR 62 0), some (vI i), some (vI kk), some (vI bv), none] [vI kk] M2
  refine run_k 2 ?_
  show (kk = kk → LW b L xs ER ET 1644 (n + 2) [some (vX b), some (vR 0 0), some (vR 38 0), some (vR 62 0), some (vI i), some (vI kk), some (vI bv), none] [] M2) ∧ (kk ≠ kk → LW b L xs ER ET 1642 (n + 2) [some (vX b), some (vR 0 0), some (vR 38 0), some (vR 62 0), some (vI i), some (vI kk), some (vI bv), none] [] M2)
  refine ⟨fun c4 => ?_, fun c4 => ?_⟩
  · refine run_k 2 ?_
    show (kk ≠ 0 → LW b L xs ER ET 1661 (n + 2) [some (vX b), some (vR 0 0), some (vR 38 0), some (vR 62 0), some (vI i), some (vI kk), some (vI bv), none] [] M2) ∧ (kk = 0 → LW b L xs ER ET 1649 (n + 2) [some (vX b), some (vR 0 0), some (vR 38 0), some (vR 62 0), some (vI i), some (vI kk), some (vI bv), none] [] M2)
    refine ⟨fun c5 => ?_, fun c5 => ?_⟩
    · refine run_k 1 ?_
      show LW b L xs ER ET 1787 (n + 2) [some (vX b), some (vR 0 0), some (vR 38 0), some (vR 62 0), some (vI i), some (vI kk), some (vI bv), none] [] M2
      refine run_w (L' := [some (vX b), some (vR 0 0), some (vR 38 0), some (vR 62 0), some (vI i), none, none, none]) ⟨rfl, rfl, rfl, rfl, rfl, True.intro⟩ ?_
      exact hN _ _ hJ2 (by omega) (by omega)
    · refine run_k 7 ?_
      show (0 ≤ 0 ∧ 0 < 1) ∧ (((cmpL (M2 62 0 0) bv) = 0 → LW b L xs ER ET 1661 (n + 2) [some (vX b), some (vR 0 0), some (vR 38 0), some (vR 62 0), some (vI i), some (vI kk), some (vI bv), none] [] M2) ∧ ((cmpL (M2 62 0 0) bv) ≠ 0 → LW b L xs ER ET 1659 (n + 2) [some (vX b), some (vR 0 0), some (vR 38 0), some (vR 62 0), some (vI i), some (vI kk), some (vI bv), none] [] M2))
      refine ⟨by omega, ?_⟩
      refine ⟨fun c7 => ?_, fun c7 => ?_⟩
      · refine run_k 1 ?_
        show LW b L xs ER ET 1787 (n + 2) [some (vX b), some (vR 0 0), some (vR 38 0), some (vR 62 0), some (vI i), some (vI kk), some (vI bv), none] [] M2
        refine run_w (L' := [some (vX b), some (vR 0 0), some (vR 38 0), some (vR 62 0), some (vI i), none, none, none]) ⟨rfl, rfl, rfl, rfl, rfl, True.intro⟩ ?_
        exact hN _ _ hJ2 (by omega) (by omega)
      · refine run_k 2 ?_
        show bT _ ((0 = 0 ∨ 0 = 1) ∧ ER (some (vI 0)) M2)
        refine bT_i (Nat.ble_eq_true_of_le (show _ ≤ (20000 : Nat) from by omega)) ?_
        refine ⟨by omega, ?_⟩
        exfalso
        first | omega | exact absurd (hbv (by omega)) (cmpL_ne (by assumption)) | (have hz := hbv (by omega); have hz2 := cmpL_ne (by assumption); omega)
  · refine run_k 2 ?_
    show bT _ ((0 = 0 ∨ 0 = 1) ∧ ER (some (vI 0)) M2)
    refine bT_i (Nat.ble_eq_true_of_le (show _ ≤ (20000 : Nat) from by omega)) ?_
    refine ⟨by omega, ?_⟩
    exfalso
    first | omega | exact absurd (hbv (by omega)) (cmpL_ne (by assumption)) | (have hz := hbv (by omega); have hz2 := cmpL_ne (by assumption); omega)
set_option maxHeartbeats 4000000 in
set_option maxRecDepth 20000 in
theorem law_22 {b : Nat} {L : Int} {xs : Int → Int} {ER : Option AV → Mm → Prop} {ET : Nat → Mm → Prop} {B : Int} {μ : Mm} {i : Int} {n : Nat} (hJ : J B μ) (h0 : 0 ≤ B) (hB : B ≤ 8000000000000000000) (hi : 0 ≤ i ∧ i + 5 ≤ L) (hL : L ≤ 2560) (hn : n ≤ 19000) (hN : ∀ (μ' : Mm) (n' : Nat), J (B + 10000000000000000) μ' → n ≤ n' → n' ≤ n + 5 → LW b L xs ER ET 1787 n' [some (vX b), some (vR 0 0), some (vR 38 0), some (vR 62 0), some (vI i), none, none, none] [] μ') : LW b L xs ER ET 1664 n [some (vX b), some (vR 0 0), some (vR 38 0), some (vR 62 0), some (vI i), none, none, none] [] μ := by
  refine run_k 13 ?_
  show (b = b) ∧ ((0 ≤ (w32 (i + 1)) ∧ (w32 (i + 1)) < L) ∧ ((b = b) ∧ ((0 ≤ (w32 (i + 2)) ∧ (w32 (i + 2)) < L) ∧ (bT _ (∃ σ : Mm, cl_L_locateOf.2.2.1 σ [vR 0 0, vI (xs (w32 (i + 1))), vI (xs (w32 (i + 2))), vR 62 0] μ ∧ (∀ ov μ', cl_L_locateOf.2.2.2.1 σ [vR 0 0, vI (xs (w32 (i + 1))), vI (xs (w32 (i + 2))), vR 62 0] μ ov μ' → LW b L xs ER ET 1681 (n + 2) [some (vX b), some (vR 0 0), some (vR 38 0), some (vR 62 0), some (vI i), none, none, none] (ov.toList ++ []) μ') ∧ ∀ kx, cl_L_locateOf.2.2.2.2 σ [vR 0 0, vI (xs (w32 (i + 1))), vI (xs (w32 (i + 2))), vR 62 0] μ kx → thr cd_L_law ET (LW b L xs ER ET) 1678 (n + 2) [some (vX b), some (vR 0 0), some (vR 38 0), some (vR 62 0), some (vI i), none, none, none] μ kx)))))
  rw [show w32 (i + 1) = i + 1 from w32_id (by simp only [in32]; omega)]
  rw [show w32 (i + 2) = i + 2 from w32_id (by simp only [in32]; omega)]
  refine ⟨rfl, ?_⟩
  refine ⟨by omega, ?_⟩
  refine ⟨rfl, ?_⟩
  refine ⟨by omega, ?_⟩
  refine bT_3 rfl rfl (Nat.ble_eq_true_of_le (show _ ≤ (20000 : Nat) from by omega)) ?_
  refine ⟨μ, ⟨rfl, show CV μ from hJ.1⟩, fun ov μ' hq => ?_, fun k hk => hk.elim⟩
  have hq : (((0 ≤ (xs (i + 1)) ∧ (xs (i + 1)) < μ 21 0 5) ∧ (0 ≤ (xs (i + 2)) ∧ (xs (i + 2)) ≤ 3)) → ov = some (vI 0) ∧ μ' 62 0 0 = (if (xs (i + 2)) = 0 then μ 22 0 (xs (i + 1)) else if (xs (i + 2)) = 1 then μ 23 0 (xs (i + 1)) else if (xs (i + 2)) = 2 then μ 24 0 (xs (i + 1)) else holdsF (al μ) (xs (i + 1))) ∧ al μ' = al μ ∧ PB2 μ μ') ∧ ((¬ (0 ≤ (xs (i + 1)) ∧ (xs (i + 1)) < μ 21 0 5)) → ov = some (vI 1) ∧ μ' = μ) ∧ (((0 ≤ (xs (i + 1)) ∧ (xs (i + 1)) < μ 21 0 5) ∧ ¬ (0 ≤ (xs (i + 2)) ∧ (xs (i + 2)) ≤ 3)) → ov = some (vI 2) ∧ μ' = μ) := hq
  obtain ⟨kk, hov, hP1, hpre, hcal⟩ := cal_locateOf hJ h0 hB hq
  rw [hov]
  clear hov hq
  rename Mm => M1
  show LW b L xs ER ET 1681 (n + 2) [some (vX b), some (vR 0 0), some (vR 38 0), some (vR 62 0), some (vI i), none, none, none] [vI kk] M1
  refine run_k 13 ?_
  show (b = b) ∧ ((0 ≤ (w32 (i + 1)) ∧ (w32 (i + 1)) < L) ∧ ((b = b) ∧ ((0 ≤ (w32 (i + 2)) ∧ (w32 (i + 2)) < L) ∧ (bT _ (∃ σ : Mm, cl_X5_locateOf.2.2.1 σ [vR 38 0, vI (xs (w32 (i + 1))), vI (xs (w32 (i + 2)))] M1 ∧ (∀ ov μ', cl_X5_locateOf.2.2.2.1 σ [vR 38 0, vI (xs (w32 (i + 1))), vI (xs (w32 (i + 2)))] M1 ov μ' → LW b L xs ER ET 1699 (n + 2) [some (vX b), some (vR 0 0), some (vR 38 0), some (vR 62 0), some (vI i), some (vI kk), none, none] (ov.toList ++ []) μ') ∧ ∀ kx, cl_X5_locateOf.2.2.2.2 σ [vR 38 0, vI (xs (w32 (i + 1))), vI (xs (w32 (i + 2)))] M1 kx → thr cd_L_law ET (LW b L xs ER ET) 1696 (n + 2) [some (vX b), some (vR 0 0), some (vR 38 0), some (vR 62 0), some (vI i), some (vI kk), none, none] M1 kx)))))
  rw [show w32 (i + 1) = i + 1 from w32_id (by simp only [in32]; omega)]
  rw [show w32 (i + 2) = i + 2 from w32_id (by simp only [in32]; omega)]
  refine ⟨rfl, ?_⟩
  refine ⟨by omega, ?_⟩
  refine ⟨rfl, ?_⟩
  refine ⟨by omega, ?_⟩
  refine bT_3 rfl rfl (Nat.ble_eq_true_of_le (show _ ≤ (20000 : Nat) from by omega)) ?_
  refine ⟨μ, ⟨rfl, show Wk M1 ∧ Xk M1 from ⟨hpre.1, hpre.2⟩⟩, fun ov μ' hq => ?_, fun k hk => hk.elim⟩
  obtain ⟨bv, hov2, hJ2, hth, hbv⟩ := hcal ov μ' hq
  rw [hov2]
  clear hov2 hq
  rename Mm => M2
  show LW b L xs ER ET 1699 (n + 2) [some (vX b), some (vR 0 0), some (vR 38 0), some (vR 62 0), some (vI i), some (vI kk), none, none] [vI bv] M2
  refine run_k 3 ?_
  show bT _ (∃ σ : Mm, cl_X5_thrown.2.2.1 σ [vR 38 0] M2 ∧ (∀ ov μ', cl_X5_thrown.2.2.2.1 σ [vR 38 0] M2 ov μ' → LW b L xs ER ET 1705 (n + 2) [some (vX b), some (vR 0 0), some (vR 38 0), some (vR 62 0), some (vI i), some (vI kk), some (vI bv), none] (ov.toList ++ []) μ') ∧ ∀ kx, cl_X5_thrown.2.2.2.2 σ [vR 38 0] M2 kx → thr cd_L_law ET (LW b L xs ER ET) 1702 (n + 2) [some (vX b), some (vR 0 0), some (vR 38 0), some (vR 62 0), some (vI i), some (vI kk), some (vI bv), none] M2 kx)
  refine bT_3 rfl rfl (Nat.ble_eq_true_of_le (show _ ≤ (20000 : Nat) from by omega)) ?_
  refine ⟨μ, ⟨rfl, show True from True.intro⟩, fun ov μ' hq => ?_, fun k hk => hk.elim⟩
  obtain ⟨hov3, hmu⟩ : ov = some (vI (M2 38 0 0)) ∧ μ' = M2 := hq
  rw [hov3, hmu, hth]
  show LW b L xs ER ET 1705 (n + 2) [some (vX b), some (vR 0 0), some (vR 38 0), some (vR 62 0), some (vI i), some (vI kk), some (vI bv), none] [vI kk] M2
  refine run_k 2 ?_
  show (kk = kk → LW b L xs ER ET 1712 (n + 2) [some (vX b), some (vR 0 0), some (vR 38 0), some (vR 62 0), some (vI i), some (vI kk), some (vI bv), none] [] M2) ∧ (kk ≠ kk → LW b L xs ER ET 1710 (n + 2) [some (vX b), some (vR 0 0), some (vR 38 0), some (vR 62 0), some (vI i), some (vI kk), some (vI bv), none] [] M2)
  refine ⟨fun c4 => ?_, fun c4 => ?_⟩
  · refine run_k 2 ?_
    show (kk ≠ 0 → LW b L xs ER ET 1729 (n + 2) [some (vX b), some (vR 0 0), some (vR 38 0), some (vR 62 0), some (vI i), some (vI kk), some (vI bv), none] [] M2) ∧ (kk = 0 → LW b L xs ER ET 1717 (n + 2) [some (vX b), some (vR 0 0), some (vR 38 0), some (vR 62 0), some (vI i), some (vI kk), some (vI bv), none] [] M2)
    refine ⟨fun c5 => ?_, fun c5 => ?_⟩
    · refine run_k 1 ?_
      show LW b L xs ER ET 1787 (n + 2) [some (vX b), some (vR 0 0), some (vR 38 0), some (vR 62 0), some (vI i), some (vI kk), some (vI bv), none] [] M2
      refine run_w (L' := [some (vX b), some (vR 0 0), some (vR 38 0), some (vR 62 0), some (vI i), none, none, none]) ⟨rfl, rfl, rfl, rfl, rfl, True.intro⟩ ?_
      exact hN _ _ hJ2 (by omega) (by omega)
    · refine run_k 7 ?_
      show (0 ≤ 0 ∧ 0 < 1) ∧ (((cmpL (M2 62 0 0) bv) = 0 → LW b L xs ER ET 1729 (n + 2) [some (vX b), some (vR 0 0), some (vR 38 0), some (vR 62 0), some (vI i), some (vI kk), some (vI bv), none] [] M2) ∧ ((cmpL (M2 62 0 0) bv) ≠ 0 → LW b L xs ER ET 1727 (n + 2) [some (vX b), some (vR 0 0), some (vR 38 0), some (vR 62 0), some (vI i), some (vI kk), some (vI bv), none] [] M2))
      refine ⟨by omega, ?_⟩
      refine ⟨fun c7 => ?_, fun c7 => ?_⟩
      · refine run_k 1 ?_
        show LW b L xs ER ET 1787 (n + 2) [some (vX b), some (vR 0 0), some (vR 38 0), some (vR 62 0), some (vI i), some (vI kk), some (vI bv), none] [] M2
        refine run_w (L' := [some (vX b), some (vR 0 0), some (vR 38 0), some (vR 62 0), some (vI i), none, none, none]) ⟨rfl, rfl, rfl, rfl, rfl, True.intro⟩ ?_
        exact hN _ _ hJ2 (by omega) (by omega)
      · refine run_k 2 ?_
        show bT _ ((0 = 0 ∨ 0 = 1) ∧ ER (some (vI 0)) M2)
        refine bT_i (Nat.ble_eq_true_of_le (show _ ≤ (20000 : Nat) from by omega)) ?_
        refine ⟨by omega, ?_⟩
        exfalso
        first | omega | exact absurd (hbv (by omega)) (cmpL_ne (by assumption)) | (have hz := hbv (by omega); have hz2 := cmpL_ne (by assumption); omega)
  · refine run_k 2 ?_
    show bT _ ((0 = 0 ∨ 0 = 1) ∧ ER (some (vI 0)) M2)
    refine bT_i (Nat.ble_eq_true_of_le (show _ ≤ (20000 : Nat) from by omega)) ?_
    refine ⟨by omega, ?_⟩
    exfalso
    first | omega | exact absurd (hbv (by omega)) (cmpL_ne (by assumption)) | (have hz := hbv (by omega); have hz2 := cmpL_ne (by assumption); omega)
set_option maxHeartbeats 4000000 in
set_option maxRecDepth 20000 in
theorem law_23 {b : Nat} {L : Int} {xs : Int → Int} {ER : Option AV → Mm → Prop} {ET : Nat → Mm → Prop} {B : Int} {μ : Mm} {i : Int} {n : Nat} (hJ : J B μ) (h0 : 0 ≤ B) (hB : B ≤ 8000000000000000000) (hi : 0 ≤ i ∧ i + 5 ≤ L) (hL : L ≤ 2560) (hn : n ≤ 19000) (hN : ∀ (μ' : Mm) (n' : Nat), J (B + 10000000000000000) μ' → n ≤ n' → n' ≤ n + 5 → LW b L xs ER ET 1787 n' [some (vX b), some (vR 0 0), some (vR 38 0), some (vR 62 0), some (vI i), none, none, none] [] μ') : LW b L xs ER ET 1732 n [some (vX b), some (vR 0 0), some (vR 38 0), some (vR 62 0), some (vI i), none, none, none] [] μ := by
  refine run_k 8 ?_
  show (b = b) ∧ ((0 ≤ (w32 (i + 1)) ∧ (w32 (i + 1)) < L) ∧ (bT _ (∃ σ : Mm, cl_L_count.2.2.1 σ [vR 0 0, vI (xs (w32 (i + 1))), vR 62 0] μ ∧ (∀ ov μ', cl_L_count.2.2.2.1 σ [vR 0 0, vI (xs (w32 (i + 1))), vR 62 0] μ ov μ' → LW b L xs ER ET 1743 (n + 1) [some (vX b), some (vR 0 0), some (vR 38 0), some (vR 62 0), some (vI i), none, none, none] (ov.toList ++ []) μ') ∧ ∀ kx, cl_L_count.2.2.2.2 σ [vR 0 0, vI (xs (w32 (i + 1))), vR 62 0] μ kx → thr cd_L_law ET (LW b L xs ER ET) 1740 (n + 1) [some (vX b), some (vR 0 0), some (vR 38 0), some (vR 62 0), some (vI i), none, none, none] μ kx)))
  rw [show w32 (i + 1) = i + 1 from w32_id (by simp only [in32]; omega)]
  refine ⟨rfl, ?_⟩
  refine ⟨by omega, ?_⟩
  refine bT_3 rfl rfl (Nat.ble_eq_true_of_le (show _ ≤ (20000 : Nat) from by omega)) ?_
  refine ⟨μ, ⟨rfl, show CV μ from hJ.1⟩, fun ov μ' hq => ?_, fun k hk => hk.elim⟩
  have hq : (((0 ≤ (xs (i + 1)) ∧ (xs (i + 1)) ≤ 4)) → ov = some (vI 0) ∧ μ' 62 0 0 = (if (xs (i + 1)) = 0 then μ 15 0 5 else if (xs (i + 1)) = 1 then opF (al μ) (μ 15 0 5).toNat else if (xs (i + 1)) = 2 then μ 0 0 15 else if (xs (i + 1)) = 3 then μ 0 0 16 else mtF μ) ∧ al μ' = al μ ∧ PB2 μ μ') ∧ ((¬ (0 ≤ (xs (i + 1)) ∧ (xs (i + 1)) ≤ 4)) → ov = some (vI 1) ∧ μ' = μ) := hq
  obtain ⟨kk, hov, hP1, hpre, hcal⟩ := cal_count hJ h0 hB hq
  rw [hov]
  clear hov hq
  rename Mm => M1
  show LW b L xs ER ET 1743 (n + 1) [some (vX b), some (vR 0 0), some (vR 38 0), some (vR 62 0), some (vI i), none, none, none] [vI kk] M1
  refine run_k 8 ?_
  show (b = b) ∧ ((0 ≤ (w32 (i + 1)) ∧ (w32 (i + 1)) < L) ∧ (bT _ (∃ σ : Mm, cl_X5_count.2.2.1 σ [vR 38 0, vI (xs (w32 (i + 1)))] M1 ∧ (∀ ov μ', cl_X5_count.2.2.2.1 σ [vR 38 0, vI (xs (w32 (i + 1)))] M1 ov μ' → LW b L xs ER ET 1755 (n + 1) [some (vX b), some (vR 0 0), some (vR 38 0), some (vR 62 0), some (vI i), some (vI kk), none, none] (ov.toList ++ []) μ') ∧ ∀ kx, cl_X5_count.2.2.2.2 σ [vR 38 0, vI (xs (w32 (i + 1)))] M1 kx → thr cd_L_law ET (LW b L xs ER ET) 1752 (n + 1) [some (vX b), some (vR 0 0), some (vR 38 0), some (vR 62 0), some (vI i), some (vI kk), none, none] M1 kx)))
  rw [show w32 (i + 1) = i + 1 from w32_id (by simp only [in32]; omega)]
  refine ⟨rfl, ?_⟩
  refine ⟨by omega, ?_⟩
  refine bT_3 rfl rfl (Nat.ble_eq_true_of_le (show _ ≤ (20000 : Nat) from by omega)) ?_
  refine ⟨μ, ⟨rfl, show Wk M1 ∧ Xk M1 from ⟨hpre.1, hpre.2⟩⟩, fun ov μ' hq => ?_, fun k hk => hk.elim⟩
  obtain ⟨bv, hov2, hJ2, hth, hbv⟩ := hcal ov μ' hq
  rw [hov2]
  clear hov2 hq
  rename Mm => M2
  show LW b L xs ER ET 1755 (n + 1) [some (vX b), some (vR 0 0), some (vR 38 0), some (vR 62 0), some (vI i), some (vI kk), none, none] [vL bv] M2
  refine run_k 3 ?_
  show bT _ (∃ σ : Mm, cl_X5_thrown.2.2.1 σ [vR 38 0] M2 ∧ (∀ ov μ', cl_X5_thrown.2.2.2.1 σ [vR 38 0] M2 ov μ' → LW b L xs ER ET 1761 (n + 1) [some (vX b), some (vR 0 0), some (vR 38 0), some (vR 62 0), some (vI i), some (vI kk), some (vL bv), none] (ov.toList ++ []) μ') ∧ ∀ kx, cl_X5_thrown.2.2.2.2 σ [vR 38 0] M2 kx → thr cd_L_law ET (LW b L xs ER ET) 1758 (n + 1) [some (vX b), some (vR 0 0), some (vR 38 0), some (vR 62 0), some (vI i), some (vI kk), some (vL bv), none] M2 kx)
  refine bT_3 rfl rfl (Nat.ble_eq_true_of_le (show _ ≤ (20000 : Nat) from by omega)) ?_
  refine ⟨μ, ⟨rfl, show True from True.intro⟩, fun ov μ' hq => ?_, fun k hk => hk.elim⟩
  obtain ⟨hov3, hmu⟩ : ov = some (vI (M2 38 0 0)) ∧ μ' = M2 := hq
  rw [hov3, hmu, hth]
  show LW b L xs ER ET 1761 (n + 1) [some (vX b), some (vR 0 0), some (vR 38 0), some (vR 62 0), some (vI i), some (vI kk), some (vL bv), none] [vI kk] M2
  refine run_k 2 ?_
  show (kk = kk → LW b L xs ER ET 1768 (n + 1) [some (vX b), some (vR 0 0), some (vR 38 0), some (vR 62 0), some (vI i), some (vI kk), some (vL bv), none] [] M2) ∧ (kk ≠ kk → LW b L xs ER ET 1766 (n + 1) [some (vX b), some (vR 0 0), some (vR 38 0), some (vR 62 0), some (vI i), some (vI kk), some (vL bv), none] [] M2)
  refine ⟨fun c4 => ?_, fun c4 => ?_⟩
  · refine run_k 2 ?_
    show (kk ≠ 0 → LW b L xs ER ET 1784 (n + 1) [some (vX b), some (vR 0 0), some (vR 38 0), some (vR 62 0), some (vI i), some (vI kk), some (vL bv), none] [] M2) ∧ (kk = 0 → LW b L xs ER ET 1773 (n + 1) [some (vX b), some (vR 0 0), some (vR 38 0), some (vR 62 0), some (vI i), some (vI kk), some (vL bv), none] [] M2)
    refine ⟨fun c5 => ?_, fun c5 => ?_⟩
    · refine run_k 1 ?_
      show LW b L xs ER ET 1787 (n + 1) [some (vX b), some (vR 0 0), some (vR 38 0), some (vR 62 0), some (vI i), some (vI kk), some (vL bv), none] [] M2
      refine run_w (L' := [some (vX b), some (vR 0 0), some (vR 38 0), some (vR 62 0), some (vI i), none, none, none]) ⟨rfl, rfl, rfl, rfl, rfl, True.intro⟩ ?_
      exact hN _ _ hJ2 (by omega) (by omega)
    · refine run_k 6 ?_
      show (0 ≤ 0 ∧ 0 < 1) ∧ (((cmpL (M2 62 0 0) bv) = 0 → LW b L xs ER ET 1784 (n + 1) [some (vX b), some (vR 0 0), some (vR 38 0), some (vR 62 0), some (vI i), some (vI kk), some (vL bv), none] [] M2) ∧ ((cmpL (M2 62 0 0) bv) ≠ 0 → LW b L xs ER ET 1782 (n + 1) [some (vX b), some (vR 0 0), some (vR 38 0), some (vR 62 0), some (vI i), some (vI kk), some (vL bv), none] [] M2))
      refine ⟨by omega, ?_⟩
      refine ⟨fun c7 => ?_, fun c7 => ?_⟩
      · refine run_k 1 ?_
        show LW b L xs ER ET 1787 (n + 1) [some (vX b), some (vR 0 0), some (vR 38 0), some (vR 62 0), some (vI i), some (vI kk), some (vL bv), none] [] M2
        refine run_w (L' := [some (vX b), some (vR 0 0), some (vR 38 0), some (vR 62 0), some (vI i), none, none, none]) ⟨rfl, rfl, rfl, rfl, rfl, True.intro⟩ ?_
        exact hN _ _ hJ2 (by omega) (by omega)
      · refine run_k 2 ?_
        show bT _ ((0 = 0 ∨ 0 = 1) ∧ ER (some (vI 0)) M2)
        refine bT_i (Nat.ble_eq_true_of_le (show _ ≤ (20000 : Nat) from by omega)) ?_
        refine ⟨by omega, ?_⟩
        exfalso
        first | omega | exact absurd (hbv (by omega)) (cmpL_ne (by assumption)) | (have hz := hbv (by omega); have hz2 := cmpL_ne (by assumption); omega)
  · refine run_k 2 ?_
    show bT _ ((0 = 0 ∨ 0 = 1) ∧ ER (some (vI 0)) M2)
    refine bT_i (Nat.ble_eq_true_of_le (show _ ≤ (20000 : Nat) from by omega)) ?_
    refine ⟨by omega, ?_⟩
    exfalso
    first | omega | exact absurd (hbv (by omega)) (cmpL_ne (by assumption)) | (have hz := hbv (by omega); have hz2 := cmpL_ne (by assumption); omega)
