/-! ===== the class: its calls, continued -/
/-! ### Primeborrow.buy -/
def cl_X4_buy : Cl := (4, 4, fun σ as μ => as = [vR 0 0, vI (iaI as 1), vI (iaI as 2), vI (iaI as 3)] ∧ (CV μ), fun σ as μ ov μ' => (((0 ≤ (iaI as 1) ∧ (iaI as 1) ≤ 5) ∧ (0 ≤ (iaI as 2) ∧ (iaI as 2) ≤ 3)) ∧ (1 ≤ (iaI as 3) ∧ (iaI as 3) ≤ 500) ∧ (μ 5 0 (iaI as 1) = 0 ∧ μ 7 (iaI as 1) (iaI as 2) + (iaI as 3) ≤ 500)) ∧ ov = some (vL (buysF (al μ) (iaI as 1) (iaI as 2) (iaI as 3) 41 0 (iaI as 1))) ∧ al μ' = buysF (al μ) (iaI as 1) (iaI as 2) (iaI as 3) ∧ PB μ μ', fun σ as μ k => (k = 1 ∧ ¬ ((0 ≤ (iaI as 1) ∧ (iaI as 1) ≤ 5) ∧ (0 ≤ (iaI as 2) ∧ (iaI as 2) ≤ 3))) ∨ (k = 2 ∧ ((0 ≤ (iaI as 1) ∧ (iaI as 1) ≤ 5) ∧ (0 ≤ (iaI as 2) ∧ (iaI as 2) ≤ 3)) ∧ ¬ (1 ≤ (iaI as 3) ∧ (iaI as 3) ≤ 500)) ∨ (k = 3 ∧ ((0 ≤ (iaI as 1) ∧ (iaI as 1) ≤ 5) ∧ (0 ≤ (iaI as 2) ∧ (iaI as 2) ≤ 3)) ∧ (1 ≤ (iaI as 3) ∧ (iaI as 3) ≤ 500) ∧ ¬ (μ 5 0 (iaI as 1) = 0 ∧ μ 7 (iaI as 1) (iaI as 2) + (iaI as 3) ≤ 500)))
def cd_X4_buy : Cd := mkcd k_X4_buy co_X4 fl_X4 [(110, cl_X4_buyShares)] [(81, cl_X4_needClient), (72, cl_X4_needStock), (77, cl_X4_needRange), (86, cl_X4_needState)] [] [] 4 2 4
set_option maxHeartbeats 4000000 in
set_option maxRecDepth 20000 in
theorem run_X4_buy {ER : Option AV → Mm → Prop} {ET : Nat → Mm → Prop} (σ μ : Mm) (c s n : Int) (hM : MR fam0 μ) (h_c : in32 c) (h_s : in32 s) (h_n : in32 n) (hP : CV μ) (hER : ∀ ov μ', ((((0 ≤ c ∧ c ≤ 5) ∧ (0 ≤ s ∧ s ≤ 3)) ∧ (1 ≤ n ∧ n ≤ 500) ∧ (μ 5 0 c = 0 ∧ μ 7 c s + n ≤ 500)) ∧ ov = some (vL (buysF (al μ) c s n 41 0 c)) ∧ al μ' = buysF (al μ) c s n ∧ PB μ μ') → ER ov μ') (hET : ∀ k, ((k = 1 ∧ ¬ ((0 ≤ c ∧ c ≤ 5) ∧ (0 ≤ s ∧ s ≤ 3))) ∨ (k = 2 ∧ ((0 ≤ c ∧ c ≤ 5) ∧ (0 ≤ s ∧ s ≤ 3)) ∧ ¬ (1 ≤ n ∧ n ≤ 500)) ∨ (k = 3 ∧ ((0 ≤ c ∧ c ≤ 5) ∧ (0 ≤ s ∧ s ≤ 3)) ∧ (1 ≤ n ∧ n ≤ 500) ∧ ¬ (μ 5 0 c = 0 ∧ μ 7 c s + n ≤ 500))) → ET k μ) : Run fam0 none cd_X4_buy ER ET 0 0 [some (vR 0 0), some (vI c), some (vI s), some (vI n)] [] μ := by
  have hP0 := hP
  obtain ⟨hK, hW, hX, hC⟩ := hP
  have hkh : (0 ≤ c ∧ c ≤ 5) → (0 ≤ s ∧ s ≤ 3) → _ := fun q1 q2 => ki_held hK (c := c) (s := s) q1 q2
  refine run_k 2 ?_
  show ∃ σ : Mm, cl_X4_needClient.2.2.1 σ [vI c] μ ∧ (∀ ov μ', cl_X4_needClient.2.2.2.1 σ [vI c] μ ov μ' → Run fam0 none cd_X4_buy ER ET 4 1 [some (vR 0 0), some (vI c), some (vI s), some (vI n)] (ov.toList ++ []) μ') ∧ ∀ kx, cl_X4_needClient.2.2.2.2 σ [vI c] μ kx → thr cd_X4_buy ET (Run fam0 none cd_X4_buy ER ET) 1 1 [some (vR 0 0), some (vI c), some (vI s), some (vI n)] μ kx
  refine ⟨μ, ⟨rfl, show True from True.intro⟩, fun ov μ' hq => ?_, fun kx hk => (by have hk : kx = 1 ∧ ¬ (0 ≤ c ∧ c ≤ 5) := hk; exact hET kx (by omega))⟩
  obtain ⟨hov, hmu, hc1⟩ : ov = none ∧ μ' = μ ∧ (0 ≤ c ∧ c ≤ 5) := hq
  rw [hov, hmu]
  show Run fam0 none cd_X4_buy ER ET 4 1 [some (vR 0 0), some (vI c), some (vI s), some (vI n)] [] μ
  refine run_k 2 ?_
  show ∃ σ : Mm, cl_X4_needStock.2.2.1 σ [vI s] μ ∧ (∀ ov μ', cl_X4_needStock.2.2.2.1 σ [vI s] μ ov μ' → Run fam0 none cd_X4_buy ER ET 8 2 [some (vR 0 0), some (vI c), some (vI s), some (vI n)] (ov.toList ++ []) μ') ∧ ∀ kx, cl_X4_needStock.2.2.2.2 σ [vI s] μ kx → thr cd_X4_buy ET (Run fam0 none cd_X4_buy ER ET) 5 2 [some (vR 0 0), some (vI c), some (vI s), some (vI n)] μ kx
  refine ⟨μ, ⟨rfl, show True from True.intro⟩, fun ov μ' hq => ?_, fun kx hk => (by have hk : kx = 1 ∧ ¬ (0 ≤ s ∧ s ≤ 3) := hk; exact hET kx (by omega))⟩
  obtain ⟨hov, hmu, hc2⟩ : ov = none ∧ μ' = μ ∧ (0 ≤ s ∧ s ≤ 3) := hq
  rw [hov, hmu]
  show Run fam0 none cd_X4_buy ER ET 8 2 [some (vR 0 0), some (vI c), some (vI s), some (vI n)] [] μ
  refine run_k 4 ?_
  show ∃ σ : Mm, cl_X4_needRange.2.2.1 σ [vI n, vI 1, vI 500] μ ∧ (∀ ov μ', cl_X4_needRange.2.2.2.1 σ [vI n, vI 1, vI 500] μ ov μ' → Run fam0 none cd_X4_buy ER ET 16 3 [some (vR 0 0), some (vI c), some (vI s), some (vI n)] (ov.toList ++ []) μ') ∧ ∀ kx, cl_X4_needRange.2.2.2.2 σ [vI n, vI 1, vI 500] μ kx → thr cd_X4_buy ET (Run fam0 none cd_X4_buy ER ET) 13 3 [some (vR 0 0), some (vI c), some (vI s), some (vI n)] μ kx
  refine ⟨μ, ⟨rfl, show True from True.intro⟩, fun ov μ' hq => ?_, fun kx hk => (by have hk : kx = 2 ∧ ¬ (1 ≤ n ∧ n ≤ 500) := hk; exact hET kx (by omega))⟩
  obtain ⟨hov, hmu, hc3⟩ : ov = none ∧ μ' = μ ∧ (1 ≤ n ∧ n ≤ 500) := hq
  rw [hov, hmu]
  show Run fam0 none cd_X4_buy ER ET 16 3 [some (vR 0 0), some (vI c), some (vI s), some (vI n)] [] μ
  refine run_k 5 ?_
  show (0 ≤ c ∧ c < 6) ∧ (((μ 5 0 c) ≠ 0 → Run fam0 none cd_X4_buy ER ET 45 3 [some (vR 0 0), some (vI c), some (vI s), some (vI n)] [] μ) ∧ ((μ 5 0 c) = 0 → Run fam0 none cd_X4_buy ER ET 25 3 [some (vR 0 0), some (vI c), some (vI s), some (vI n)] [] μ))
  refine ⟨by omega, ?_⟩
  refine ⟨fun c4 => ?_, fun c4 => ?_⟩
  · refine run_k 2 ?_
    show ∃ σ : Mm, cl_X4_needState.2.2.1 σ [vI 0] μ ∧ (∀ ov μ', cl_X4_needState.2.2.2.1 σ [vI 0] μ ov μ' → Run fam0 none cd_X4_buy ER ET 49 4 [some (vR 0 0), some (vI c), some (vI s), some (vI n)] (ov.toList ++ []) μ') ∧ ∀ kx, cl_X4_needState.2.2.2.2 σ [vI 0] μ kx → thr cd_X4_buy ET (Run fam0 none cd_X4_buy ER ET) 46 4 [some (vR 0 0), some (vI c), some (vI s), some (vI n)] μ kx
    refine ⟨μ, ⟨rfl, show True from True.intro⟩, fun ov μ' hq => ?_, fun kx hk => (by have hk : kx = 3 ∧ ¬ ((0 : Int) ≠ 0) := hk; exact hET kx (by omega))⟩
    exact absurd rfl hq.2.2
  · refine run_k 10 ?_
    show (0 ≤ c ∧ c < 6) ∧ ((0 ≤ s ∧ s < 4) ∧ ((500 < (w32 ((μ 7 c s) + n)) → Run fam0 none cd_X4_buy ER ET 45 3 [some (vR 0 0), some (vI c), some (vI s), some (vI n)] [] μ) ∧ ((w32 ((μ 7 c s) + n)) ≤ 500 → Run fam0 none cd_X4_buy ER ET 41 3 [some (vR 0 0), some (vI c), some (vI s), some (vI n)] [] μ)))
    rw [show w32 ((μ 7 c s) + n) = (μ 7 c s) + n from w32_id (by simp only [in32]; omega)]
    refine ⟨by omega, ?_⟩
    refine ⟨by omega, ?_⟩
    refine ⟨fun c6 => ?_, fun c6 => ?_⟩
    · refine run_k 2 ?_
      show ∃ σ : Mm, cl_X4_needState.2.2.1 σ [vI 0] μ ∧ (∀ ov μ', cl_X4_needState.2.2.2.1 σ [vI 0] μ ov μ' → Run fam0 none cd_X4_buy ER ET 49 4 [some (vR 0 0), some (vI c), some (vI s), some (vI n)] (ov.toList ++ []) μ') ∧ ∀ kx, cl_X4_needState.2.2.2.2 σ [vI 0] μ kx → thr cd_X4_buy ET (Run fam0 none cd_X4_buy ER ET) 46 4 [some (vR 0 0), some (vI c), some (vI s), some (vI n)] μ kx
      refine ⟨μ, ⟨rfl, show True from True.intro⟩, fun ov μ' hq => ?_, fun kx hk => (by have hk : kx = 3 ∧ ¬ ((0 : Int) ≠ 0) := hk; exact hET kx (by omega))⟩
      exact absurd rfl hq.2.2
    · refine run_k 3 ?_
      show ∃ σ : Mm, cl_X4_needState.2.2.1 σ [vI 1] μ ∧ (∀ ov μ', cl_X4_needState.2.2.2.1 σ [vI 1] μ ov μ' → Run fam0 none cd_X4_buy ER ET 49 4 [some (vR 0 0), some (vI c), some (vI s), some (vI n)] (ov.toList ++ []) μ') ∧ ∀ kx, cl_X4_needState.2.2.2.2 σ [vI 1] μ kx → thr cd_X4_buy ET (Run fam0 none cd_X4_buy ER ET) 46 4 [some (vR 0 0), some (vI c), some (vI s), some (vI n)] μ kx
      refine ⟨μ, ⟨rfl, show True from True.intro⟩, fun ov μ' hq => ?_, fun kx hk => (by have hk : kx = 3 ∧ ¬ ((1 : Int) ≠ 0) := hk; exact hET kx (by omega))⟩
      obtain ⟨hov, hmu, hc8⟩ : ov = none ∧ μ' = μ ∧ ((1 : Int) ≠ 0) := hq
      rw [hov, hmu]
      show Run fam0 none cd_X4_buy ER ET 49 4 [some (vR 0 0), some (vI c), some (vI s), some (vI n)] [] μ
      refine run_k 5 ?_
      show ∃ σ : Mm, cl_X4_buyShares.2.2.1 σ [vR 0 0, vI c, vI s, vI n] μ ∧ (∀ ov μ', cl_X4_buyShares.2.2.2.1 σ [vR 0 0, vI c, vI s, vI n] μ ov μ' → Run fam0 none cd_X4_buy ER ET 56 4 [some (vR 0 0), some (vI c), some (vI s), some (vI n)] (ov.toList ++ []) μ') ∧ ∀ kx, cl_X4_buyShares.2.2.2.2 σ [vR 0 0, vI c, vI s, vI n] μ kx → thr cd_X4_buy ET (Run fam0 none cd_X4_buy ER ET) 53 4 [some (vR 0 0), some (vI c), some (vI s), some (vI n)] μ kx
      refine ⟨μ, ⟨rfl, show KI μ ∧ Wk (al μ) ∧ (0 ≤ c ∧ c ≤ 5) ∧ (0 ≤ s ∧ s ≤ 3) ∧ (1 ≤ n ∧ n ≤ 500) ∧ μ 7 c s + n ≤ 500 ∧ μ 5 0 c = 0 from ⟨by assumption, by assumption, by omega, by omega, by omega, by omega, by omega⟩⟩, fun ov μ' hq => ?_, fun k hk => hk.elim⟩
      obtain ⟨hov, hal1, hK1, hF1⟩ : ov = none ∧ al μ' = buysF (al μ) c s n ∧ KI μ' ∧ Fr μ μ' := hq
      rw [hov]
      clear hov
      rename Mm => M1
      show Run fam0 none cd_X4_buy ER ET 56 4 [some (vR 0 0), some (vI c), some (vI s), some (vI n)] [] M1
      refine run_k 5 ?_
      show (0 ≤ c ∧ c < 6) ∧ (ER (some (vL (M1 3 0 c))) M1)
      refine ⟨by omega, ?_⟩
      exact hER _ _ ⟨by omega, congrArg (fun z => some (vL z)) (by rw [← hal1]; rfl), hal1, PB_of hC hK1 hF1 (by rw [← al_n1 M1, hal1]; exact buysF_u _ _ _ _ (by decide) (by decide))⟩
set_option maxRecDepth 20000 in
theorem con_X4_buy (l : Launch) (htr : l.stackTraces = false) (σ : Mm) : CON fam0 63 l yX4_buy (Cond.code yX4_buy cX4_buy 4 (some .long) :: wm) 7 104 4 (cl_X4_buy.2.2.1 σ) (cl_X4_buy.2.2.2.1 σ) (cl_X4_buy.2.2.2.2 σ) :=
  con_of (cd := cd_X4_buy) (own := RX4) (rk := 2) (sc_of htr (by decide) k_X4_buy_ok (by decide +kernel) co_X4_ok fl_X4_ok (all_cons ⟨RX4, yX4_buyShares, cX4_buyShares, 5, none, 3, 78, 3, con_X4_buyShares l htr, rfl, vw_X4_110, ⟨rfl, by decide, by decide, by decide +kernel⟩, ⟨by decide, by decide⟩, fun σ as μ h => ⟨0, 0, _, h.1, rfl, TX4, 17, rfl⟩⟩ all_nil) (all_cons ⟨yX4_needClient, cX4_needClient, 1, none, 6, 82, con_X4_needClient l htr, vw_X4_81, ⟨by decide, by decide, by decide +kernel⟩, ⟨by decide, by decide⟩⟩ (all_cons ⟨yX4_needStock, cX4_needStock, 1, none, 6, 82, con_X4_needStock l htr, vw_X4_72, ⟨by decide, by decide, by decide +kernel⟩, ⟨by decide, by decide⟩⟩ (all_cons ⟨yX4_needRange, cX4_needRange, 3, none, 6, 82, con_X4_needRange l htr, vw_X4_77, ⟨by decide, by decide, by decide +kernel⟩, ⟨by decide, by decide⟩⟩ (all_cons ⟨yX4_needState, cX4_needState, 1, none, 6, 82, con_X4_needState l htr, vw_X4_86, ⟨by decide, by decide, by decide +kernel⟩, ⟨by decide, by decide⟩⟩ all_nil)))) all_nil) rfl (by decide +kernel) rfl rfl rfl rfl (fun as μ hs => by rw [hs.1]; exact Nat.le_of_ble_eq_true rfl)
    (fun as μ hs hM hrg => by
      have hs1 := hs.1
      have hmem : ∀ v, v ∈ ([vR 0 0, vI (iaI as 1), vI (iaI as 2), vI (iaI as 3)] : List AV) → rg fam0 v := by rw [← hs1]; exact hrg
      have key := run_X4_buy (ER := cl_X4_buy.2.2.2.1 σ as μ) (ET := fun k μ' => cl_X4_buy.2.2.2.2 σ as μ k ∧ μ' = μ) σ μ (iaI as 1) (iaI as 2) (iaI as 3) hM (hmem (vI (iaI as 1)) (by simp)) (hmem (vI (iaI as 2)) (by simp)) (hmem (vI (iaI as 3)) (by simp)) hs.2 (fun ov μ' h => h) (fun k h => ⟨h, rfl⟩)
      have e : entL as 4 = [some (vR 0 0), some (vI (iaI as 1)), some (vI (iaI as 2)), some (vI (iaI as 3))] := by rw [hs1]; rfl
      rw [e]; exact key)
/-! ### Primeborrow.sell -/
def cl_X4_sell : Cl := (4, 4, fun σ as μ => as = [vR 0 0, vI (iaI as 1), vI (iaI as 2), vI (iaI as 3)] ∧ (CV μ), fun σ as μ ov μ' => (((0 ≤ (iaI as 1) ∧ (iaI as 1) ≤ 5) ∧ (0 ≤ (iaI as 2) ∧ (iaI as 2) ≤ 3)) ∧ (1 ≤ (iaI as 3) ∧ (iaI as 3) ≤ 500) ∧ (μ 5 0 (iaI as 1) = 0 ∧ (iaI as 3) ≤ μ 7 (iaI as 1) (iaI as 2))) ∧ ov = some (vL (sellsF (al μ) (iaI as 1) (iaI as 2) (iaI as 3) 41 0 (iaI as 1))) ∧ al μ' = sellsF (al μ) (iaI as 1) (iaI as 2) (iaI as 3) ∧ PB μ μ', fun σ as μ k => (k = 1 ∧ ¬ ((0 ≤ (iaI as 1) ∧ (iaI as 1) ≤ 5) ∧ (0 ≤ (iaI as 2) ∧ (iaI as 2) ≤ 3))) ∨ (k = 2 ∧ ((0 ≤ (iaI as 1) ∧ (iaI as 1) ≤ 5) ∧ (0 ≤ (iaI as 2) ∧ (iaI as 2) ≤ 3)) ∧ ¬ (1 ≤ (iaI as 3) ∧ (iaI as 3) ≤ 500)) ∨ (k = 3 ∧ ((0 ≤ (iaI as 1) ∧ (iaI as 1) ≤ 5) ∧ (0 ≤ (iaI as 2) ∧ (iaI as 2) ≤ 3)) ∧ (1 ≤ (iaI as 3) ∧ (iaI as 3) ≤ 500) ∧ ¬ (μ 5 0 (iaI as 1) = 0 ∧ (iaI as 3) ≤ μ 7 (iaI as 1) (iaI as 2))))
def cd_X4_sell : Cd := mkcd k_X4_sell co_X4 fl_X4 [(113, cl_X4_sellShares)] [(81, cl_X4_needClient), (72, cl_X4_needStock), (77, cl_X4_needRange), (86, cl_X4_needState)] [] [] 4 2 4
set_option maxHeartbeats 4000000 in
set_option maxRecDepth 20000 in
theorem run_X4_sell {ER : Option AV → Mm → Prop} {ET : Nat → Mm → Prop} (σ μ : Mm) (c s n : Int) (hM : MR fam0 μ) (h_c : in32 c) (h_s : in32 s) (h_n : in32 n) (hP : CV μ) (hER : ∀ ov μ', ((((0 ≤ c ∧ c ≤ 5) ∧ (0 ≤ s ∧ s ≤ 3)) ∧ (1 ≤ n ∧ n ≤ 500) ∧ (μ 5 0 c = 0 ∧ n ≤ μ 7 c s)) ∧ ov = some (vL (sellsF (al μ) c s n 41 0 c)) ∧ al μ' = sellsF (al μ) c s n ∧ PB μ μ') → ER ov μ') (hET : ∀ k, ((k = 1 ∧ ¬ ((0 ≤ c ∧ c ≤ 5) ∧ (0 ≤ s ∧ s ≤ 3))) ∨ (k = 2 ∧ ((0 ≤ c ∧ c ≤ 5) ∧ (0 ≤ s ∧ s ≤ 3)) ∧ ¬ (1 ≤ n ∧ n ≤ 500)) ∨ (k = 3 ∧ ((0 ≤ c ∧ c ≤ 5) ∧ (0 ≤ s ∧ s ≤ 3)) ∧ (1 ≤ n ∧ n ≤ 500) ∧ ¬ (μ 5 0 c = 0 ∧ n ≤ μ 7 c s))) → ET k μ) : Run fam0 none cd_X4_sell ER ET 0 0 [some (vR 0 0), some (vI c), some (vI s), some (vI n)] [] μ := by
  have hP0 := hP
  obtain ⟨hK, hW, hX, hC⟩ := hP
  have hkh : (0 ≤ c ∧ c ≤ 5) → (0 ≤ s ∧ s ≤ 3) → _ := fun q1 q2 => ki_held hK (c := c) (s := s) q1 q2
  refine run_k 2 ?_
  show ∃ σ : Mm, cl_X4_needClient.2.2.1 σ [vI c] μ ∧ (∀ ov μ', cl_X4_needClient.2.2.2.1 σ [vI c] μ ov μ' → Run fam0 none cd_X4_sell ER ET 4 1 [some (vR 0 0), some (vI c), some (vI s), some (vI n)] (ov.toList ++ []) μ') ∧ ∀ kx, cl_X4_needClient.2.2.2.2 σ [vI c] μ kx → thr cd_X4_sell ET (Run fam0 none cd_X4_sell ER ET) 1 1 [some (vR 0 0), some (vI c), some (vI s), some (vI n)] μ kx
  refine ⟨μ, ⟨rfl, show True from True.intro⟩, fun ov μ' hq => ?_, fun kx hk => (by have hk : kx = 1 ∧ ¬ (0 ≤ c ∧ c ≤ 5) := hk; exact hET kx (by omega))⟩
  obtain ⟨hov, hmu, hc1⟩ : ov = none ∧ μ' = μ ∧ (0 ≤ c ∧ c ≤ 5) := hq
  rw [hov, hmu]
  show Run fam0 none cd_X4_sell ER ET 4 1 [some (vR 0 0), some (vI c), some (vI s), some (vI n)] [] μ
  refine run_k 2 ?_
  show ∃ σ : Mm, cl_X4_needStock.2.2.1 σ [vI s] μ ∧ (∀ ov μ', cl_X4_needStock.2.2.2.1 σ [vI s] μ ov μ' → Run fam0 none cd_X4_sell ER ET 8 2 [some (vR 0 0), some (vI c), some (vI s), some (vI n)] (ov.toList ++ []) μ') ∧ ∀ kx, cl_X4_needStock.2.2.2.2 σ [vI s] μ kx → thr cd_X4_sell ET (Run fam0 none cd_X4_sell ER ET) 5 2 [some (vR 0 0), some (vI c), some (vI s), some (vI n)] μ kx
  refine ⟨μ, ⟨rfl, show True from True.intro⟩, fun ov μ' hq => ?_, fun kx hk => (by have hk : kx = 1 ∧ ¬ (0 ≤ s ∧ s ≤ 3) := hk; exact hET kx (by omega))⟩
  obtain ⟨hov, hmu, hc2⟩ : ov = none ∧ μ' = μ ∧ (0 ≤ s ∧ s ≤ 3) := hq
  rw [hov, hmu]
  show Run fam0 none cd_X4_sell ER ET 8 2 [some (vR 0 0), some (vI c), some (vI s), some (vI n)] [] μ
  refine run_k 4 ?_
  show ∃ σ : Mm, cl_X4_needRange.2.2.1 σ [vI n, vI 1, vI 500] μ ∧ (∀ ov μ', cl_X4_needRange.2.2.2.1 σ [vI n, vI 1, vI 500] μ ov μ' → Run fam0 none cd_X4_sell ER ET 16 3 [some (vR 0 0), some (vI c), some (vI s), some (vI n)] (ov.toList ++ []) μ') ∧ ∀ kx, cl_X4_needRange.2.2.2.2 σ [vI n, vI 1, vI 500] μ kx → thr cd_X4_sell ET (Run fam0 none cd_X4_sell ER ET) 13 3 [some (vR 0 0), some (vI c), some (vI s), some (vI n)] μ kx
  refine ⟨μ, ⟨rfl, show True from True.intro⟩, fun ov μ' hq => ?_, fun kx hk => (by have hk : kx = 2 ∧ ¬ (1 ≤ n ∧ n ≤ 500) := hk; exact hET kx (by omega))⟩
  obtain ⟨hov, hmu, hc3⟩ : ov = none ∧ μ' = μ ∧ (1 ≤ n ∧ n ≤ 500) := hq
  rw [hov, hmu]
  show Run fam0 none cd_X4_sell ER ET 16 3 [some (vR 0 0), some (vI c), some (vI s), some (vI n)] [] μ
  refine run_k 5 ?_
  show (0 ≤ c ∧ c < 6) ∧ (((μ 5 0 c) ≠ 0 → Run fam0 none cd_X4_sell ER ET 41 3 [some (vR 0 0), some (vI c), some (vI s), some (vI n)] [] μ) ∧ ((μ 5 0 c) = 0 → Run fam0 none cd_X4_sell ER ET 25 3 [some (vR 0 0), some (vI c), some (vI s), some (vI n)] [] μ))
  refine ⟨by omega, ?_⟩
  refine ⟨fun c4 => ?_, fun c4 => ?_⟩
  · refine run_k 2 ?_
    show ∃ σ : Mm, cl_X4_needState.2.2.1 σ [vI 0] μ ∧ (∀ ov μ', cl_X4_needState.2.2.2.1 σ [vI 0] μ ov μ' → Run fam0 none cd_X4_sell ER ET 45 4 [some (vR 0 0), some (vI c), some (vI s), some (vI n)] (ov.toList ++ []) μ') ∧ ∀ kx, cl_X4_needState.2.2.2.2 σ [vI 0] μ kx → thr cd_X4_sell ET (Run fam0 none cd_X4_sell ER ET) 42 4 [some (vR 0 0), some (vI c), some (vI s), some (vI n)] μ kx
    refine ⟨μ, ⟨rfl, show True from True.intro⟩, fun ov μ' hq => ?_, fun kx hk => (by have hk : kx = 3 ∧ ¬ ((0 : Int) ≠ 0) := hk; exact hET kx (by omega))⟩
    exact absurd rfl hq.2.2
  · refine run_k 8 ?_
    show (0 ≤ c ∧ c < 6) ∧ ((0 ≤ s ∧ s < 4) ∧ (((μ 7 c s) < n → Run fam0 none cd_X4_sell ER ET 41 3 [some (vR 0 0), some (vI c), some (vI s), some (vI n)] [] μ) ∧ (n ≤ (μ 7 c s) → Run fam0 none cd_X4_sell ER ET 37 3 [some (vR 0 0), some (vI c), some (vI s), some (vI n)] [] μ)))
    refine ⟨by omega, ?_⟩
    refine ⟨by omega, ?_⟩
    refine ⟨fun c6 => ?_, fun c6 => ?_⟩
    · refine run_k 2 ?_
      show ∃ σ : Mm, cl_X4_needState.2.2.1 σ [vI 0] μ ∧ (∀ ov μ', cl_X4_needState.2.2.2.1 σ [vI 0] μ ov μ' → Run fam0 none cd_X4_sell ER ET 45 4 [some (vR 0 0), some (vI c), some (vI s), some (vI n)] (ov.toList ++ []) μ') ∧ ∀ kx, cl_X4_needState.2.2.2.2 σ [vI 0] μ kx → thr cd_X4_sell ET (Run fam0 none cd_X4_sell ER ET) 42 4 [some (vR 0 0), some (vI c), some (vI s), some (vI n)] μ kx
      refine ⟨μ, ⟨rfl, show True from True.intro⟩, fun ov μ' hq => ?_, fun kx hk => (by have hk : kx = 3 ∧ ¬ ((0 : Int) ≠ 0) := hk; exact hET kx (by omega))⟩
      exact absurd rfl hq.2.2
    · refine run_k 3 ?_
      show ∃ σ : Mm, cl_X4_needState.2.2.1 σ [vI 1] μ ∧ (∀ ov μ', cl_X4_needState.2.2.2.1 σ [vI 1] μ ov μ' → Run fam0 none cd_X4_sell ER ET 45 4 [some (vR 0 0), some (vI c), some (vI s), some (vI n)] (ov.toList ++ []) μ') ∧ ∀ kx, cl_X4_needState.2.2.2.2 σ [vI 1] μ kx → thr cd_X4_sell ET (Run fam0 none cd_X4_sell ER ET) 42 4 [some (vR 0 0), some (vI c), some (vI s), some (vI n)] μ kx
      refine ⟨μ, ⟨rfl, show True from True.intro⟩, fun ov μ' hq => ?_, fun kx hk => (by have hk : kx = 3 ∧ ¬ ((1 : Int) ≠ 0) := hk; exact hET kx (by omega))⟩
      obtain ⟨hov, hmu, hc8⟩ : ov = none ∧ μ' = μ ∧ ((1 : Int) ≠ 0) := hq
      rw [hov, hmu]
      show Run fam0 none cd_X4_sell ER ET 45 4 [some (vR 0 0), some (vI c), some (vI s), some (vI n)] [] μ
      refine run_k 5 ?_
      show ∃ σ : Mm, cl_X4_sellShares.2.2.1 σ [vR 0 0, vI c, vI s, vI n] μ ∧ (∀ ov μ', cl_X4_sellShares.2.2.2.1 σ [vR 0 0, vI c, vI s, vI n] μ ov μ' → Run fam0 none cd_X4_sell ER ET 52 4 [some (vR 0 0), some (vI c), some (vI s), some (vI n)] (ov.toList ++ []) μ') ∧ ∀ kx, cl_X4_sellShares.2.2.2.2 σ [vR 0 0, vI c, vI s, vI n] μ kx → thr cd_X4_sell ET (Run fam0 none cd_X4_sell ER ET) 49 4 [some (vR 0 0), some (vI c), some (vI s), some (vI n)] μ kx
      refine ⟨μ, ⟨rfl, show KI μ ∧ Wk (al μ) ∧ (0 ≤ c ∧ c ≤ 5) ∧ (0 ≤ s ∧ s ≤ 3) ∧ (1 ≤ n ∧ n ≤ μ 7 c s) from ⟨by assumption, by assumption, by omega, by omega, by omega⟩⟩, fun ov μ' hq => ?_, fun k hk => hk.elim⟩
      obtain ⟨hov, hal1, hK1, hF1⟩ : ov = none ∧ al μ' = sellsF (al μ) c s n ∧ KI μ' ∧ Fr μ μ' := hq
      rw [hov]
      clear hov
      rename Mm => M1
      show Run fam0 none cd_X4_sell ER ET 52 4 [some (vR 0 0), some (vI c), some (vI s), some (vI n)] [] M1
      refine run_k 5 ?_
      show (0 ≤ c ∧ c < 6) ∧ (ER (some (vL (M1 3 0 c))) M1)
      refine ⟨by omega, ?_⟩
      exact hER _ _ ⟨by omega, congrArg (fun z => some (vL z)) (by rw [← hal1]; rfl), hal1, PB_of hC hK1 hF1 (by rw [← al_n1 M1, hal1]; exact sellsF_u _ _ _ _ (by decide) (by decide) (by decide))⟩
set_option maxRecDepth 20000 in
theorem con_X4_sell (l : Launch) (htr : l.stackTraces = false) (σ : Mm) : CON fam0 63 l yX4_sell (Cond.code yX4_sell cX4_sell 4 (some .long) :: wm) 7 130 4 (cl_X4_sell.2.2.1 σ) (cl_X4_sell.2.2.2.1 σ) (cl_X4_sell.2.2.2.2 σ) :=
  con_of (cd := cd_X4_sell) (own := RX4) (rk := 2) (sc_of htr (by decide) k_X4_sell_ok (by decide +kernel) co_X4_ok fl_X4_ok (all_cons ⟨RX4, yX4_sellShares, cX4_sellShares, 5, none, 4, 106, 3, con_X4_sellShares l htr, rfl, vw_X4_113, ⟨rfl, by decide, by decide, by decide +kernel⟩, ⟨by decide, by decide⟩, fun σ as μ h => ⟨0, 0, _, h.1, rfl, TX4, 17, rfl⟩⟩ all_nil) (all_cons ⟨yX4_needClient, cX4_needClient, 1, none, 6, 82, con_X4_needClient l htr, vw_X4_81, ⟨by decide, by decide, by decide +kernel⟩, ⟨by decide, by decide⟩⟩ (all_cons ⟨yX4_needStock, cX4_needStock, 1, none, 6, 82, con_X4_needStock l htr, vw_X4_72, ⟨by decide, by decide, by decide +kernel⟩, ⟨by decide, by decide⟩⟩ (all_cons ⟨yX4_needRange, cX4_needRange, 3, none, 6, 82, con_X4_needRange l htr, vw_X4_77, ⟨by decide, by decide, by decide +kernel⟩, ⟨by decide, by decide⟩⟩ (all_cons ⟨yX4_needState, cX4_needState, 1, none, 6, 82, con_X4_needState l htr, vw_X4_86, ⟨by decide, by decide, by decide +kernel⟩, ⟨by decide, by decide⟩⟩ all_nil)))) all_nil) rfl (by decide +kernel) rfl rfl rfl rfl (fun as μ hs => by rw [hs.1]; exact Nat.le_of_ble_eq_true rfl)
    (fun as μ hs hM hrg => by
      have hs1 := hs.1
      have hmem : ∀ v, v ∈ ([vR 0 0, vI (iaI as 1), vI (iaI as 2), vI (iaI as 3)] : List AV) → rg fam0 v := by rw [← hs1]; exact hrg
      have key := run_X4_sell (ER := cl_X4_sell.2.2.2.1 σ as μ) (ET := fun k μ' => cl_X4_sell.2.2.2.2 σ as μ k ∧ μ' = μ) σ μ (iaI as 1) (iaI as 2) (iaI as 3) hM (hmem (vI (iaI as 1)) (by simp)) (hmem (vI (iaI as 2)) (by simp)) (hmem (vI (iaI as 3)) (by simp)) hs.2 (fun ov μ' h => h) (fun k h => ⟨h, rfl⟩)
      have e : entL as 4 = [some (vR 0 0), some (vI (iaI as 1)), some (vI (iaI as 2)), some (vI (iaI as 3))] := by rw [hs1]; rfl
      rw [e]; exact key)
/-! ### Primeborrow.locate -/
def cl_X4_locate : Cl := (4, 5, fun σ as μ => as = [vR 0 0, vI (iaI as 1), vI (iaI as 2), vI (iaI as 3)] ∧ (CV μ), fun σ as μ ov μ' => (((0 ≤ (iaI as 1) ∧ (iaI as 1) ≤ 5) ∧ (0 ≤ (iaI as 2) ∧ (iaI as 2) ≤ 3)) ∧ (1 ≤ (iaI as 3) ∧ (iaI as 3) ≤ 500) ∧ ((μ 5 0 (iaI as 1) = 0 ∧ μ 21 0 5 < 60) ∧ (iaI as 3) ≤ canF (al μ) (iaI as 1) (iaI as 2))) ∧ ov = some (vI (μ 21 0 5)) ∧ al μ' = st (st (st (st (st (al μ) 53 0 (μ 21 0 5) (iaI as 1)) 54 0 (μ 21 0 5) (iaI as 2)) 55 0 (μ 21 0 5) (iaI as 3)) 56 0 (μ 21 0 5) (μ 0 0 14)) 38 0 17 (μ 21 0 5 + 1) ∧ PB μ μ', fun σ as μ k => (k = 1 ∧ ¬ ((0 ≤ (iaI as 1) ∧ (iaI as 1) ≤ 5) ∧ (0 ≤ (iaI as 2) ∧ (iaI as 2) ≤ 3))) ∨ (k = 2 ∧ ((0 ≤ (iaI as 1) ∧ (iaI as 1) ≤ 5) ∧ (0 ≤ (iaI as 2) ∧ (iaI as 2) ≤ 3)) ∧ ¬ (1 ≤ (iaI as 3) ∧ (iaI as 3) ≤ 500)) ∨ (k = 3 ∧ ((0 ≤ (iaI as 1) ∧ (iaI as 1) ≤ 5) ∧ (0 ≤ (iaI as 2) ∧ (iaI as 2) ≤ 3)) ∧ (1 ≤ (iaI as 3) ∧ (iaI as 3) ≤ 500) ∧ ¬ ((μ 5 0 (iaI as 1) = 0 ∧ μ 21 0 5 < 60) ∧ (iaI as 3) ≤ canF (al μ) (iaI as 1) (iaI as 2))))
def cd_X4_locate : Cd := mkcd k_X4_locate co_X4 fl_X4 [(119, cl_X4_borrowable), (123, cl_X2_add)] [(81, cl_X4_needClient), (72, cl_X4_needStock), (77, cl_X4_needRange), (86, cl_X4_needState)] [] [] 4 1 5
set_option maxHeartbeats 4000000 in
set_option maxRecDepth 20000 in
theorem run_X4_locate {ER : Option AV → Mm → Prop} {ET : Nat → Mm → Prop} (σ μ : Mm) (c s n : Int) (hM : MR fam0 μ) (h_c : in32 c) (h_s : in32 s) (h_n : in32 n) (hP : CV μ) (hER : ∀ ov μ', ((((0 ≤ c ∧ c ≤ 5) ∧ (0 ≤ s ∧ s ≤ 3)) ∧ (1 ≤ n ∧ n ≤ 500) ∧ ((μ 5 0 c = 0 ∧ μ 21 0 5 < 60) ∧ n ≤ canF (al μ) c s)) ∧ ov = some (vI (μ 21 0 5)) ∧ al μ' = st (st (st (st (st (al μ) 53 0 (μ 21 0 5) c) 54 0 (μ 21 0 5) s) 55 0 (μ 21 0 5) n) 56 0 (μ 21 0 5) (μ 0 0 14)) 38 0 17 (μ 21 0 5 + 1) ∧ PB μ μ') → ER ov μ') (hET : ∀ k, ((k = 1 ∧ ¬ ((0 ≤ c ∧ c ≤ 5) ∧ (0 ≤ s ∧ s ≤ 3))) ∨ (k = 2 ∧ ((0 ≤ c ∧ c ≤ 5) ∧ (0 ≤ s ∧ s ≤ 3)) ∧ ¬ (1 ≤ n ∧ n ≤ 500)) ∨ (k = 3 ∧ ((0 ≤ c ∧ c ≤ 5) ∧ (0 ≤ s ∧ s ≤ 3)) ∧ (1 ≤ n ∧ n ≤ 500) ∧ ¬ ((μ 5 0 c = 0 ∧ μ 21 0 5 < 60) ∧ n ≤ canF (al μ) c s))) → ET k μ) : Run fam0 none cd_X4_locate ER ET 0 0 [some (vR 0 0), some (vI c), some (vI s), some (vI n)] [] μ := by
  have hP0 := hP
  obtain ⟨hK, hW, hX, hC⟩ := hP
  have hk0 : 0 ≤ μ 21 0 5 ∧ μ 21 0 5 ≤ 60 := hX.2.1.1
  have hd0 : 0 ≤ μ 0 0 14 ∧ μ 0 0 14 ≤ 500 := hX.1
  refine run_k 2 ?_
  show ∃ σ : Mm, cl_X4_needClient.2.2.1 σ [vI c] μ ∧ (∀ ov μ', cl_X4_needClient.2.2.2.1 σ [vI c] μ ov μ' → Run fam0 none cd_X4_locate ER ET 4 1 [some (vR 0 0), some (vI c), some (vI s), some (vI n)] (ov.toList ++ []) μ') ∧ ∀ kx, cl_X4_needClient.2.2.2.2 σ [vI c] μ kx → thr cd_X4_locate ET (Run fam0 none cd_X4_locate ER ET) 1 1 [some (vR 0 0), some (vI c), some (vI s), some (vI n)] μ kx
  refine ⟨μ, ⟨rfl, show True from True.intro⟩, fun ov μ' hq => ?_, fun kx hk => (by have hk : kx = 1 ∧ ¬ (0 ≤ c ∧ c ≤ 5) := hk; exact hET kx (by omega))⟩
  obtain ⟨hov, hmu, hc1⟩ : ov = none ∧ μ' = μ ∧ (0 ≤ c ∧ c ≤ 5) := hq
  rw [hov, hmu]
  show Run fam0 none cd_X4_locate ER ET 4 1 [some (vR 0 0), some (vI c), some (vI s), some (vI n)] [] μ
  refine run_k 2 ?_
  show ∃ σ : Mm, cl_X4_needStock.2.2.1 σ [vI s] μ ∧ (∀ ov μ', cl_X4_needStock.2.2.2.1 σ [vI s] μ ov μ' → Run fam0 none cd_X4_locate ER ET 8 2 [some (vR 0 0), some (vI c), some (vI s), some (vI n)] (ov.toList ++ []) μ') ∧ ∀ kx, cl_X4_needStock.2.2.2.2 σ [vI s] μ kx → thr cd_X4_locate ET (Run fam0 none cd_X4_locate ER ET) 5 2 [some (vR 0 0), some (vI c), some (vI s), some (vI n)] μ kx
  refine ⟨μ, ⟨rfl, show True from True.intro⟩, fun ov μ' hq => ?_, fun kx hk => (by have hk : kx = 1 ∧ ¬ (0 ≤ s ∧ s ≤ 3) := hk; exact hET kx (by omega))⟩
  obtain ⟨hov, hmu, hc2⟩ : ov = none ∧ μ' = μ ∧ (0 ≤ s ∧ s ≤ 3) := hq
  rw [hov, hmu]
  show Run fam0 none cd_X4_locate ER ET 8 2 [some (vR 0 0), some (vI c), some (vI s), some (vI n)] [] μ
  refine run_k 4 ?_
  show ∃ σ : Mm, cl_X4_needRange.2.2.1 σ [vI n, vI 1, vI 500] μ ∧ (∀ ov μ', cl_X4_needRange.2.2.2.1 σ [vI n, vI 1, vI 500] μ ov μ' → Run fam0 none cd_X4_locate ER ET 16 3 [some (vR 0 0), some (vI c), some (vI s), some (vI n)] (ov.toList ++ []) μ') ∧ ∀ kx, cl_X4_needRange.2.2.2.2 σ [vI n, vI 1, vI 500] μ kx → thr cd_X4_locate ET (Run fam0 none cd_X4_locate ER ET) 13 3 [some (vR 0 0), some (vI c), some (vI s), some (vI n)] μ kx
  refine ⟨μ, ⟨rfl, show True from True.intro⟩, fun ov μ' hq => ?_, fun kx hk => (by have hk : kx = 2 ∧ ¬ (1 ≤ n ∧ n ≤ 500) := hk; exact hET kx (by omega))⟩
  obtain ⟨hov, hmu, hc3⟩ : ov = none ∧ μ' = μ ∧ (1 ≤ n ∧ n ≤ 500) := hq
  rw [hov, hmu]
  show Run fam0 none cd_X4_locate ER ET 16 3 [some (vR 0 0), some (vI c), some (vI s), some (vI n)] [] μ
  refine run_k 5 ?_
  show (0 ≤ c ∧ c < 6) ∧ (((μ 5 0 c) ≠ 0 → Run fam0 none cd_X4_locate ER ET 41 3 [some (vR 0 0), some (vI c), some (vI s), some (vI n)] [] μ) ∧ ((μ 5 0 c) = 0 → Run fam0 none cd_X4_locate ER ET 25 3 [some (vR 0 0), some (vI c), some (vI s), some (vI n)] [] μ))
  refine ⟨by omega, ?_⟩
  refine ⟨fun c4 => ?_, fun c4 => ?_⟩
  · refine run_k 2 ?_
    show ∃ σ : Mm, cl_X4_needState.2.2.1 σ [vI 0] μ ∧ (∀ ov μ', cl_X4_needState.2.2.2.1 σ [vI 0] μ ov μ' → Run fam0 none cd_X4_locate ER ET 45 4 [some (vR 0 0), some (vI c), some (vI s), some (vI n)] (ov.toList ++ []) μ') ∧ ∀ kx, cl_X4_needState.2.2.2.2 σ [vI 0] μ kx → thr cd_X4_locate ET (Run fam0 none cd_X4_locate ER ET) 42 4 [some (vR 0 0), some (vI c), some (vI s), some (vI n)] μ kx
    refine ⟨μ, ⟨rfl, show True from True.intro⟩, fun ov μ' hq => ?_, fun kx hk => (by have hk : kx = 3 ∧ ¬ ((0 : Int) ≠ 0) := hk; exact hET kx (by omega))⟩
    exact absurd rfl hq.2.2
  · refine run_k 5 ?_
    show (60 ≤ (μ 21 0 5) → Run fam0 none cd_X4_locate ER ET 41 3 [some (vR 0 0), some (vI c), some (vI s), some (vI n)] [] μ) ∧ ((μ 21 0 5) < 60 → Run fam0 none cd_X4_locate ER ET 37 3 [some (vR 0 0), some (vI c), some (vI s), some (vI n)] [] μ)
    refine ⟨fun c6 => ?_, fun c6 => ?_⟩
    · refine run_k 2 ?_
      show ∃ σ : Mm, cl_X4_needState.2.2.1 σ [vI 0] μ ∧ (∀ ov μ', cl_X4_needState.2.2.2.1 σ [vI 0] μ ov μ' → Run fam0 none cd_X4_locate ER ET 45 4 [some (vR 0 0), some (vI c), some (vI s), some (vI n)] (ov.toList ++ []) μ') ∧ ∀ kx, cl_X4_needState.2.2.2.2 σ [vI 0] μ kx → thr cd_X4_locate ET (Run fam0 none cd_X4_locate ER ET) 42 4 [some (vR 0 0), some (vI c), some (vI s), some (vI n)] μ kx
      refine ⟨μ, ⟨rfl, show True from True.intro⟩, fun ov μ' hq => ?_, fun kx hk => (by have hk : kx = 3 ∧ ¬ ((0 : Int) ≠ 0) := hk; exact hET kx (by omega))⟩
      exact absurd rfl hq.2.2
    · refine run_k 3 ?_
      show ∃ σ : Mm, cl_X4_needState.2.2.1 σ [vI 1] μ ∧ (∀ ov μ', cl_X4_needState.2.2.2.1 σ [vI 1] μ ov μ' → Run fam0 none cd_X4_locate ER ET 45 4 [some (vR 0 0), some (vI c), some (vI s), some (vI n)] (ov.toList ++ []) μ') ∧ ∀ kx, cl_X4_needState.2.2.2.2 σ [vI 1] μ kx → thr cd_X4_locate ET (Run fam0 none cd_X4_locate ER ET) 42 4 [some (vR 0 0), some (vI c), some (vI s), some (vI n)] μ kx
      refine ⟨μ, ⟨rfl, show True from True.intro⟩, fun ov μ' hq => ?_, fun kx hk => (by have hk : kx = 3 ∧ ¬ ((1 : Int) ≠ 0) := hk; exact hET kx (by omega))⟩
      obtain ⟨hov, hmu, hc8⟩ : ov = none ∧ μ' = μ ∧ ((1 : Int) ≠ 0) := hq
      rw [hov, hmu]
      show Run fam0 none cd_X4_locate ER ET 45 4 [some (vR 0 0), some (vI c), some (vI s), some (vI n)] [] μ
      refine run_k 4 ?_
      show ∃ σ : Mm, cl_X4_borrowable.2.2.1 σ [vR 0 0, vI s, vI c] μ ∧ (∀ ov μ', cl_X4_borrowable.2.2.2.1 σ [vR 0 0, vI s, vI c] μ ov μ' → Run fam0 none cd_X4_locate ER ET 51 4 [some (vR 0 0), some (vI c), some (vI s), some (vI n)] (ov.toList ++ []) μ') ∧ ∀ kx, cl_X4_borrowable.2.2.2.2 σ [vR 0 0, vI s, vI c] μ kx → thr cd_X4_locate ET (Run fam0 none cd_X4_locate ER ET) 48 4 [some (vR 0 0), some (vI c), some (vI s), some (vI n)] μ kx
      refine ⟨μ, ⟨rfl, show KI μ ∧ (0 ≤ s ∧ s ≤ 3) ∧ (0 ≤ c ∧ c ≤ 5) from ⟨by assumption, by omega, by omega⟩⟩, fun ov μ' hq => ?_, fun k hk => hk.elim⟩
      obtain ⟨hov, hmu⟩ : ov = some (vI (canF (al μ) c s)) ∧ μ' = μ := hq
      rw [hov, hmu]
      show Run fam0 none cd_X4_locate ER ET 51 4 [some (vR 0 0), some (vI c), some (vI s), some (vI n)] [vI (canF (al μ) c s)] μ
      refine run_k 2 ?_
      show ((canF (al μ) c s) < n → Run fam0 none cd_X4_locate ER ET 59 4 [some (vR 0 0), some (vI c), some (vI s), some (vI n)] [] μ) ∧ (n ≤ (canF (al μ) c s) → Run fam0 none cd_X4_locate ER ET 55 4 [some (vR 0 0), some (vI c), some (vI s), some (vI n)] [] μ)
      refine ⟨fun c10 => ?_, fun c10 => ?_⟩
      · refine run_k 2 ?_
        show ∃ σ : Mm, cl_X4_needState.2.2.1 σ [vI 0] μ ∧ (∀ ov μ', cl_X4_needState.2.2.2.1 σ [vI 0] μ ov μ' → Run fam0 none cd_X4_locate ER ET 63 5 [some (vR 0 0), some (vI c), some (vI s), some (vI n)] (ov.toList ++ []) μ') ∧ ∀ kx, cl_X4_needState.2.2.2.2 σ [vI 0] μ kx → thr cd_X4_locate ET (Run fam0 none cd_X4_locate ER ET) 60 5 [some (vR 0 0), some (vI c), some (vI s), some (vI n)] μ kx
        refine ⟨μ, ⟨rfl, show True from True.intro⟩, fun ov μ' hq => ?_, fun kx hk => (by have hk : kx = 3 ∧ ¬ ((0 : Int) ≠ 0) := hk; exact hET kx (by omega))⟩
        exact absurd rfl hq.2.2
      · refine run_k 3 ?_
        show ∃ σ : Mm, cl_X4_needState.2.2.1 σ [vI 1] μ ∧ (∀ ov μ', cl_X4_needState.2.2.2.1 σ [vI 1] μ ov μ' → Run fam0 none cd_X4_locate ER ET 63 5 [some (vR 0 0), some (vI c), some (vI s), some (vI n)] (ov.toList ++ []) μ') ∧ ∀ kx, cl_X4_needState.2.2.2.2 σ [vI 1] μ kx → thr cd_X4_locate ET (Run fam0 none cd_X4_locate ER ET) 60 5 [some (vR 0 0), some (vI c), some (vI s), some (vI n)] μ kx
        refine ⟨μ, ⟨rfl, show True from True.intro⟩, fun ov μ' hq => ?_, fun kx hk => (by have hk : kx = 3 ∧ ¬ ((1 : Int) ≠ 0) := hk; exact hET kx (by omega))⟩
        obtain ⟨hov, hmu, hc12⟩ : ov = none ∧ μ' = μ ∧ ((1 : Int) ≠ 0) := hq
        rw [hov, hmu]
        show Run fam0 none cd_X4_locate ER ET 63 5 [some (vR 0 0), some (vI c), some (vI s), some (vI n)] [] μ
        refine run_k 10 ?_
        show ∃ σ : Mm, cl_X2_add.2.2.1 σ [vR 21 0, vI c, vI s, vI n, vI (w32 ((μ 0 0 14) + 1))] μ ∧ (∀ ov μ', cl_X2_add.2.2.2.1 σ [vR 21 0, vI c, vI s, vI n, vI (w32 ((μ 0 0 14) + 1))] μ ov μ' → Run fam0 none cd_X4_locate ER ET 79 5 [some (vR 0 0), some (vI c), some (vI s), some (vI n)] (ov.toList ++ []) μ') ∧ ∀ kx, cl_X2_add.2.2.2.2 σ [vR 21 0, vI c, vI s, vI n, vI (w32 ((μ 0 0 14) + 1))] μ kx → thr cd_X4_locate ET (Run fam0 none cd_X4_locate ER ET) 76 5 [some (vR 0 0), some (vI c), some (vI s), some (vI n)] μ kx
        rw [show w32 ((μ 0 0 14) + 1) = (μ 0 0 14) + 1 from w32_id (by simp only [in32]; omega)]
        refine ⟨μ, ⟨rfl, show 0 ≤ μ 21 0 5 ∧ μ 21 0 5 < 60 from (show 0 ≤ μ 21 0 5 ∧ μ 21 0 5 < 60 from by omega)⟩, fun ov μ' hq => ?_, fun k hk => hk.elim⟩
        obtain ⟨hov, hmu⟩ : ov = none ∧ μ' = st (st (st (st (st μ 22 0 (μ 21 0 5) c) 23 0 (μ 21 0 5) s) 24 0 (μ 21 0 5) n) 25 0 (μ 21 0 5) ((μ 0 0 14) + 1)) 21 0 5 ((μ 21 0 5) + 1) := hq
        rw [hov, hmu]
        show Run fam0 none cd_X4_locate ER ET 79 5 [some (vR 0 0), some (vI c), some (vI s), some (vI n)] [] (st (st (st (st (st μ 22 0 (μ 21 0 5) c) 23 0 (μ 21 0 5) s) 24 0 (μ 21 0 5) n) 25 0 (μ 21 0 5) ((μ 0 0 14) + 1)) 21 0 5 ((μ 21 0 5) + 1))
        refine run_k 6 ?_
        show ER (some (vI (w32 (((μ 21 0 5) + 1) - 1)))) (st (st (st (st (st μ 22 0 (μ 21 0 5) c) 23 0 (μ 21 0 5) s) 24 0 (μ 21 0 5) n) 25 0 (μ 21 0 5) ((μ 0 0 14) + 1)) 21 0 5 ((μ 21 0 5) + 1))
        rw [show w32 (((μ 21 0 5) + 1) - 1) = ((μ 21 0 5) + 1) - 1 from w32_id (by simp only [in32]; omega)]
        have ha : al (st (st (st (st (st μ 22 0 (μ 21 0 5) c) 23 0 (μ 21 0 5) s) 24 0 (μ 21 0 5) n) 25 0 (μ 21 0 5) ((μ 0 0 14) + 1)) 21 0 5 ((μ 21 0 5) + 1)) = st (st (st (st (st (al μ) 53 0 (μ 21 0 5) c) 54 0 (μ 21 0 5) s) 55 0 (μ 21 0 5) n) 56 0 (μ 21 0 5) (μ 0 0 14)) 38 0 17 (μ 21 0 5 + 1) := by
          have e := al_f21 (M := st (st (st (st μ 22 0 (μ 21 0 5) c) 23 0 (μ 21 0 5) s) 24 0 (μ 21 0 5) n) 25 0 (μ 21 0 5) (μ 0 0 14 + 1)) hk0.1
          have e2 : al (st (st (st (st μ 22 0 (μ 21 0 5) c) 23 0 (μ 21 0 5) s) 24 0 (μ 21 0 5) n) 25 0 (μ 21 0 5) (μ 0 0 14 + 1)) = al (st (st (st μ 22 0 (μ 21 0 5) c) 23 0 (μ 21 0 5) s) 24 0 (μ 21 0 5) n) := al_s25 (Int.le_refl _)
          rw [e2, al_s24, al_s23, al_s22, st_cm (f := 38) (g := 56) (by decide)] at e
          refine e.trans ?_
          show st (st _ 56 0 (μ 21 0 5) (st _ 25 0 (μ 21 0 5) (μ 0 0 14 + 1) 25 0 (μ 21 0 5) - 1)) 38 0 17 (μ 21 0 5 + 1) = _
          rw [st_s, show μ 0 0 14 + 1 - 1 = μ 0 0 14 by omega]
        exact hER _ _ ⟨by omega, congrArg (fun z => some (vI z)) (by omega), ha, PB_st (PB_st (PB_st (PB_st (PB_st (PB_rf hP0) (by decide)) (by decide)) (by decide)) (by decide)) (by decide)⟩
theorem vw_X4_123 : ∀ w ∈ ([.methodLink RX4 123 yX2_add, .instanceMethod yX2_add, .selects RX2 yX2_add yX2_add, .initialized RX2, .code yX2_add cX2_add 5 none] : List Cond), w ∈ wm := wm_ps _ [535, 536, 537, 52, 538] (by decide +kernel)
theorem vw_X4_119 : ∀ w ∈ ([.methodLink RX4 119 yX4_borrowable, .instanceMethod yX4_borrowable, .selects RX4 yX4_borrowable yX4_borrowable, .initialized RX4, .code yX4_borrowable cX4_borrowable 6 (some .int)] : List Cond), w ∈ wm := wm_ps _ [531, 533, 19, 50, 534] (by decide +kernel)
set_option maxRecDepth 20000 in
theorem con_X4_locate (l : Launch) (htr : l.stackTraces = false) (σ : Mm) : CON fam0 63 l yX4_locate (Cond.code yX4_locate cX4_locate 4 (some .int) :: wm) 7 104 5 (cl_X4_locate.2.2.1 σ) (cl_X4_locate.2.2.2.1 σ) (cl_X4_locate.2.2.2.2 σ) :=
  con_of (cd := cd_X4_locate) (own := RX4) (rk := 1) (sc_of htr (by decide) k_X4_locate_ok (by decide +kernel) co_X4_ok fl_X4_ok (all_cons ⟨RX4, yX4_borrowable, cX4_borrowable, 6, (some .int), 2, 51, 2, con_X4_borrowable l htr, rfl, vw_X4_119, ⟨rfl, by decide, by decide, by decide +kernel⟩, ⟨by decide, by decide⟩, fun σ as μ h => ⟨0, 0, _, h.1, rfl, TX4, 17, rfl⟩⟩ (all_cons ⟨RX2, yX2_add, cX2_add, 5, none, 0, 0, 4, con_X2_add l htr, rfl, vw_X4_123, ⟨rfl, by decide, by decide, by decide +kernel⟩, ⟨by decide, by decide⟩, fun σ as μ h => ⟨21, 0, _, h.1, rfl, TX2, 6, rfl⟩⟩ all_nil)) (all_cons ⟨yX4_needClient, cX4_needClient, 1, none, 6, 82, con_X4_needClient l htr, vw_X4_81, ⟨by decide, by decide, by decide +kernel⟩, ⟨by decide, by decide⟩⟩ (all_cons ⟨yX4_needStock, cX4_needStock, 1, none, 6, 82, con_X4_needStock l htr, vw_X4_72, ⟨by decide, by decide, by decide +kernel⟩, ⟨by decide, by decide⟩⟩ (all_cons ⟨yX4_needRange, cX4_needRange, 3, none, 6, 82, con_X4_needRange l htr, vw_X4_77, ⟨by decide, by decide, by decide +kernel⟩, ⟨by decide, by decide⟩⟩ (all_cons ⟨yX4_needState, cX4_needState, 1, none, 6, 82, con_X4_needState l htr, vw_X4_86, ⟨by decide, by decide, by decide +kernel⟩, ⟨by decide, by decide⟩⟩ all_nil)))) all_nil) rfl (by decide +kernel) rfl rfl rfl rfl (fun as μ hs => by rw [hs.1]; exact Nat.le_of_ble_eq_true rfl)
    (fun as μ hs hM hrg => by
      have hs1 := hs.1
      have hmem : ∀ v, v ∈ ([vR 0 0, vI (iaI as 1), vI (iaI as 2), vI (iaI as 3)] : List AV) → rg fam0 v := by rw [← hs1]; exact hrg
      have key := run_X4_locate (ER := cl_X4_locate.2.2.2.1 σ as μ) (ET := fun k μ' => cl_X4_locate.2.2.2.2 σ as μ k ∧ μ' = μ) σ μ (iaI as 1) (iaI as 2) (iaI as 3) hM (hmem (vI (iaI as 1)) (by simp)) (hmem (vI (iaI as 2)) (by simp)) (hmem (vI (iaI as 3)) (by simp)) hs.2 (fun ov μ' h => h) (fun k h => ⟨h, rfl⟩)
      have e : entL as 4 = [some (vR 0 0), some (vI (iaI as 1)), some (vI (iaI as 2)), some (vI (iaI as 3))] := by rw [hs1]; rfl
      rw [e]; exact key)
/-! ### Primeborrow.recall -/
def cl_X4_recall : Cl := (5, 5, fun σ as μ => as = [vR 0 0, vI (iaI as 1), vI (iaI as 2), vI (iaI as 3), vI (iaI as 4)] ∧ (CV μ), fun σ as μ ov μ' => (((0 ≤ (iaI as 1) ∧ (iaI as 1) ≤ 3) ∧ (0 ≤ (iaI as 2) ∧ (iaI as 2) ≤ 3)) ∧ ((1 ≤ (iaI as 3) ∧ (iaI as 3) ≤ 500) ∧ (1 ≤ (iaI as 4) ∧ (iaI as 4) ≤ 10)) ∧ (μ 27 0 5 < 40)) ∧ ov = some (vI (μ 27 0 5)) ∧ al μ' = st (st (st (st (st (al μ) 58 0 (μ 27 0 5) (iaI as 1)) 59 0 (μ 27 0 5) (iaI as 2)) 60 0 (μ 27 0 5) (iaI as 3)) 61 0 (μ 27 0 5) (μ 0 0 14 + (iaI as 4))) 38 0 23 (μ 27 0 5 + 1) ∧ PB μ μ', fun σ as μ k => (k = 1 ∧ ¬ ((0 ≤ (iaI as 1) ∧ (iaI as 1) ≤ 3) ∧ (0 ≤ (iaI as 2) ∧ (iaI as 2) ≤ 3))) ∨ (k = 2 ∧ ((0 ≤ (iaI as 1) ∧ (iaI as 1) ≤ 3) ∧ (0 ≤ (iaI as 2) ∧ (iaI as 2) ≤ 3)) ∧ ¬ ((1 ≤ (iaI as 3) ∧ (iaI as 3) ≤ 500) ∧ (1 ≤ (iaI as 4) ∧ (iaI as 4) ≤ 10))) ∨ (k = 3 ∧ ((0 ≤ (iaI as 1) ∧ (iaI as 1) ≤ 3) ∧ (0 ≤ (iaI as 2) ∧ (iaI as 2) ≤ 3)) ∧ ((1 ≤ (iaI as 3) ∧ (iaI as 3) ≤ 500) ∧ (1 ≤ (iaI as 4) ∧ (iaI as 4) ≤ 10)) ∧ ¬ (μ 27 0 5 < 40)))
def cd_X4_recall : Cd := mkcd k_X4_recall co_X4 fl_X4 [(151, cl_X3_add)] [(97, cl_X4_needLender), (72, cl_X4_needStock), (77, cl_X4_needRange), (86, cl_X4_needState)] [] [] 5 1 5
set_option maxHeartbeats 4000000 in
set_option maxRecDepth 20000 in
theorem run_X4_recall {ER : Option AV → Mm → Prop} {ET : Nat → Mm → Prop} (σ μ : Mm) (l s n f : Int) (hM : MR fam0 μ) (h_l : in32 l) (h_s : in32 s) (h_n : in32 n) (h_f : in32 f) (hP : CV μ) (hER : ∀ ov μ', ((((0 ≤ l ∧ l ≤ 3) ∧ (0 ≤ s ∧ s ≤ 3)) ∧ ((1 ≤ n ∧ n ≤ 500) ∧ (1 ≤ f ∧ f ≤ 10)) ∧ (μ 27 0 5 < 40)) ∧ ov = some (vI (μ 27 0 5)) ∧ al μ' = st (st (st (st (st (al μ) 58 0 (μ 27 0 5) l) 59 0 (μ 27 0 5) s) 60 0 (μ 27 0 5) n) 61 0 (μ 27 0 5) (μ 0 0 14 + f)) 38 0 23 (μ 27 0 5 + 1) ∧ PB μ μ') → ER ov μ') (hET : ∀ k, ((k = 1 ∧ ¬ ((0 ≤ l ∧ l ≤ 3) ∧ (0 ≤ s ∧ s ≤ 3))) ∨ (k = 2 ∧ ((0 ≤ l ∧ l ≤ 3) ∧ (0 ≤ s ∧ s ≤ 3)) ∧ ¬ ((1 ≤ n ∧ n ≤ 500) ∧ (1 ≤ f ∧ f ≤ 10))) ∨ (k = 3 ∧ ((0 ≤ l ∧ l ≤ 3) ∧ (0 ≤ s ∧ s ≤ 3)) ∧ ((1 ≤ n ∧ n ≤ 500) ∧ (1 ≤ f ∧ f ≤ 10)) ∧ ¬ (μ 27 0 5 < 40))) → ET k μ) : Run fam0 none cd_X4_recall ER ET 0 0 [some (vR 0 0), some (vI l), some (vI s), some (vI n), some (vI f)] [] μ := by
  have hP0 := hP
  obtain ⟨hK, hW, hX, hC⟩ := hP
  have hr0 : 0 ≤ μ 27 0 5 ∧ μ 27 0 5 ≤ 40 := hX.2.2.1.1
  have hd0 : 0 ≤ μ 0 0 14 ∧ μ 0 0 14 ≤ 500 := hX.1
  have hz := hC (μ 27 0 5) hr0.1
  rw [if_neg (by omega)] at hz
  refine run_k 2 ?_
  show ∃ σ : Mm, cl_X4_needLender.2.2.1 σ [vI l] μ ∧ (∀ ov μ', cl_X4_needLender.2.2.2.1 σ [vI l] μ ov μ' → Run fam0 none cd_X4_recall ER ET 4 1 [some (vR 0 0), some (vI l), some (vI s), some (vI n), some (vI f)] (ov.toList ++ []) μ') ∧ ∀ kx, cl_X4_needLender.2.2.2.2 σ [vI l] μ kx → thr cd_X4_recall ET (Run fam0 none cd_X4_recall ER ET) 1 1 [some (vR 0 0), some (vI l), some (vI s), some (vI n), some (vI f)] μ kx
  refine ⟨μ, ⟨rfl, show True from True.intro⟩, fun ov μ' hq => ?_, fun kx hk => (by have hk : kx = 1 ∧ ¬ (0 ≤ l ∧ l ≤ 3) := hk; exact hET kx (by omega))⟩
  obtain ⟨hov, hmu, hc1⟩ : ov = none ∧ μ' = μ ∧ (0 ≤ l ∧ l ≤ 3) := hq
  rw [hov, hmu]
  show Run fam0 none cd_X4_recall ER ET 4 1 [some (vR 0 0), some (vI l), some (vI s), some (vI n), some (vI f)] [] μ
  refine run_k 2 ?_
  show ∃ σ : Mm, cl_X4_needStock.2.2.1 σ [vI s] μ ∧ (∀ ov μ', cl_X4_needStock.2.2.2.1 σ [vI s] μ ov μ' → Run fam0 none cd_X4_recall ER ET 8 2 [some (vR 0 0), some (vI l), some (vI s), some (vI n), some (vI f)] (ov.toList ++ []) μ') ∧ ∀ kx, cl_X4_needStock.2.2.2.2 σ [vI s] μ kx → thr cd_X4_recall ET (Run fam0 none cd_X4_recall ER ET) 5 2 [some (vR 0 0), some (vI l), some (vI s), some (vI n), some (vI f)] μ kx
  refine ⟨μ, ⟨rfl, show True from True.intro⟩, fun ov μ' hq => ?_, fun kx hk => (by have hk : kx = 1 ∧ ¬ (0 ≤ s ∧ s ≤ 3) := hk; exact hET kx (by omega))⟩
  obtain ⟨hov, hmu, hc2⟩ : ov = none ∧ μ' = μ ∧ (0 ≤ s ∧ s ≤ 3) := hq
  rw [hov, hmu]
  show Run fam0 none cd_X4_recall ER ET 8 2 [some (vR 0 0), some (vI l), some (vI s), some (vI n), some (vI f)] [] μ
  refine run_k 4 ?_
  show ∃ σ : Mm, cl_X4_needRange.2.2.1 σ [vI n, vI 1, vI 500] μ ∧ (∀ ov μ', cl_X4_needRange.2.2.2.1 σ [vI n, vI 1, vI 500] μ ov μ' → Run fam0 none cd_X4_recall ER ET 16 3 [some (vR 0 0), some (vI l), some (vI s), some (vI n), some (vI f)] (ov.toList ++ []) μ') ∧ ∀ kx, cl_X4_needRange.2.2.2.2 σ [vI n, vI 1, vI 500] μ kx → thr cd_X4_recall ET (Run fam0 none cd_X4_recall ER ET) 13 3 [some (vR 0 0), some (vI l), some (vI s), some (vI n), some (vI f)] μ kx
  refine ⟨μ, ⟨rfl, show True from True.intro⟩, fun ov μ' hq => ?_, fun kx hk => (by have hk : kx = 2 ∧ ¬ (1 ≤ n ∧ n ≤ 500) := hk; exact hET kx (by omega))⟩
  obtain ⟨hov, hmu, hc3⟩ : ov = none ∧ μ' = μ ∧ (1 ≤ n ∧ n ≤ 500) := hq
  rw [hov, hmu]
  show Run fam0 none cd_X4_recall ER ET 16 3 [some (vR 0 0), some (vI l), some (vI s), some (vI n), some (vI f)] [] μ
  refine run_k 4 ?_
  show ∃ σ : Mm, cl_X4_needRange.2.2.1 σ [vI f, vI 1, vI 10] μ ∧ (∀ ov μ', cl_X4_needRange.2.2.2.1 σ [vI f, vI 1, vI 10] μ ov μ' → Run fam0 none cd_X4_recall ER ET 24 4 [some (vR 0 0), some (vI l), some (vI s), some (vI n), some (vI f)] (ov.toList ++ []) μ') ∧ ∀ kx, cl_X4_needRange.2.2.2.2 σ [vI f, vI 1, vI 10] μ kx → thr cd_X4_recall ET (Run fam0 none cd_X4_recall ER ET) 21 4 [some (vR 0 0), some (vI l), some (vI s), some (vI n), some (vI f)] μ kx
  refine ⟨μ, ⟨rfl, show True from True.intro⟩, fun ov μ' hq => ?_, fun kx hk => (by have hk : kx = 2 ∧ ¬ (1 ≤ f ∧ f ≤ 10) := hk; exact hET kx (by omega))⟩
  obtain ⟨hov, hmu, hc4⟩ : ov = none ∧ μ' = μ ∧ (1 ≤ f ∧ f ≤ 10) := hq
  rw [hov, hmu]
  show Run fam0 none cd_X4_recall ER ET 24 4 [some (vR 0 0), some (vI l), some (vI s), some (vI n), some (vI f)] [] μ
  refine run_k 5 ?_
  show (40 ≤ (μ 27 0 5) → Run fam0 none cd_X4_recall ER ET 40 4 [some (vR 0 0), some (vI l), some (vI s), some (vI n), some (vI f)] [] μ) ∧ ((μ 27 0 5) < 40 → Run fam0 none cd_X4_recall ER ET 36 4 [some (vR 0 0), some (vI l), some (vI s), some (vI n), some (vI f)] [] μ)
  refine ⟨fun c5 => ?_, fun c5 => ?_⟩
  · refine run_k 2 ?_
    show ∃ σ : Mm, cl_X4_needState.2.2.1 σ [vI 0] μ ∧ (∀ ov μ', cl_X4_needState.2.2.2.1 σ [vI 0] μ ov μ' → Run fam0 none cd_X4_recall ER ET 44 5 [some (vR 0 0), some (vI l), some (vI s), some (vI n), some (vI f)] (ov.toList ++ []) μ') ∧ ∀ kx, cl_X4_needState.2.2.2.2 σ [vI 0] μ kx → thr cd_X4_recall ET (Run fam0 none cd_X4_recall ER ET) 41 5 [some (vR 0 0), some (vI l), some (vI s), some (vI n), some (vI f)] μ kx
    refine ⟨μ, ⟨rfl, show True from True.intro⟩, fun ov μ' hq => ?_, fun kx hk => (by have hk : kx = 3 ∧ ¬ ((0 : Int) ≠ 0) := hk; exact hET kx (by omega))⟩
    exact absurd rfl hq.2.2
  · refine run_k 3 ?_
    show ∃ σ : Mm, cl_X4_needState.2.2.1 σ [vI 1] μ ∧ (∀ ov μ', cl_X4_needState.2.2.2.1 σ [vI 1] μ ov μ' → Run fam0 none cd_X4_recall ER ET 44 5 [some (vR 0 0), some (vI l), some (vI s), some (vI n), some (vI f)] (ov.toList ++ []) μ') ∧ ∀ kx, cl_X4_needState.2.2.2.2 σ [vI 1] μ kx → thr cd_X4_recall ET (Run fam0 none cd_X4_recall ER ET) 41 5 [some (vR 0 0), some (vI l), some (vI s), some (vI n), some (vI f)] μ kx
    refine ⟨μ, ⟨rfl, show True from True.intro⟩, fun ov μ' hq => ?_, fun kx hk => (by have hk : kx = 3 ∧ ¬ ((1 : Int) ≠ 0) := hk; exact hET kx (by omega))⟩
    obtain ⟨hov, hmu, hc7⟩ : ov = none ∧ μ' = μ ∧ ((1 : Int) ≠ 0) := hq
    rw [hov, hmu]
    show Run fam0 none cd_X4_recall ER ET 44 5 [some (vR 0 0), some (vI l), some (vI s), some (vI n), some (vI f)] [] μ
    refine run_k 10 ?_
    show ∃ σ : Mm, cl_X3_add.2.2.1 σ [vR 27 0, vI l, vI s, vI n, vI (w32 ((μ 0 0 14) + f))] μ ∧ (∀ ov μ', cl_X3_add.2.2.2.1 σ [vR 27 0, vI l, vI s, vI n, vI (w32 ((μ 0 0 14) + f))] μ ov μ' → Run fam0 none cd_X4_recall ER ET 61 5 [some (vR 0 0), some (vI l), some (vI s), some (vI n), some (vI f)] (ov.toList ++ []) μ') ∧ ∀ kx, cl_X3_add.2.2.2.2 σ [vR 27 0, vI l, vI s, vI n, vI (w32 ((μ 0 0 14) + f))] μ kx → thr cd_X4_recall ET (Run fam0 none cd_X4_recall ER ET) 58 5 [some (vR 0 0), some (vI l), some (vI s), some (vI n), some (vI f)] μ kx
    rw [show w32 ((μ 0 0 14) + f) = (μ 0 0 14) + f from w32_id (by simp only [in32]; omega)]
    refine ⟨μ, ⟨rfl, show 0 ≤ μ 27 0 5 ∧ μ 27 0 5 < 40 from (show 0 ≤ μ 27 0 5 ∧ μ 27 0 5 < 40 from by omega)⟩, fun ov μ' hq => ?_, fun k hk => hk.elim⟩
    obtain ⟨hov, hmu⟩ : ov = none ∧ μ' = st (st (st (st (st μ 28 0 (μ 27 0 5) l) 29 0 (μ 27 0 5) s) 30 0 (μ 27 0 5) n) 31 0 (μ 27 0 5) ((μ 0 0 14) + f)) 27 0 5 ((μ 27 0 5) + 1) := hq
    rw [hov, hmu]
    show Run fam0 none cd_X4_recall ER ET 61 5 [some (vR 0 0), some (vI l), some (vI s), some (vI n), some (vI f)] [] (st (st (st (st (st μ 28 0 (μ 27 0 5) l) 29 0 (μ 27 0 5) s) 30 0 (μ 27 0 5) n) 31 0 (μ 27 0 5) ((μ 0 0 14) + f)) 27 0 5 ((μ 27 0 5) + 1))
    refine run_k 6 ?_
    show ER (some (vI (w32 (((μ 27 0 5) + 1) - 1)))) (st (st (st (st (st μ 28 0 (μ 27 0 5) l) 29 0 (μ 27 0 5) s) 30 0 (μ 27 0 5) n) 31 0 (μ 27 0 5) ((μ 0 0 14) + f)) 27 0 5 ((μ 27 0 5) + 1))
    rw [show w32 (((μ 27 0 5) + 1) - 1) = ((μ 27 0 5) + 1) - 1 from w32_id (by simp only [in32]; omega)]
    have ha : al (st (st (st (st (st μ 28 0 (μ 27 0 5) l) 29 0 (μ 27 0 5) s) 30 0 (μ 27 0 5) n) 31 0 (μ 27 0 5) ((μ 0 0 14) + f)) 27 0 5 ((μ 27 0 5) + 1)) = st (st (st (st (st (al μ) 58 0 (μ 27 0 5) l) 59 0 (μ 27 0 5) s) 60 0 (μ 27 0 5) n) 61 0 (μ 27 0 5) (μ 0 0 14 + f)) 38 0 23 (μ 27 0 5 + 1) := by
      have e := al_f27 (M := st (st (st (st μ 28 0 (μ 27 0 5) l) 29 0 (μ 27 0 5) s) 30 0 (μ 27 0 5) n) 31 0 (μ 27 0 5) (μ 0 0 14 + f)) hr0.1 hz
      rw [al_s31, al_s30, al_s29, al_s28] at e
      exact e
    refine hER _ _ ⟨by omega, congrArg (fun z => some (vI z)) (by omega), ha, KI_fr hK (fun g r j q => ((st_o (by omega)).trans ((st_o (by omega)).trans ((st_o (by omega)).trans ((st_o (by omega)).trans (st_o (by omega))))))), ?_, fun g r j q => ((st_o (by omega)).trans ((st_o (by omega)).trans ((st_o (by omega)).trans ((st_o (by omega)).trans (st_o (by omega))))))⟩
    intro i i0
    have hi := hC i i0
    show μ 32 0 i = if i < μ 27 0 5 + 1 ∧ (st μ 31 0 (μ 27 0 5) (μ 0 0 14 + f) 31 0 i < μ 0 0 14 ∨ (st μ 31 0 (μ 27 0 5) (μ 0 0 14 + f) 31 0 i = μ 0 0 14 ∧ i < 40)) then 1 else 0
    by_cases q : i = μ 27 0 5
    · rw [q, st_s, if_neg (by omega)]; exact hz
    · rw [st_i q, hi]
      split <;> split <;> omega
theorem vw_X4_151 : ∀ w ∈ ([.methodLink RX4 151 yX3_add, .instanceMethod yX3_add, .selects RX3 yX3_add yX3_add, .initialized RX3, .code yX3_add cX3_add 5 none] : List Cond), w ∈ wm := wm_ps _ [562, 563, 564, 53, 565] (by decide +kernel)
set_option maxRecDepth 20000 in
theorem con_X4_recall (l : Launch) (htr : l.stackTraces = false) (σ : Mm) : CON fam0 63 l yX4_recall (Cond.code yX4_recall cX4_recall 5 (some .int) :: wm) 7 104 5 (cl_X4_recall.2.2.1 σ) (cl_X4_recall.2.2.2.1 σ) (cl_X4_recall.2.2.2.2 σ) :=
  con_of (cd := cd_X4_recall) (own := RX4) (rk := 1) (sc_of htr (by decide) k_X4_recall_ok (by decide +kernel) co_X4_ok fl_X4_ok (all_cons ⟨RX3, yX3_add, cX3_add, 5, none, 0, 0, 4, con_X3_add l htr, rfl, vw_X4_151, ⟨rfl, by decide, by decide, by decide +kernel⟩, ⟨by decide, by decide⟩, fun σ as μ h => ⟨27, 0, _, h.1, rfl, TX3, 6, rfl⟩⟩ all_nil) (all_cons ⟨yX4_needLender, cX4_needLender, 1, none, 6, 82, con_X4_needLender l htr, vw_X4_97, ⟨by decide, by decide, by decide +kernel⟩, ⟨by decide, by decide⟩⟩ (all_cons ⟨yX4_needStock, cX4_needStock, 1, none, 6, 82, con_X4_needStock l htr, vw_X4_72, ⟨by decide, by decide, by decide +kernel⟩, ⟨by decide, by decide⟩⟩ (all_cons ⟨yX4_needRange, cX4_needRange, 3, none, 6, 82, con_X4_needRange l htr, vw_X4_77, ⟨by decide, by decide, by decide +kernel⟩, ⟨by decide, by decide⟩⟩ (all_cons ⟨yX4_needState, cX4_needState, 1, none, 6, 82, con_X4_needState l htr, vw_X4_86, ⟨by decide, by decide, by decide +kernel⟩, ⟨by decide, by decide⟩⟩ all_nil)))) all_nil) rfl (by decide +kernel) rfl rfl rfl rfl (fun as μ hs => by rw [hs.1]; exact Nat.le_of_ble_eq_true rfl)
    (fun as μ hs hM hrg => by
      have hs1 := hs.1
      have hmem : ∀ v, v ∈ ([vR 0 0, vI (iaI as 1), vI (iaI as 2), vI (iaI as 3), vI (iaI as 4)] : List AV) → rg fam0 v := by rw [← hs1]; exact hrg
      have key := run_X4_recall (ER := cl_X4_recall.2.2.2.1 σ as μ) (ET := fun k μ' => cl_X4_recall.2.2.2.2 σ as μ k ∧ μ' = μ) σ μ (iaI as 1) (iaI as 2) (iaI as 3) (iaI as 4) hM (hmem (vI (iaI as 1)) (by simp)) (hmem (vI (iaI as 2)) (by simp)) (hmem (vI (iaI as 3)) (by simp)) (hmem (vI (iaI as 4)) (by simp)) hs.2 (fun ov μ' h => h) (fun k h => ⟨h, rfl⟩)
      have e : entL as 5 = [some (vR 0 0), some (vI (iaI as 1)), some (vI (iaI as 2)), some (vI (iaI as 3)), some (vI (iaI as 4))] := by rw [hs1]; rfl
      rw [e]; exact key)
/-! ### Primeborrow.sellShort -/
def cl_X4_sellShort : Cl := (3, 5, fun σ as μ => as = [vR 0 0, vI (iaI as 1), vI (iaI as 2)] ∧ (CV μ), fun σ as μ ov μ' => ((0 ≤ (iaI as 1) ∧ (iaI as 1) < μ 21 0 5) ∧ (1 ≤ (iaI as 2) ∧ (iaI as 2) ≤ μ 24 0 (iaI as 1)) ∧ ((holdsF (al μ) (iaI as 1) ≠ 0 ∧ μ 5 0 (μ 22 0 (iaI as 1)) = 0) ∧ (μ 7 (μ 22 0 (iaI as 1)) (μ 23 0 (iaI as 1)) ≤ 0 ∧ -500 ≤ μ 7 (μ 22 0 (iaI as 1)) (μ 23 0 (iaI as 1)) - (iaI as 2)) ∧ (iaI as 2) ≤ canF (al μ) (μ 22 0 (iaI as 1)) (μ 23 0 (iaI as 1)))) ∧ ov = some (vL (shortF (al μ) (iaI as 1) (iaI as 2) 41 0 (μ 22 0 (iaI as 1)))) ∧ al μ' = shortF (al μ) (iaI as 1) (iaI as 2) ∧ PB μ μ', fun σ as μ k => (k = 1 ∧ ¬ (0 ≤ (iaI as 1) ∧ (iaI as 1) < μ 21 0 5)) ∨ (k = 2 ∧ (0 ≤ (iaI as 1) ∧ (iaI as 1) < μ 21 0 5) ∧ ¬ (1 ≤ (iaI as 2) ∧ (iaI as 2) ≤ μ 24 0 (iaI as 1))) ∨ (k = 3 ∧ (0 ≤ (iaI as 1) ∧ (iaI as 1) < μ 21 0 5) ∧ (1 ≤ (iaI as 2) ∧ (iaI as 2) ≤ μ 24 0 (iaI as 1)) ∧ ¬ ((holdsF (al μ) (iaI as 1) ≠ 0 ∧ μ 5 0 (μ 22 0 (iaI as 1)) = 0) ∧ (μ 7 (μ 22 0 (iaI as 1)) (μ 23 0 (iaI as 1)) ≤ 0 ∧ -500 ≤ μ 7 (μ 22 0 (iaI as 1)) (μ 23 0 (iaI as 1)) - (iaI as 2)) ∧ (iaI as 2) ≤ canF (al μ) (μ 22 0 (iaI as 1)) (μ 23 0 (iaI as 1)))))
def cd_X4_sellShort : Cd := mkcd k_X4_sellShort co_X4 fl_X4 [(127, cl_X4_needLocate), (139, cl_X4_holds), (119, cl_X4_borrowable), (143, cl_X4_borrow)] [(77, cl_X4_needRange), (86, cl_X4_needState)] [] [] 5 2 5
set_option maxHeartbeats 4000000 in
set_option maxRecDepth 20000 in
theorem run_X4_sellShort {ER : Option AV → Mm → Prop} {ET : Nat → Mm → Prop} (σ μ : Mm) (q n : Int) (hM : MR fam0 μ) (h_q : in32 q) (h_n : in32 n) (hP : CV μ) (hER : ∀ ov μ', (((0 ≤ q ∧ q < μ 21 0 5) ∧ (1 ≤ n ∧ n ≤ μ 24 0 q) ∧ ((holdsF (al μ) q ≠ 0 ∧ μ 5 0 (μ 22 0 q) = 0) ∧ (μ 7 (μ 22 0 q) (μ 23 0 q) ≤ 0 ∧ -500 ≤ μ 7 (μ 22 0 q) (μ 23 0 q) - n) ∧ n ≤ canF (al μ) (μ 22 0 q) (μ 23 0 q))) ∧ ov = some (vL (shortF (al μ) q n 41 0 (μ 22 0 q))) ∧ al μ' = shortF (al μ) q n ∧ PB μ μ') → ER ov μ') (hET : ∀ k, ((k = 1 ∧ ¬ (0 ≤ q ∧ q < μ 21 0 5)) ∨ (k = 2 ∧ (0 ≤ q ∧ q < μ 21 0 5) ∧ ¬ (1 ≤ n ∧ n ≤ μ 24 0 q)) ∨ (k = 3 ∧ (0 ≤ q ∧ q < μ 21 0 5) ∧ (1 ≤ n ∧ n ≤ μ 24 0 q) ∧ ¬ ((holdsF (al μ) q ≠ 0 ∧ μ 5 0 (μ 22 0 q) = 0) ∧ (μ 7 (μ 22 0 q) (μ 23 0 q) ≤ 0 ∧ -500 ≤ μ 7 (μ 22 0 q) (μ 23 0 q) - n) ∧ n ≤ canF (al μ) (μ 22 0 q) (μ 23 0 q)))) → ET k μ) : Run fam0 none cd_X4_sellShort ER ET 0 0 [some (vR 0 0), some (vI q), some (vI n), none, none] [] μ := by
  have hP0 := hP
  obtain ⟨hK, hW, hX, hC⟩ := hP
  have hk0 : 0 ≤ μ 21 0 5 ∧ μ 21 0 5 ≤ 60 := hX.2.1.1
  have hlk : 0 ≤ q → q < μ 21 0 5 → (0 ≤ μ 22 0 q ∧ μ 22 0 q ≤ 5) ∧ (0 ≤ μ 23 0 q ∧ μ 23 0 q ≤ 3) ∧ (1 ≤ μ 24 0 q ∧ μ 24 0 q ≤ 500) := fun q0 q1 => by
    have h := hX.2.1.2 q q0 q1
    exact ⟨h.1, h.2.1, h.2.2.1⟩
  have hkh : (0 ≤ μ 22 0 q ∧ μ 22 0 q ≤ 5) → (0 ≤ μ 23 0 q ∧ μ 23 0 q ≤ 3) → _ := fun q1 q2 => ki_held hK (c := μ 22 0 q) (s := μ 23 0 q) q1 q2
  refine run_k 3 ?_
  show ∃ σ : Mm, cl_X4_needLocate.2.2.1 σ [vR 0 0, vI q] μ ∧ (∀ ov μ', cl_X4_needLocate.2.2.2.1 σ [vR 0 0, vI q] μ ov μ' → Run fam0 none cd_X4_sellShort ER ET 5 1 [some (vR 0 0), some (vI q), some (vI n), none, none] (ov.toList ++ []) μ') ∧ ∀ kx, cl_X4_needLocate.2.2.2.2 σ [vR 0 0, vI q] μ kx → thr cd_X4_sellShort ET (Run fam0 none cd_X4_sellShort ER ET) 2 1 [some (vR 0 0), some (vI q), some (vI n), none, none] μ kx
  refine ⟨μ, ⟨rfl, show True from True.intro⟩, fun ov μ' hq => ?_, fun kx hk => (by have hk : kx = 1 ∧ ¬ (0 ≤ q ∧ q < μ 21 0 5) := hk; exact hET kx (by omega))⟩
  obtain ⟨hov, hmu, hc1⟩ : ov = none ∧ μ' = μ ∧ (0 ≤ q ∧ q < μ 21 0 5) := hq
  rw [hov, hmu]
  show Run fam0 none cd_X4_sellShort ER ET 5 1 [some (vR 0 0), some (vI q), some (vI n), none, none] [] μ
  refine run_k 8 ?_
  show (0 ≤ q ∧ q < 60) ∧ (∃ σ : Mm, cl_X4_needRange.2.2.1 σ [vI n, vI 1, vI (μ 24 0 q)] μ ∧ (∀ ov μ', cl_X4_needRange.2.2.2.1 σ [vI n, vI 1, vI (μ 24 0 q)] μ ov μ' → Run fam0 none cd_X4_sellShort ER ET 19 2 [some (vR 0 0), some (vI q), some (vI n), none, none] (ov.toList ++ []) μ') ∧ ∀ kx, cl_X4_needRange.2.2.2.2 σ [vI n, vI 1, vI (μ 24 0 q)] μ kx → thr cd_X4_sellShort ET (Run fam0 none cd_X4_sellShort ER ET) 16 2 [some (vR 0 0), some (vI q), some (vI n), none, none] μ kx)
  refine ⟨by omega, ?_⟩
  refine ⟨μ, ⟨rfl, show True from True.intro⟩, fun ov μ' hq => ?_, fun kx hk => (by have hk : kx = 2 ∧ ¬ (1 ≤ n ∧ n ≤ (μ 24 0 q)) := hk; exact hET kx (by omega))⟩
  obtain ⟨hov, hmu, hc2⟩ : ov = none ∧ μ' = μ ∧ (1 ≤ n ∧ n ≤ (μ 24 0 q)) := hq
  rw [hov, hmu]
  show Run fam0 none cd_X4_sellShort ER ET 19 2 [some (vR 0 0), some (vI q), some (vI n), none, none] [] μ
  replace hlk := hlk (by omega) (by omega)
  replace hkh := hkh hlk.1 hlk.2.1
  refine run_k 15 ?_
  show (0 ≤ q ∧ q < 60) ∧ ((0 ≤ q ∧ q < 60) ∧ (∃ σ : Mm, cl_X4_holds.2.2.1 σ [vR 0 0, vI q] μ ∧ (∀ ov μ', cl_X4_holds.2.2.2.1 σ [vR 0 0, vI q] μ ov μ' → Run fam0 none cd_X4_sellShort ER ET 45 2 [some (vR 0 0), some (vI q), some (vI n), some (vI (μ 22 0 q)), some (vI (μ 23 0 q))] (ov.toList ++ []) μ') ∧ ∀ kx, cl_X4_holds.2.2.2.2 σ [vR 0 0, vI q] μ kx → thr cd_X4_sellShort ET (Run fam0 none cd_X4_sellShort ER ET) 42 2 [some (vR 0 0), some (vI q), some (vI n), some (vI (μ 22 0 q)), some (vI (μ 23 0 q))] μ kx))
  refine ⟨by omega, ?_⟩
  refine ⟨by omega, ?_⟩
  refine ⟨μ, ⟨rfl, show (0 ≤ q ∧ q < μ 21 0 5) ∧ μ 21 0 5 ≤ 60 from ⟨by omega, by omega⟩⟩, fun ov μ' hq => ?_, fun k hk => hk.elim⟩
  obtain ⟨hov, hmu⟩ : ov = some (vI (holdsF (al μ) q)) ∧ μ' = μ := hq
  rw [hov, hmu]
  show Run fam0 none cd_X4_sellShort ER ET 45 2 [some (vR 0 0), some (vI q), some (vI n), some (vI (μ 22 0 q)), some (vI (μ 23 0 q))] [vI (holdsF (al μ) q)] μ
  refine run_k 1 ?_
  show ((holdsF (al μ) q) = 0 → Run fam0 none cd_X4_sellShort ER ET 61 2 [some (vR 0 0), some (vI q), some (vI n), some (vI (μ 22 0 q)), some (vI (μ 23 0 q))] [] μ) ∧ ((holdsF (al μ) q) ≠ 0 → Run fam0 none cd_X4_sellShort ER ET 48 2 [some (vR 0 0), some (vI q), some (vI n), some (vI (μ 22 0 q)), some (vI (μ 23 0 q))] [] μ)
  refine ⟨fun c4 => ?_, fun c4 => ?_⟩
  · refine run_k 2 ?_
    show ∃ σ : Mm, cl_X4_needState.2.2.1 σ [vI 0] μ ∧ (∀ ov μ', cl_X4_needState.2.2.2.1 σ [vI 0] μ ov μ' → Run fam0 none cd_X4_sellShort ER ET 65 3 [some (vR 0 0), some (vI q), some (vI n), some (vI (μ 22 0 q)), some (vI (μ 23 0 q))] (ov.toList ++ []) μ') ∧ ∀ kx, cl_X4_needState.2.2.2.2 σ [vI 0] μ kx → thr cd_X4_sellShort ET (Run fam0 none cd_X4_sellShort ER ET) 62 3 [some (vR 0 0), some (vI q), some (vI n), some (vI (μ 22 0 q)), some (vI (μ 23 0 q))] μ kx
    refine ⟨μ, ⟨rfl, show True from True.intro⟩, fun ov μ' hq => ?_, fun kx hk => (by have hk : kx = 3 ∧ ¬ ((0 : Int) ≠ 0) := hk; exact hET kx (by omega))⟩
    exact absurd rfl hq.2.2
  · refine run_k 5 ?_
    show (0 ≤ (μ 22 0 q) ∧ (μ 22 0 q) < 6) ∧ (((μ 5 0 (μ 22 0 q)) ≠ 0 → Run fam0 none cd_X4_sellShort ER ET 61 2 [some (vR 0 0), some (vI q), some (vI n), some (vI (μ 22 0 q)), some (vI (μ 23 0 q))] [] μ) ∧ ((μ 5 0 (μ 22 0 q)) = 0 → Run fam0 none cd_X4_sellShort ER ET 57 2 [some (vR 0 0), some (vI q), some (vI n), some (vI (μ 22 0 q)), some (vI (μ 23 0 q))] [] μ))
    refine ⟨by omega, ?_⟩
    refine ⟨fun c6 => ?_, fun c6 => ?_⟩
    · refine run_k 2 ?_
      show ∃ σ : Mm, cl_X4_needState.2.2.1 σ [vI 0] μ ∧ (∀ ov μ', cl_X4_needState.2.2.2.1 σ [vI 0] μ ov μ' → Run fam0 none cd_X4_sellShort ER ET 65 3 [some (vR 0 0), some (vI q), some (vI n), some (vI (μ 22 0 q)), some (vI (μ 23 0 q))] (ov.toList ++ []) μ') ∧ ∀ kx, cl_X4_needState.2.2.2.2 σ [vI 0] μ kx → thr cd_X4_sellShort ET (Run fam0 none cd_X4_sellShort ER ET) 62 3 [some (vR 0 0), some (vI q), some (vI n), some (vI (μ 22 0 q)), some (vI (μ 23 0 q))] μ kx
      refine ⟨μ, ⟨rfl, show True from True.intro⟩, fun ov μ' hq => ?_, fun kx hk => (by have hk : kx = 3 ∧ ¬ ((0 : Int) ≠ 0) := hk; exact hET kx (by omega))⟩
      exact absurd rfl hq.2.2
    · refine run_k 3 ?_
      show ∃ σ : Mm, cl_X4_needState.2.2.1 σ [vI 1] μ ∧ (∀ ov μ', cl_X4_needState.2.2.2.1 σ [vI 1] μ ov μ' → Run fam0 none cd_X4_sellShort ER ET 65 3 [some (vR 0 0), some (vI q), some (vI n), some (vI (μ 22 0 q)), some (vI (μ 23 0 q))] (ov.toList ++ []) μ') ∧ ∀ kx, cl_X4_needState.2.2.2.2 σ [vI 1] μ kx → thr cd_X4_sellShort ET (Run fam0 none cd_X4_sellShort ER ET) 62 3 [some (vR 0 0), some (vI q), some (vI n), some (vI (μ 22 0 q)), some (vI (μ 23 0 q))] μ kx
      refine ⟨μ, ⟨rfl, show True from True.intro⟩, fun ov μ' hq => ?_, fun kx hk => (by have hk : kx = 3 ∧ ¬ ((1 : Int) ≠ 0) := hk; exact hET kx (by omega))⟩
      obtain ⟨hov, hmu, hc8⟩ : ov = none ∧ μ' = μ ∧ ((1 : Int) ≠ 0) := hq
      rw [hov, hmu]
      show Run fam0 none cd_X4_sellShort ER ET 65 3 [some (vR 0 0), some (vI q), some (vI n), some (vI (μ 22 0 q)), some (vI (μ 23 0 q))] [] μ
      refine run_k 7 ?_
      show (0 ≤ (μ 22 0 q) ∧ (μ 22 0 q) < 6) ∧ ((0 ≤ (μ 23 0 q) ∧ (μ 23 0 q) < 4) ∧ ((0 < (μ 7 (μ 22 0 q) (μ 23 0 q)) → Run fam0 none cd_X4_sellShort ER ET 98 3 [some (vR 0 0), some (vI q), some (vI n), some (vI (μ 22 0 q)), some (vI (μ 23 0 q))] [] μ) ∧ ((μ 7 (μ 22 0 q) (μ 23 0 q)) ≤ 0 → Run fam0 none cd_X4_sellShort ER ET 77 3 [some (vR 0 0), some (vI q), some (vI n), some (vI (μ 22 0 q)), some (vI (μ 23 0 q))] [] μ)))
      refine ⟨by omega, ?_⟩
      refine ⟨by omega, ?_⟩
      refine ⟨fun c9 => ?_, fun c9 => ?_⟩
      · refine run_k 2 ?_
        show ∃ σ : Mm, cl_X4_needState.2.2.1 σ [vI 0] μ ∧ (∀ ov μ', cl_X4_needState.2.2.2.1 σ [vI 0] μ ov μ' → Run fam0 none cd_X4_sellShort ER ET 102 4 [some (vR 0 0), some (vI q), some (vI n), some (vI (μ 22 0 q)), some (vI (μ 23 0 q))] (ov.toList ++ []) μ') ∧ ∀ kx, cl_X4_needState.2.2.2.2 σ [vI 0] μ kx → thr cd_X4_sellShort ET (Run fam0 none cd_X4_sellShort ER ET) 99 4 [some (vR 0 0), some (vI q), some (vI n), some (vI (μ 22 0 q)), some (vI (μ 23 0 q))] μ kx
        refine ⟨μ, ⟨rfl, show True from True.intro⟩, fun ov μ' hq => ?_, fun kx hk => (by have hk : kx = 3 ∧ ¬ ((0 : Int) ≠ 0) := hk; exact hET kx (by omega))⟩
        exact absurd rfl hq.2.2
      · refine run_k 10 ?_
        show (0 ≤ (μ 22 0 q) ∧ (μ 22 0 q) < 6) ∧ ((0 ≤ (μ 23 0 q) ∧ (μ 23 0 q) < 4) ∧ (((w32 ((μ 7 (μ 22 0 q) (μ 23 0 q)) - n)) < (-500) → Run fam0 none cd_X4_sellShort ER ET 98 3 [some (vR 0 0), some (vI q), some (vI n), some (vI (μ 22 0 q)), some (vI (μ 23 0 q))] [] μ) ∧ ((-500) ≤ (w32 ((μ 7 (μ 22 0 q) (μ 23 0 q)) - n)) → Run fam0 none cd_X4_sellShort ER ET 94 3 [some (vR 0 0), some (vI q), some (vI n), some (vI (μ 22 0 q)), some (vI (μ 23 0 q))] [] μ)))
        rw [show w32 ((μ 7 (μ 22 0 q) (μ 23 0 q)) - n) = (μ 7 (μ 22 0 q) (μ 23 0 q)) - n from w32_id (by simp only [in32]; omega)]
        refine ⟨by omega, ?_⟩
        refine ⟨by omega, ?_⟩
        refine ⟨fun c11 => ?_, fun c11 => ?_⟩
        · refine run_k 2 ?_
          show ∃ σ : Mm, cl_X4_needState.2.2.1 σ [vI 0] μ ∧ (∀ ov μ', cl_X4_needState.2.2.2.1 σ [vI 0] μ ov μ' → Run fam0 none cd_X4_sellShort ER ET 102 4 [some (vR 0 0), some (vI q), some (vI n), some (vI (μ 22 0 q)), some (vI (μ 23 0 q))] (ov.toList ++ []) μ') ∧ ∀ kx, cl_X4_needState.2.2.2.2 σ [vI 0] μ kx → thr cd_X4_sellShort ET (Run fam0 none cd_X4_sellShort ER ET) 99 4 [some (vR 0 0), some (vI q), some (vI n), some (vI (μ 22 0 q)), some (vI (μ 23 0 q))] μ kx
          refine ⟨μ, ⟨rfl, show True from True.intro⟩, fun ov μ' hq => ?_, fun kx hk => (by have hk : kx = 3 ∧ ¬ ((0 : Int) ≠ 0) := hk; exact hET kx (by omega))⟩
          exact absurd rfl hq.2.2
        · refine run_k 3 ?_
          show ∃ σ : Mm, cl_X4_needState.2.2.1 σ [vI 1] μ ∧ (∀ ov μ', cl_X4_needState.2.2.2.1 σ [vI 1] μ ov μ' → Run fam0 none cd_X4_sellShort ER ET 102 4 [some (vR 0 0), some (vI q), some (vI n), some (vI (μ 22 0 q)), some (vI (μ 23 0 q))] (ov.toList ++ []) μ') ∧ ∀ kx, cl_X4_needState.2.2.2.2 σ [vI 1] μ kx → thr cd_X4_sellShort ET (Run fam0 none cd_X4_sellShort ER ET) 99 4 [some (vR 0 0), some (vI q), some (vI n), some (vI (μ 22 0 q)), some (vI (μ 23 0 q))] μ kx
          refine ⟨μ, ⟨rfl, show True from True.intro⟩, fun ov μ' hq => ?_, fun kx hk => (by have hk : kx = 3 ∧ ¬ ((1 : Int) ≠ 0) := hk; exact hET kx (by omega))⟩
          obtain ⟨hov, hmu, hc13⟩ : ov = none ∧ μ' = μ ∧ ((1 : Int) ≠ 0) := hq
          rw [hov, hmu]
          show Run fam0 none cd_X4_sellShort ER ET 102 4 [some (vR 0 0), some (vI q), some (vI n), some (vI (μ 22 0 q)), some (vI (μ 23 0 q))] [] μ
          refine run_k 4 ?_
          show ∃ σ : Mm, cl_X4_borrowable.2.2.1 σ [vR 0 0, vI (μ 23 0 q), vI (μ 22 0 q)] μ ∧ (∀ ov μ', cl_X4_borrowable.2.2.2.1 σ [vR 0 0, vI (μ 23 0 q), vI (μ 22 0 q)] μ ov μ' → Run fam0 none cd_X4_sellShort ER ET 109 4 [some (vR 0 0), some (vI q), some (vI n), some (vI (μ 22 0 q)), some (vI (μ 23 0 q))] (ov.toList ++ []) μ') ∧ ∀ kx, cl_X4_borrowable.2.2.2.2 σ [vR 0 0, vI (μ 23 0 q), vI (μ 22 0 q)] μ kx → thr cd_X4_sellShort ET (Run fam0 none cd_X4_sellShort ER ET) 106 4 [some (vR 0 0), some (vI q), some (vI n), some (vI (μ 22 0 q)), some (vI (μ 23 0 q))] μ kx
          refine ⟨μ, ⟨rfl, show KI μ ∧ (0 ≤ (μ 23 0 q) ∧ (μ 23 0 q) ≤ 3) ∧ (0 ≤ (μ 22 0 q) ∧ (μ 22 0 q) ≤ 5) from ⟨by assumption, by omega, by omega⟩⟩, fun ov μ' hq => ?_, fun k hk => hk.elim⟩
          obtain ⟨hov, hmu⟩ : ov = some (vI (canF (al μ) (μ 22 0 q) (μ 23 0 q))) ∧ μ' = μ := hq
          rw [hov, hmu]
          show Run fam0 none cd_X4_sellShort ER ET 109 4 [some (vR 0 0), some (vI q), some (vI n), some (vI (μ 22 0 q)), some (vI (μ 23 0 q))] [vI (canF (al μ) (μ 22 0 q) (μ 23 0 q))] μ
          refine run_k 2 ?_
          show ((canF (al μ) (μ 22 0 q) (μ 23 0 q)) < n → Run fam0 none cd_X4_sellShort ER ET 117 4 [some (vR 0 0), some (vI q), some (vI n), some (vI (μ 22 0 q)), some (vI (μ 23 0 q))] [] μ) ∧ (n ≤ (canF (al μ) (μ 22 0 q) (μ 23 0 q)) → Run fam0 none cd_X4_sellShort ER ET 113 4 [some (vR 0 0), some (vI q), some (vI n), some (vI (μ 22 0 q)), some (vI (μ 23 0 q))] [] μ)
          refine ⟨fun c15 => ?_, fun c15 => ?_⟩
          · refine run_k 2 ?_
            show ∃ σ : Mm, cl_X4_needState.2.2.1 σ [vI 0] μ ∧ (∀ ov μ', cl_X4_needState.2.2.2.1 σ [vI 0] μ ov μ' → Run fam0 none cd_X4_sellShort ER ET 121 5 [some (vR 0 0), some (vI q), some (vI n), some (vI (μ 22 0 q)), some (vI (μ 23 0 q))] (ov.toList ++ []) μ') ∧ ∀ kx, cl_X4_needState.2.2.2.2 σ [vI 0] μ kx → thr cd_X4_sellShort ET (Run fam0 none cd_X4_sellShort ER ET) 118 5 [some (vR 0 0), some (vI q), some (vI n), some (vI (μ 22 0 q)), some (vI (μ 23 0 q))] μ kx
            refine ⟨μ, ⟨rfl, show True from True.intro⟩, fun ov μ' hq => ?_, fun kx hk => (by have hk : kx = 3 ∧ ¬ ((0 : Int) ≠ 0) := hk; exact hET kx (by omega))⟩
            exact absurd rfl hq.2.2
          · refine run_k 3 ?_
            show ∃ σ : Mm, cl_X4_needState.2.2.1 σ [vI 1] μ ∧ (∀ ov μ', cl_X4_needState.2.2.2.1 σ [vI 1] μ ov μ' → Run fam0 none cd_X4_sellShort ER ET 121 5 [some (vR 0 0), some (vI q), some (vI n), some (vI (μ 22 0 q)), some (vI (μ 23 0 q))] (ov.toList ++ []) μ') ∧ ∀ kx, cl_X4_needState.2.2.2.2 σ [vI 1] μ kx → thr cd_X4_sellShort ET (Run fam0 none cd_X4_sellShort ER ET) 118 5 [some (vR 0 0), some (vI q), some (vI n), some (vI (μ 22 0 q)), some (vI (μ 23 0 q))] μ kx
            refine ⟨μ, ⟨rfl, show True from True.intro⟩, fun ov μ' hq => ?_, fun kx hk => (by have hk : kx = 3 ∧ ¬ ((1 : Int) ≠ 0) := hk; exact hET kx (by omega))⟩
            obtain ⟨hov, hmu, hc17⟩ : ov = none ∧ μ' = μ ∧ ((1 : Int) ≠ 0) := hq
            rw [hov, hmu]
            show Run fam0 none cd_X4_sellShort ER ET 121 5 [some (vR 0 0), some (vI q), some (vI n), some (vI (μ 22 0 q)), some (vI (μ 23 0 q))] [] μ
            refine run_k 6 ?_
            show ∃ σ : Mm, cl_X4_borrow.2.2.1 σ [vR 0 0, vI (μ 23 0 q), vI (μ 22 0 q), vI (-1), vI n] μ ∧ (∀ ov μ', cl_X4_borrow.2.2.2.1 σ [vR 0 0, vI (μ 23 0 q), vI (μ 22 0 q), vI (-1), vI n] μ ov μ' → Run fam0 none cd_X4_sellShort ER ET 130 5 [some (vR 0 0), some (vI q), some (vI n), some (vI (μ 22 0 q)), some (vI (μ 23 0 q))] (ov.toList ++ []) μ') ∧ ∀ kx, cl_X4_borrow.2.2.2.2 σ [vR 0 0, vI (μ 23 0 q), vI (μ 22 0 q), vI (-1), vI n] μ kx → thr cd_X4_sellShort ET (Run fam0 none cd_X4_sellShort ER ET) 127 5 [some (vR 0 0), some (vI q), some (vI n), some (vI (μ 22 0 q)), some (vI (μ 23 0 q))] μ kx
            refine ⟨μ, ⟨rfl, show KI μ ∧ (0 ≤ (μ 23 0 q) ∧ (μ 23 0 q) ≤ 3) ∧ (0 ≤ (μ 22 0 q) ∧ (μ 22 0 q) ≤ 5) ∧ (0 ≤ n ∧ n ≤ 500) from ⟨by assumption, by omega, by omega, by omega⟩⟩, fun ov μ' hq => ?_, fun k hk => hk.elim⟩
            obtain ⟨hov, halB, hKB, hFB⟩ : ov = some (vI (n - (borF (al μ) (μ 22 0 q) (μ 23 0 q) n (-1)).2)) ∧ al μ' = (borF (al μ) (μ 22 0 q) (μ 23 0 q) n (-1)).1 ∧ KI μ' ∧ Fr μ μ' := hq
            rw [hov]
            clear hov
            rename Mm => M1
            generalize n - (borF (al μ) (μ 22 0 q) (μ 23 0 q) n (-1)).2 = rv
            show Run fam0 none cd_X4_sellShort ER ET 130 5 [some (vR 0 0), some (vI q), some (vI n), some (vI (μ 22 0 q)), some (vI (μ 23 0 q))] [vI rv] M1
            have e42 := al_42 (μ := μ) (c := μ 22 0 q) hlk.2.1
            have hsk : Wk (shortF (al μ) q n) := shortF_ok hW hlk.1 hlk.2.1 ⟨by omega, by omega⟩ (show al μ 42 0 (4 * μ 22 0 q + μ 23 0 q) ≤ 0 ∧ -500 ≤ al μ 42 0 (4 * μ 22 0 q + μ 23 0 q) - n by rw [e42]; omega) (by assumption)
            obtain ⟨-, hBR⟩ := borF_ok (b := μ 22 0 q) (s := μ 23 0 q) (want := n) (w := -1) (M := al μ) hlk.1 hlk.2.1 hW.1 hW.2.1 (Gk_of hW.1 hW.2.2.2.2) ⟨by omega, by omega⟩
            have f42 := al_42 (μ := M1) (c := μ 22 0 q) hlk.2.1
            have e7 : M1 7 (μ 22 0 q) (μ 23 0 q) = μ 7 (μ 22 0 q) (μ 23 0 q) := by rw [← f42, halB, hBR.1 42 0 _ (by decide), e42]
            have e5 : al M1 44 0 (μ 22 0 q) = 0 := by rw [halB, hBR.1 44 0 _ (by decide)]; exact (show μ 5 0 (μ 22 0 q) = 0 by omega)
            have f22 := hFB 22 0 q (by decide)
            have f23 := hFB 23 0 q (by decide)
            have e14 : M1 0 0 14 = μ 0 0 14 := by rw [← al_n1 M1, halB, hBR.2.1 1 (by decide)]; rfl
            refine run_k 37 ?_
            show (0 ≤ q ∧ q < 60) ∧ ((1 = 0 ∨ 1 = 1) ∧ ((0 ≤ (μ 22 0 q) ∧ (μ 22 0 q) < 6) ∧ ((0 ≤ (μ 23 0 q) ∧ (μ 23 0 q) < 4) ∧ ((0 ≤ (μ 23 0 q) ∧ (μ 23 0 q) < 4) ∧ ((0 ≤ (μ 22 0 q) ∧ (μ 22 0 q) < 6) ∧ ((0 ≤ (μ 23 0 q) ∧ (μ 23 0 q) < 4) ∧ ((0 ≤ (μ 22 0 q) ∧ (μ 22 0 q) < 6) ∧ ((0 ≤ (μ 22 0 q) ∧ (μ 22 0 q) < 6) ∧ (ER (some (vL ((st (st (st M1 26 0 q 1) 7 (μ 22 0 q) (μ 23 0 q) (w32 ((M1 7 (μ 22 0 q) (μ 23 0 q)) - n))) 3 0 (μ 22 0 q) (w64 ((M1 3 0 (μ 22 0 q)) + (w64 (n * (M1 1 0 (μ 23 0 q))))))) 3 0 (μ 22 0 q)))) (st (st (st M1 26 0 q 1) 7 (μ 22 0 q) (μ 23 0 q) (w32 ((M1 7 (μ 22 0 q) (μ 23 0 q)) - n))) 3 0 (μ 22 0 q) (w64 ((M1 3 0 (μ 22 0 q)) + (w64 (n * (M1 1 0 (μ 23 0 q))))))))))))))))
            rw [show w32 ((M1 7 (μ 22 0 q) (μ 23 0 q)) - n) = (M1 7 (μ 22 0 q) (μ 23 0 q)) - n from w32_id (by simp only [in32]; omega)]
            refine ⟨by omega, ?_⟩
            refine ⟨by omega, ?_⟩
            refine ⟨by omega, ?_⟩
            refine ⟨by omega, ?_⟩
            refine ⟨by omega, ?_⟩
            refine ⟨by omega, ?_⟩
            refine ⟨by omega, ?_⟩
            refine ⟨by omega, ?_⟩
            refine ⟨by omega, ?_⟩
            have ha : al (st (st (st M1 26 0 q 1) 7 (μ 22 0 q) (μ 23 0 q) ((M1 7 (μ 22 0 q) (μ 23 0 q)) - n)) 3 0 (μ 22 0 q) (w64 ((M1 3 0 (μ 22 0 q)) + (w64 (n * (M1 1 0 (μ 23 0 q))))))) = shortF (al μ) q n := by
              unfold shortF
              have hb : (borF (al μ) (al μ 53 0 q) (al μ 54 0 q) n (-1)).1 = al M1 := halB.symm
              rw [al_s3, al_s7 _ _ _ _ hlk.2.1, al_s26, shortF_57]
              dsimp only
              rw [hb, st_o (show (42 : Nat) ≠ 57 by decide), st_o (show (41 : Nat) ≠ 57 by decide), st_o (show (39 : Nat) ≠ 57 by decide)]
              show _ = st (st (st (al M1) 57 0 q 1) 42 0 (4 * μ 22 0 q + μ 23 0 q) (al M1 42 0 (4 * μ 22 0 q + μ 23 0 q) - n)) 41 0 (μ 22 0 q) _
              rw [f42]
              rfl
            have hkp : KI (st (st (st M1 26 0 q 1) 7 (μ 22 0 q) (μ 23 0 q) ((M1 7 (μ 22 0 q) (μ 23 0 q)) - n)) 3 0 (μ 22 0 q) (w64 ((M1 3 0 (μ 22 0 q)) + (w64 (n * (M1 1 0 (μ 23 0 q))))))) := by
              have hK2 : KI (st M1 26 0 q 1) := KI_fr hKB (fun g r j z => st_o (by omega))
              have hal2 : al (st (st (st M1 26 0 q 1) 7 (μ 22 0 q) (μ 23 0 q) ((M1 7 (μ 22 0 q) (μ 23 0 q)) - n)) 3 0 (μ 22 0 q) (w64 ((M1 3 0 (μ 22 0 q)) + (w64 (n * (M1 1 0 (μ 23 0 q))))))) = st (st (al (st M1 26 0 q 1)) 42 0 (4 * μ 22 0 q + μ 23 0 q) (M1 7 (μ 22 0 q) (μ 23 0 q) - n)) 41 0 (μ 22 0 q) (w64 (M1 3 0 (μ 22 0 q) + w64 (n * M1 1 0 (μ 23 0 q)))) := by
                rw [al_s3, al_s7 _ _ _ _ hlk.2.1]
              have g42 := al_42 (μ := st M1 26 0 q 1) (c := μ 22 0 q) hlk.2.1
              refine ki_pos hK2 hlk.1 hlk.2.1 (δ := 0) (fun g j z => by rw [hal2]; exact trd_o (by omega) (by omega)) (by rw [ha]; exact VB_of hsk) (fun d t d0 d1 t0 t1 z => by rw [hal2, trd_p, if_neg (by omega)]) (by rw [al_s26, st_o (by decide)]; exact e5) (fun a t => rfl) ?_ (fun t t0 t1 P hP => ?_)
              · rw [hal2, trd_p, if_pos rfl, g42, st_o (by decide), if_neg (by omega), if_neg (by omega)]
                rfl
              · rw [cnP_cg (M := st (st (st M1 26 0 q 1) 7 (μ 22 0 q) (μ 23 0 q) ((M1 7 (μ 22 0 q) (μ 23 0 q)) - n)) 3 0 (μ 22 0 q) (w64 ((M1 3 0 (μ 22 0 q)) + (w64 (n * (M1 1 0 (μ 23 0 q))))))) (μ := st M1 26 0 q 1) (s := t) (P := P) (n := 3000) (fun _ _ => ⟨rfl, rfl⟩)]
                split
                · split <;> split <;> omega
                · omega
            refine hER _ _ ⟨by omega, congrArg (fun z => some (vL z)) (by rw [← ha]; first | rfl | (rw [st_s]; exact (st_s (μ := _)).symm) | (show _ = st _ 3 0 (μ 22 0 q) _ 3 0 (μ 22 0 q); rw [st_s])), ha, hkp, ?_, fun g r j z => (st_o (by omega)).trans ((st_o (by omega)).trans ((st_o (by omega)).trans (hFB g r j (by omega))))⟩
            show CMt (M1 0 0 14) 40 _
            rw [e14]
            exact CMt_fr hC (fun g r j z => (st_o (by omega)).trans ((st_o (by omega)).trans ((st_o (by omega)).trans (hFB g r j (by omega)))))
set_option maxRecDepth 20000 in
theorem con_X4_sellShort (l : Launch) (htr : l.stackTraces = false) (σ : Mm) : CON fam0 63 l yX4_sellShort (Cond.code yX4_sellShort cX4_sellShort 5 (some .long) :: wm) 7 104 5 (cl_X4_sellShort.2.2.1 σ) (cl_X4_sellShort.2.2.2.1 σ) (cl_X4_sellShort.2.2.2.2 σ) :=
  con_of (cd := cd_X4_sellShort) (own := RX4) (rk := 2) (sc_of htr (by decide) k_X4_sellShort_ok (by decide +kernel) co_X4_ok fl_X4_ok (all_cons ⟨RX4, yX4_needLocate, cX4_needLocate, 2, none, 6, 82, 1, con_X4_needLocate l htr, rfl, vw_X4_127, ⟨rfl, by decide, by decide, by decide +kernel⟩, ⟨by decide, by decide⟩, fun σ as μ h => ⟨0, 0, _, h.1, rfl, TX4, 17, rfl⟩⟩ (all_cons ⟨RX4, yX4_holds, cX4_holds, 2, (some .boolean), 0, 0, 1, con_X4_holds l htr, rfl, vw_X4_139, ⟨rfl, by decide, by decide, by decide +kernel⟩, ⟨by decide, by decide⟩, fun σ as μ h => ⟨0, 0, _, h.1, rfl, TX4, 17, rfl⟩⟩ (all_cons ⟨RX4, yX4_borrowable, cX4_borrowable, 6, (some .int), 2, 51, 2, con_X4_borrowable l htr, rfl, vw_X4_119, ⟨rfl, by decide, by decide, by decide +kernel⟩, ⟨by decide, by decide⟩, fun σ as μ h => ⟨0, 0, _, h.1, rfl, TX4, 17, rfl⟩⟩ (all_cons ⟨RX4, yX4_borrow, cX4_borrow, 9, (some .int), 2, 51, 4, con_X4_borrow l htr, rfl, vw_X4_143, ⟨rfl, by decide, by decide, by decide +kernel⟩, ⟨by decide, by decide⟩, fun σ as μ h => ⟨0, 0, _, h.1, rfl, TX4, 17, rfl⟩⟩ all_nil)))) (all_cons ⟨yX4_needRange, cX4_needRange, 3, none, 6, 82, con_X4_needRange l htr, vw_X4_77, ⟨by decide, by decide, by decide +kernel⟩, ⟨by decide, by decide⟩⟩ (all_cons ⟨yX4_needState, cX4_needState, 1, none, 6, 82, con_X4_needState l htr, vw_X4_86, ⟨by decide, by decide, by decide +kernel⟩, ⟨by decide, by decide⟩⟩ all_nil)) all_nil) rfl (by decide +kernel) rfl rfl rfl rfl (fun as μ hs => by rw [hs.1]; exact Nat.le_of_ble_eq_true rfl)
    (fun as μ hs hM hrg => by
      have hs1 := hs.1
      have hmem : ∀ v, v ∈ ([vR 0 0, vI (iaI as 1), vI (iaI as 2)] : List AV) → rg fam0 v := by rw [← hs1]; exact hrg
      have key := run_X4_sellShort (ER := cl_X4_sellShort.2.2.2.1 σ as μ) (ET := fun k μ' => cl_X4_sellShort.2.2.2.2 σ as μ k ∧ μ' = μ) σ μ (iaI as 1) (iaI as 2) hM (hmem (vI (iaI as 1)) (by simp)) (hmem (vI (iaI as 2)) (by simp)) hs.2 (fun ov μ' h => h) (fun k h => ⟨h, rfl⟩)
      have e : entL as 5 = [some (vR 0 0), some (vI (iaI as 1)), some (vI (iaI as 2)), none, none] := by rw [hs1]; rfl
      rw [e]; exact key)
