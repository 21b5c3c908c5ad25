/-! ===== the class: dividends, days, liquidating, failing -/
theorem Xk_cg {M M' : Mm} (h : Xk M) (h1 : M' 38 0 17 = M 38 0 17) (h2 : M' 38 0 23 = M 38 0 23) (hd : M 38 0 1 ≤ M' 38 0 1 ∧ M' 38 0 1 ≤ 500) (ho : ∀ (g : Nat) (j : Int), (g = 43 ∨ g = 44 ∨ (53 ≤ g ∧ g ≤ 61 ∧ g ≠ 57)) → M' g 0 j = M g 0 j) : Xk M' := by
  obtain ⟨q1, ⟨q2, q3⟩, ⟨q4, q5⟩, q6⟩ := h
  refine ⟨by omega, ⟨by omega, fun k k0 k1 => ?_⟩, ⟨by omega, fun k k0 k1 => ?_⟩, fun c c0 c1 => ?_⟩
  · rw [ho 53 k (by omega), ho 54 k (by omega), ho 55 k (by omega), ho 56 k (by omega)]
    have := q3 k k0 (by omega)
    omega
  · rw [ho 58 k (by omega), ho 59 k (by omega), ho 60 k (by omega), ho 61 k (by omega)]
    exact q5 k k0 (by omega)
  · rw [ho 43 c (by omega), ho 44 c (by omega)]
    exact q6 c c0 c1
theorem dayF_u {μ : Mm} {g : Nat} {t j : Int} (h1 : g ≠ 41) (h2 : g ≠ 47) (h3 : ¬ (g = 38 ∧ j = 1)) : dayF μ g t j = μ g t j := by
  unfold dayF
  rw [st_u h3, chgF_u h1 h2]
theorem dayF_1 (μ : Mm) : dayF μ 38 0 1 = μ 38 0 1 + 1 := by
  unfold dayF
  rw [st_s, chgF_u (by decide) (by decide)]
theorem dayF_ok {μ : Mm} (hW : Wk μ) (hX : Xk μ) (hd : μ 38 0 1 < 500) : Wk (dayF μ) ∧ Xk (dayF μ) := by
  refine ⟨Wk_st (chgF_ok hW _) (by decide), Xk_cg hX (dayF_u (by decide) (by decide) (by decide)) (dayF_u (by decide) (by decide) (by decide)) ?_ (fun g j q => dayF_u (by omega) (by omega) (by omega))⟩
  rw [dayF_1]
  have := hX.1
  omega
/-! ### Primeborrow.dividend -/
def cl_X4_dividend : Cl := (3, 2, fun σ as μ => as = [vR 0 0, vI (iaI as 1), vI (iaI as 2)] ∧ (CV μ), fun σ as μ ov μ' => ((0 ≤ (iaI as 1) ∧ (iaI as 1) ≤ 3) ∧ (1 ≤ (iaI as 2) ∧ (iaI as 2) ≤ 10000)) ∧ ov = some (vL ((divB (al μ) (iaI as 1) (iaI as 2) 4).2)) ∧ al μ' = (divB (al μ) (iaI as 1) (iaI as 2) 4).1 ∧ PB μ μ', fun σ as μ k => (k = 1 ∧ ¬ (0 ≤ (iaI as 1) ∧ (iaI as 1) ≤ 3)) ∨ (k = 2 ∧ (0 ≤ (iaI as 1) ∧ (iaI as 1) ≤ 3) ∧ ¬ (1 ≤ (iaI as 2) ∧ (iaI as 2) ≤ 10000)))
def cd_X4_dividend : Cd := mkcd k_X4_dividend co_X4 fl_X4 [] [(72, cl_X4_needStock), (77, cl_X4_needRange)] [] [] 8 2 2
set_option maxHeartbeats 4000000 in
set_option maxRecDepth 20000 in
theorem run_X4_dividend {ER : Option AV → Mm → Prop} {ET : Nat → Mm → Prop} (σ μ : Mm) (s v : Int) (hM : MR fam0 μ) (h_s : in32 s) (h_v : in32 v) (hP : CV μ) (hER : ∀ ov μ', (((0 ≤ s ∧ s ≤ 3) ∧ (1 ≤ v ∧ v ≤ 10000)) ∧ ov = some (vL ((divB (al μ) s v 4).2)) ∧ al μ' = (divB (al μ) s v 4).1 ∧ PB μ μ') → ER ov μ') (hET : ∀ k, ((k = 1 ∧ ¬ (0 ≤ s ∧ s ≤ 3)) ∨ (k = 2 ∧ (0 ≤ s ∧ s ≤ 3) ∧ ¬ (1 ≤ v ∧ v ≤ 10000))) → ET k μ) : Run fam0 none cd_X4_dividend ER ET 0 0 [some (vR 0 0), some (vI s), some (vI v), none, none, none, none, none] [] μ := by
  have hP0 := hP
  obtain ⟨hK, hW, hX, hC⟩ := hP
  refine run_k 2 ?_
  show ∃ σ : Mm, cl_X4_needStock.2.2.1 σ [vI s] μ ∧ (∀ ov μ', cl_X4_needStock.2.2.2.1 σ [vI s] μ ov μ' → Run fam0 none cd_X4_dividend ER ET 4 1 [some (vR 0 0), some (vI s), some (vI v), none, none, none, none, none] (ov.toList ++ []) μ') ∧ ∀ kx, cl_X4_needStock.2.2.2.2 σ [vI s] μ kx → thr cd_X4_dividend ET (Run fam0 none cd_X4_dividend ER ET) 1 1 [some (vR 0 0), some (vI s), some (vI v), none, none, none, none, none] μ kx
  refine ⟨μ, ⟨rfl, show True from True.intro⟩, fun ov μ' hq => ?_, fun kx hk => (by have hk : kx = 1 ∧ ¬ (0 ≤ s ∧ s ≤ 3) := hk; exact hET kx (by omega))⟩
  obtain ⟨hov, hmu, hc1⟩ : ov = none ∧ μ' = μ ∧ (0 ≤ s ∧ s ≤ 3) := hq
  rw [hov, hmu]
  show Run fam0 none cd_X4_dividend ER ET 4 1 [some (vR 0 0), some (vI s), some (vI v), none, none, none, none, none] [] μ
  refine run_k 4 ?_
  show ∃ σ : Mm, cl_X4_needRange.2.2.1 σ [vI v, vI 1, vI 10000] μ ∧ (∀ ov μ', cl_X4_needRange.2.2.2.1 σ [vI v, vI 1, vI 10000] μ ov μ' → Run fam0 none cd_X4_dividend ER ET 12 2 [some (vR 0 0), some (vI s), some (vI v), none, none, none, none, none] (ov.toList ++ []) μ') ∧ ∀ kx, cl_X4_needRange.2.2.2.2 σ [vI v, vI 1, vI 10000] μ kx → thr cd_X4_dividend ET (Run fam0 none cd_X4_dividend ER ET) 9 2 [some (vR 0 0), some (vI s), some (vI v), none, none, none, none, none] μ kx
  refine ⟨μ, ⟨rfl, show True from True.intro⟩, fun ov μ' hq => ?_, fun kx hk => (by have hk : kx = 2 ∧ ¬ (1 ≤ v ∧ v ≤ 10000) := hk; exact hET kx (by omega))⟩
  obtain ⟨hov, hmu, hc2⟩ : ov = none ∧ μ' = μ ∧ (1 ≤ v ∧ v ≤ 10000) := hq
  rw [hov, hmu]
  show Run fam0 none cd_X4_dividend ER ET 12 2 [some (vR 0 0), some (vI s), some (vI v), none, none, none, none, none] [] μ
  refine run_k 2 ?_
  show Run fam0 none cd_X4_dividend ER ET 14 2 [some (vR 0 0), some (vI s), some (vI v), some (vI 0), none, none, none, none] [] μ
  have lp14 : ∀ (fz : Nat) (k : Nat) (M : Mm), (6 - (k : Int)).toNat < fz → ((k : Int) ≤ 6 ∧ al M = divA (al μ) s v k ∧ (∀ (g : Nat) (r j : Int), g ≠ 3 → g ≠ 12 → M g r j = μ g r j)) → Run fam0 none cd_X4_dividend ER ET 14 2 [some (vR 0 0), some (vI s), some (vI v), some (vI (k : Int)), none, none, none, none] [] M := by
    intro fz
    induction fz with
    | zero => intro k M hf; omega
    | succ fz ih14 =>
      intro k M hf hI
      obtain ⟨hk1, hM2, hfM⟩ := hI
      refine run_k 3 ?_
      show (6 ≤ (k : Int) → Run fam0 none cd_X4_dividend ER ET 47 2 [some (vR 0 0), some (vI s), some (vI v), some (vI (k : Int)), none, none, none, none] [] M) ∧ ((k : Int) < 6 → Run fam0 none cd_X4_dividend ER ET 20 2 [some (vR 0 0), some (vI s), some (vI v), some (vI (k : Int)), none, none, none, none] [] M)
      refine ⟨fun c4 => ?_, fun c4 => ?_⟩
      · refine run_k 4 ?_
        show Run fam0 none cd_X4_dividend ER ET 52 2 [some (vR 0 0), some (vI s), some (vI v), some (vL 0), none, some (vI 0), none, none] [] M
        have lp52 : ∀ (fz : Nat) (j : Nat) (N : Mm) (x : Int), (4 - (j : Int)).toNat < fz → ((j : Int) ≤ 4 ∧ al N = (divB (al μ) s v j).1 ∧ x = (divB (al μ) s v j).2 ∧ (∀ (g : Nat) (r j : Int), g ≠ 3 → g ≠ 12 → N g r j = μ g r j)) → Run fam0 none cd_X4_dividend ER ET 52 2 [some (vR 0 0), some (vI s), some (vI v), some (vL x), none, some (vI (j : Int)), none, none] [] N := by
          intro fz
          induction fz with
          | zero => intro j N x hf; omega
          | succ fz ih52 =>
            intro j N x hf hI
            obtain ⟨hj1, hN2, hx2, hfN⟩ := hI
            refine run_k 3 ?_
            show (4 ≤ (j : Int) → Run fam0 none cd_X4_dividend ER ET 99 2 [some (vR 0 0), some (vI s), some (vI v), some (vL x), none, some (vI (j : Int)), none, none] [] N) ∧ ((j : Int) < 4 → Run fam0 none cd_X4_dividend ER ET 58 2 [some (vR 0 0), some (vI s), some (vI v), some (vL x), none, some (vI (j : Int)), none, none] [] N)
            refine ⟨fun c6 => ?_, fun c6 => ?_⟩
            · refine run_k 2 ?_
              show ER (some (vL x)) N
              exact hER _ _ ⟨by omega, congrArg (fun z => some (vL z)) (by rw [hx2, show j = 4 by omega]), by rw [hN2, show j = 4 by omega], KI_fr hK (fun g r i q => hfN g r i (by omega) (by omega)), by rw [hfN 0 0 14 (by decide) (by decide)]; exact CMt_fr hC (fun g r i q => hfN g r i (by omega) (by omega)), fun g r i q => hfN g r i (by omega) (by omega)⟩
            · refine run_k 27 ?_
              show (0 ≤ (w32 (10 + (j : Int))) ∧ (w32 (10 + (j : Int))) < 14) ∧ ((0 ≤ s ∧ s < 4) ∧ ((0 ≤ (j : Int) ∧ (j : Int) < 4) ∧ ((0 ≤ (j : Int) ∧ (j : Int) < 4) ∧ (Run fam0 none cd_X4_dividend ER ET 52 2 [some (vR 0 0), some (vI s), some (vI v), some (vL (w64 (x + (w64 ((N 14 (w32 (10 + (j : Int))) s) * v))))), none, some (vI (w32 ((j : Int) + 1))), some (vL (w64 ((N 14 (w32 (10 + (j : Int))) s) * v))), none] [] (st N 12 0 (j : Int) (w64 ((N 12 0 (j : Int)) + (w64 ((N 14 (w32 (10 + (j : Int))) s) * v)))))))))
              rw [show w32 (10 + (j : Int)) = 10 + (j : Int) from w32_id (by simp only [in32]; omega)]
              rw [show w32 ((j : Int) + 1) = (j : Int) + 1 from w32_id (by simp only [in32]; omega)]
              refine ⟨by omega, ?_⟩
              refine ⟨by omega, ?_⟩
              refine ⟨by omega, ?_⟩
              refine ⟨by omega, ?_⟩
              refine run_w (L' := [some (vR 0 0), some (vI s), some (vI v), some (vL (w64 (x + (w64 ((N 14 (10 + (j : Int)) s) * v))))), none, some (vI ((j : Int) + 1)), none, none]) ⟨rfl, rfl, rfl, rfl, rfl, True.intro⟩ ?_
              exact ih52 (j + 1) (st N 12 0 (j : Int) (w64 ((N 12 0 (j : Int)) + (w64 ((N 14 (10 + (j : Int)) s) * v))))) (w64 (x + (w64 ((N 14 (10 + (j : Int)) s) * v)))) (by omega) (by
                  have hkl := ki_len (KI_fr hK (fun g r i q => hfN g r i (by omega) (by omega)) : KI N) (l := (j : Int)) (s := s) (by omega) (by omega)
                  refine ⟨by omega, by rw [divB, ← hN2, al_s12, hkl.2.2.1]; rfl, by rw [divB, ← hN2, ← hx2, hkl.2.2.1], fun g r i q1 q2 => (st_o q2).trans (hfN g r i q1 q2)⟩)
        exact lp52 _ 0 M 0 (Nat.lt_succ_self _) (⟨by omega, by rw [hM2, show k = 6 by omega]; rfl, rfl, hfM⟩)
      · refine run_k 19 ?_
        show (0 ≤ (k : Int) ∧ (k : Int) < 6) ∧ ((0 ≤ (k : Int) ∧ (k : Int) < 6) ∧ ((0 ≤ s ∧ s < 4) ∧ ((0 ≤ (k : Int) ∧ (k : Int) < 6) ∧ (Run fam0 none cd_X4_dividend ER ET 14 2 [some (vR 0 0), some (vI s), some (vI v), some (vI (w32 ((k : Int) + 1))), none, none, none, none] [] (st M 3 0 (k : Int) (w64 ((M 3 0 (k : Int)) + (w64 ((M 7 (k : Int) s) * v)))))))))
        rw [show w32 ((k : Int) + 1) = (k : Int) + 1 from w32_id (by simp only [in32]; omega)]
        refine ⟨by omega, ?_⟩
        refine ⟨by omega, ?_⟩
        refine ⟨by omega, ?_⟩
        refine ⟨by omega, ?_⟩
        exact ih14 (k + 1) (st M 3 0 (k : Int) (w64 ((M 3 0 (k : Int)) + (w64 ((M 7 (k : Int) s) * v))))) (by omega) (⟨by omega, by rw [divA, ← hM2, al_s3, al_42 (show 0 ≤ s ∧ s ≤ 3 by omega)]; rfl, fun g r j q1 q2 => (st_o q1).trans (hfM g r j q1 q2)⟩)
  exact lp14 _ 0 μ (Nat.lt_succ_self _) (⟨by omega, (al_th μ).symm, fun _ _ _ _ _ => rfl⟩)
set_option maxRecDepth 20000 in
theorem con_X4_dividend (l : Launch) (htr : l.stackTraces = false) (σ : Mm) : CON fam0 63 l yX4_dividend (Cond.code yX4_dividend cX4_dividend 8 (some .long) :: wm) 7 104 2 (cl_X4_dividend.2.2.1 σ) (cl_X4_dividend.2.2.2.1 σ) (cl_X4_dividend.2.2.2.2 σ) :=
  con_of (cd := cd_X4_dividend) (own := RX4) (rk := 2) (sc_of htr (by decide) k_X4_dividend_ok (by decide +kernel) co_X4_ok fl_X4_ok all_nil (all_cons ⟨yX4_needStock, cX4_needStock, 1, none, 6, 82, con_X4_needStock l htr, vw_X4_72, ⟨by decide, by decide, by decide +kernel⟩, ⟨by decide, by decide⟩⟩ (all_cons ⟨yX4_needRange, cX4_needRange, 3, none, 6, 82, con_X4_needRange l htr, vw_X4_77, ⟨by decide, by decide, by decide +kernel⟩, ⟨by decide, by decide⟩⟩ all_nil)) all_nil) rfl (by decide +kernel) rfl rfl rfl rfl (fun as μ hs => by rw [hs.1]; exact Nat.le_of_ble_eq_true rfl)
    (fun as μ hs hM hrg => by
      have hs1 := hs.1
      have hmem : ∀ v, v ∈ ([vR 0 0, vI (iaI as 1), vI (iaI as 2)] : List AV) → rg fam0 v := by rw [← hs1]; exact hrg
      have key := run_X4_dividend (ER := cl_X4_dividend.2.2.2.1 σ as μ) (ET := fun k μ' => cl_X4_dividend.2.2.2.2 σ as μ k ∧ μ' = μ) σ μ (iaI as 1) (iaI as 2) hM (hmem (vI (iaI as 1)) (by simp)) (hmem (vI (iaI as 2)) (by simp)) hs.2 (fun ov μ' h => h) (fun k h => ⟨h, rfl⟩)
      have e : entL as 8 = [some (vR 0 0), some (vI (iaI as 1)), some (vI (iaI as 2)), none, none, none, none, none] := by rw [hs1]; rfl
      rw [e]; exact key)
/-! ### Primeborrow.pass -/
def cl_X4_pass : Cl := (2, 2, fun σ as μ => as = [vR 0 0, vI (iaI as 1)] ∧ (CV μ), fun σ as μ ov μ' => ((1 ≤ (iaI as 1) ∧ (iaI as 1) ≤ 50) ∧ (μ 0 0 14 + (iaI as 1) ≤ 500)) ∧ ov = some (vI (μ 0 0 14 + (iaI as 1))) ∧ al μ' = psL (al μ) (iaI as 1).toNat ∧ PB μ μ', fun σ as μ k => (k = 2 ∧ ¬ (1 ≤ (iaI as 1) ∧ (iaI as 1) ≤ 50)) ∨ (k = 3 ∧ (1 ≤ (iaI as 1) ∧ (iaI as 1) ≤ 50) ∧ ¬ (μ 0 0 14 + (iaI as 1) ≤ 500)))
def cd_X4_pass : Cd := mkcd k_X4_pass co_X4 fl_X4 [(104, cl_X4_chargeFees), (107, cl_X4_meetRecalls)] [(77, cl_X4_needRange), (86, cl_X4_needState)] [] [] 3 1 2
set_option maxHeartbeats 4000000 in
set_option maxRecDepth 20000 in
theorem run_X4_pass {ER : Option AV → Mm → Prop} {ET : Nat → Mm → Prop} (σ μ : Mm) (n : Int) (hM : MR fam0 μ) (h_n : in32 n) (hP : CV μ) (hER : ∀ ov μ', (((1 ≤ n ∧ n ≤ 50) ∧ (μ 0 0 14 + n ≤ 500)) ∧ ov = some (vI (μ 0 0 14 + n)) ∧ al μ' = psL (al μ) n.toNat ∧ PB μ μ') → ER ov μ') (hET : ∀ k, ((k = 2 ∧ ¬ (1 ≤ n ∧ n ≤ 50)) ∨ (k = 3 ∧ (1 ≤ n ∧ n ≤ 50) ∧ ¬ (μ 0 0 14 + n ≤ 500))) → ET k μ) : Run fam0 none cd_X4_pass ER ET 0 0 [some (vR 0 0), some (vI n), none] [] μ := by
  have hP0 := hP
  obtain ⟨hK, hW, hX, hC⟩ := hP
  have hd0 : 0 ≤ μ 0 0 14 ∧ μ 0 0 14 ≤ 500 := hX.1
  refine run_k 4 ?_
  show ∃ σ : Mm, cl_X4_needRange.2.2.1 σ [vI n, vI 1, vI 50] μ ∧ (∀ ov μ', cl_X4_needRange.2.2.2.1 σ [vI n, vI 1, vI 50] μ ov μ' → Run fam0 none cd_X4_pass ER ET 7 1 [some (vR 0 0), some (vI n), none] (ov.toList ++ []) μ') ∧ ∀ kx, cl_X4_needRange.2.2.2.2 σ [vI n, vI 1, vI 50] μ kx → thr cd_X4_pass ET (Run fam0 none cd_X4_pass ER ET) 4 1 [some (vR 0 0), some (vI n), none] μ kx
  refine ⟨μ, ⟨rfl, show True from True.intro⟩, fun ov μ' hq => ?_, fun kx hk => (by have hk : kx = 2 ∧ ¬ (1 ≤ n ∧ n ≤ 50) := hk; exact hET kx (by omega))⟩
  obtain ⟨hov, hmu, hc1⟩ : ov = none ∧ μ' = μ ∧ (1 ≤ n ∧ n ≤ 50) := hq
  rw [hov, hmu]
  show Run fam0 none cd_X4_pass ER ET 7 1 [some (vR 0 0), some (vI n), none] [] μ
  refine run_k 6 ?_
  show (500 < (w32 ((μ 0 0 14) + n)) → Run fam0 none cd_X4_pass ER ET 23 1 [some (vR 0 0), some (vI n), none] [] μ) ∧ ((w32 ((μ 0 0 14) + n)) ≤ 500 → Run fam0 none cd_X4_pass ER ET 19 1 [some (vR 0 0), some (vI n), none] [] μ)
  rw [show w32 ((μ 0 0 14) + n) = (μ 0 0 14) + n from w32_id (by simp only [in32]; omega)]
  refine ⟨fun c2 => ?_, fun c2 => ?_⟩
  · refine run_k 2 ?_
    show ∃ σ : Mm, cl_X4_needState.2.2.1 σ [vI 0] μ ∧ (∀ ov μ', cl_X4_needState.2.2.2.1 σ [vI 0] μ ov μ' → Run fam0 none cd_X4_pass ER ET 27 2 [some (vR 0 0), some (vI n), none] (ov.toList ++ []) μ') ∧ ∀ kx, cl_X4_needState.2.2.2.2 σ [vI 0] μ kx → thr cd_X4_pass ET (Run fam0 none cd_X4_pass ER ET) 24 2 [some (vR 0 0), some (vI n), none] μ kx
    refine ⟨μ, ⟨rfl, show True from True.intro⟩, fun ov μ' hq => ?_, fun kx hk => (by have hk : kx = 3 ∧ ¬ ((0 : Int) ≠ 0) := hk; exact hET kx (by omega))⟩
    exact absurd rfl hq.2.2
  · refine run_k 3 ?_
    show ∃ σ : Mm, cl_X4_needState.2.2.1 σ [vI 1] μ ∧ (∀ ov μ', cl_X4_needState.2.2.2.1 σ [vI 1] μ ov μ' → Run fam0 none cd_X4_pass ER ET 27 2 [some (vR 0 0), some (vI n), none] (ov.toList ++ []) μ') ∧ ∀ kx, cl_X4_needState.2.2.2.2 σ [vI 1] μ kx → thr cd_X4_pass ET (Run fam0 none cd_X4_pass ER ET) 24 2 [some (vR 0 0), some (vI n), none] μ kx
    refine ⟨μ, ⟨rfl, show True from True.intro⟩, fun ov μ' hq => ?_, fun kx hk => (by have hk : kx = 3 ∧ ¬ ((1 : Int) ≠ 0) := hk; exact hET kx (by omega))⟩
    obtain ⟨hov, hmu, hc4⟩ : ov = none ∧ μ' = μ ∧ ((1 : Int) ≠ 0) := hq
    rw [hov, hmu]
    show Run fam0 none cd_X4_pass ER ET 27 2 [some (vR 0 0), some (vI n), none] [] μ
    refine run_k 2 ?_
    show Run fam0 none cd_X4_pass ER ET 29 2 [some (vR 0 0), some (vI n), some (vI 0)] [] μ
    have lp29 : ∀ (fz : Nat) (k : Nat) (M : Mm), (n - (k : Int)).toNat < fz → ((k : Int) ≤ n ∧ al M = psL (al μ) k ∧ KI M ∧ Wk (al M) ∧ Xk (al M) ∧ CMt (M 0 0 14) 40 M ∧ R38 μ M ∧ M 0 0 14 = μ 0 0 14 + k) → Run fam0 none cd_X4_pass ER ET 29 2 [some (vR 0 0), some (vI n), some (vI (k : Int))] [] M := by
      intro fz
      induction fz with
      | zero => intro k M hf; omega
      | succ fz ih29 =>
        intro k M hf hI
        obtain ⟨hk1, hM2, hKM, hWM, hXM, hCM, hRM, hdM⟩ := hI
        refine run_k 3 ?_
        show (n ≤ (k : Int) → Run fam0 none cd_X4_pass ER ET 58 2 [some (vR 0 0), some (vI n), some (vI (k : Int))] [] M) ∧ ((k : Int) < n → Run fam0 none cd_X4_pass ER ET 34 2 [some (vR 0 0), some (vI n), some (vI (k : Int))] [] M)
        refine ⟨fun c6 => ?_, fun c6 => ?_⟩
        · refine run_k 3 ?_
          show ER (some (vI (M 0 0 14))) M
          exact hER _ _ ⟨by omega, congrArg (fun z => some (vI z)) (by omega), by rw [hM2, show k = n.toNat by omega], hKM, hCM, hRM⟩
        · refine run_k 2 ?_
          show ∃ σ : Mm, cl_X4_chargeFees.2.2.1 σ [vR 0 0] M ∧ (∀ ov μ', cl_X4_chargeFees.2.2.2.1 σ [vR 0 0] M ov μ' → Run fam0 none cd_X4_pass ER ET 38 2 [some (vR 0 0), some (vI n), some (vI (k : Int))] (ov.toList ++ []) μ') ∧ ∀ kx, cl_X4_chargeFees.2.2.2.2 σ [vR 0 0] M kx → thr cd_X4_pass ET (Run fam0 none cd_X4_pass ER ET) 35 2 [some (vR 0 0), some (vI n), some (vI (k : Int))] M kx
          refine ⟨μ, ⟨rfl, show KI M from (by assumption)⟩, fun ov μ' hq => ?_, fun k hk => hk.elim⟩
          obtain ⟨hov, hal1, hK1, hf1⟩ : ov = none ∧ al μ' = chgF (al M) (M 15 0 5).toNat ∧ KI μ' ∧ (∀ (g : Nat) (r j : Int), g ≠ 3 → g ≠ 12 → μ' g r j = M g r j) := hq
          rw [hov]
          clear hov
          rename Mm => M1
          show Run fam0 none cd_X4_pass ER ET 38 2 [some (vR 0 0), some (vI n), some (vI (k : Int))] [] M1
          have hd1 : M1 0 0 14 = M 0 0 14 := hf1 0 0 14 (by decide) (by decide)
          have hals : al (st M1 0 0 14 (M1 0 0 14 + 1)) = dayF (al M) := by
            rw [al_f14, hal1]
            unfold dayF
            rw [al_n11, chgF_u (by decide) (by decide), hd1]
            rfl
          have hdk := dayF_ok hWM hXM (show M 0 0 14 < 500 by omega)
          have hKs : KI (st M1 0 0 14 (M1 0 0 14 + 1)) := KI_cg hK1 (by rw [hals]; exact VB_of hdk.1) (by rw [al_f14]; exact st_i (by decide)) (fun g j q => by rw [al_f14]; exact st_u (by omega)) (fun g r j q => st_u (by omega))
          have hCs : CMt (M1 0 0 14 + 1) 0 (st M1 0 0 14 (M1 0 0 14 + 1)) := fun i i0 => by
            have hr := hXM.2.2.1.1
            change 0 ≤ M 27 0 5 ∧ M 27 0 5 ≤ 40 at hr
            rw [st_o (show (32 : Nat) ≠ 0 by decide), st_o (show (27 : Nat) ≠ 0 by decide), st_o (show (31 : Nat) ≠ 0 by decide), hf1 32 0 i (by decide) (by decide), hf1 27 0 5 (by decide) (by decide), hf1 31 0 i (by decide) (by decide), hd1, hCM i i0]
            split <;> split <;> omega
          have hCs : CMt (st M1 0 0 14 (M1 0 0 14 + 1) 0 0 14) 0 (st M1 0 0 14 (M1 0 0 14 + 1)) := by rw [st_s]; exact hCs
          refine run_k 8 ?_
          show ∃ σ : Mm, cl_X4_meetRecalls.2.2.1 σ [vR 0 0] (st M1 0 0 14 (w32 ((M1 0 0 14) + 1))) ∧ (∀ ov μ', cl_X4_meetRecalls.2.2.2.1 σ [vR 0 0] (st M1 0 0 14 (w32 ((M1 0 0 14) + 1))) ov μ' → Run fam0 none cd_X4_pass ER ET 52 2 [some (vR 0 0), some (vI n), some (vI (k : Int))] (ov.toList ++ []) μ') ∧ ∀ kx, cl_X4_meetRecalls.2.2.2.2 σ [vR 0 0] (st M1 0 0 14 (w32 ((M1 0 0 14) + 1))) kx → thr cd_X4_pass ET (Run fam0 none cd_X4_pass ER ET) 49 2 [some (vR 0 0), some (vI n), some (vI (k : Int))] (st M1 0 0 14 (w32 ((M1 0 0 14) + 1))) kx
          rw [show w32 ((M1 0 0 14) + 1) = (M1 0 0 14) + 1 from w32_id (by simp only [in32]; omega)]
          refine ⟨μ, ⟨rfl, show KI (st M1 0 0 14 ((M1 0 0 14) + 1)) ∧ Wk (al (st M1 0 0 14 ((M1 0 0 14) + 1))) ∧ Xk (al (st M1 0 0 14 ((M1 0 0 14) + 1))) ∧ CMt ((st M1 0 0 14 ((M1 0 0 14) + 1)) 0 0 14) 0 (st M1 0 0 14 ((M1 0 0 14) + 1)) from ⟨hKs, by rw [hals]; exact hdk.1, by rw [hals]; exact hdk.2, hCs⟩⟩, fun ov μ' hq => ?_, fun k hk => hk.elim⟩
          obtain ⟨hov, hal2, hK2, hC2, hf2⟩ : ov = none ∧ al μ' = mrL (al (st M1 0 0 14 ((M1 0 0 14) + 1))) (M1 27 0 5).toNat ∧ KI μ' ∧ CMt (μ' 0 0 14) 40 μ' ∧ (∀ (g : Nat) (r j : Int), (21 ≤ g ∧ g ≠ 35 ∧ g ≠ 37 ∧ g ≠ 32) → μ' g r j = (st M1 0 0 14 ((M1 0 0 14) + 1)) g r j) := hq
          rw [hov]
          clear hov
          rename Mm => M2
          show Run fam0 none cd_X4_pass ER ET 52 2 [some (vR 0 0), some (vI n), some (vI (k : Int))] [] M2
          refine run_k 2 ?_
          show Run fam0 none cd_X4_pass ER ET 29 2 [some (vR 0 0), some (vI n), some (vI (w32 ((k : Int) + 1)))] [] M2
          rw [show w32 ((k : Int) + 1) = (k : Int) + 1 from w32_id (by simp only [in32]; omega)]
          exact ih29 (k + 1) M2 (by omega) (by
              have hp : al M2 = passF (al M) := by
                rw [hal2, hals]
                unfold passF
                rw [mr_is, hf1 27 0 5 (by decide) (by decide)]
                rfl
              have hpk := passF_ok hWM hXM (show M 0 0 14 < 500 by omega)
              refine ⟨by omega, by rw [hp, hM2]; rfl, hK2, by rw [hp]; exact hpk.1, by rw [hp]; exact hpk.2, hC2, fun g r j q => (hf2 g r j (by omega)).trans ((st_o (by omega)).trans ((hf1 g r j (by omega) (by omega)).trans (hRM g r j q))), ?_⟩
              rw [← al_n1 M2, hp, passF_day, al_n1, hdM]
              omega)
    exact lp29 _ 0 μ (Nat.lt_succ_self _) (⟨by omega, (al_th μ).symm, hK, hW, hX, hC, fun _ _ _ _ => rfl, by omega⟩)
theorem vw_X4_107 : ∀ w ∈ ([.methodLink RX4 107 yX4_meetRecalls, .instanceMethod yX4_meetRecalls, .selects RX4 yX4_meetRecalls yX4_meetRecalls, .initialized RX4, .code yX4_meetRecalls cX4_meetRecalls 2 none] : List Cond), w ∈ wm := wm_ps _ [434, 436, 5, 50, 437] (by decide +kernel)
theorem vw_X4_104 : ∀ w ∈ ([.methodLink RX4 104 yX4_chargeFees, .instanceMethod yX4_chargeFees, .selects RX4 yX4_chargeFees yX4_chargeFees, .initialized RX4, .code yX4_chargeFees cX4_chargeFees 4 none] : List Cond), w ∈ wm := wm_ps _ [429, 431, 4, 50, 432] (by decide +kernel)
set_option maxRecDepth 20000 in
theorem con_X4_pass (l : Launch) (htr : l.stackTraces = false) (σ : Mm) : CON fam0 63 l yX4_pass (Cond.code yX4_pass cX4_pass 3 (some .int) :: wm) 7 151 2 (cl_X4_pass.2.2.1 σ) (cl_X4_pass.2.2.2.1 σ) (cl_X4_pass.2.2.2.2 σ) :=
  con_of (cd := cd_X4_pass) (own := RX4) (rk := 1) (sc_of htr (by decide) k_X4_pass_ok (by decide +kernel) co_X4_ok fl_X4_ok (all_cons ⟨RX4, yX4_chargeFees, cX4_chargeFees, 4, none, 0, 0, 0, con_X4_chargeFees l htr, rfl, vw_X4_104, ⟨rfl, by decide, by decide, by decide +kernel⟩, ⟨by decide, by decide⟩, fun σ as μ h => ⟨0, 0, _, h.1, rfl, TX4, 17, rfl⟩⟩ (all_cons ⟨RX4, yX4_meetRecalls, cX4_meetRecalls, 2, none, 5, 130, 0, con_X4_meetRecalls l htr, rfl, vw_X4_107, ⟨rfl, by decide, by decide, by decide +kernel⟩, ⟨by decide, by decide⟩, fun σ as μ h => ⟨0, 0, _, h.1, rfl, TX4, 17, rfl⟩⟩ all_nil)) (all_cons ⟨yX4_needRange, cX4_needRange, 3, none, 6, 82, con_X4_needRange l htr, vw_X4_77, ⟨by decide, by decide, by decide +kernel⟩, ⟨by decide, by decide⟩⟩ (all_cons ⟨yX4_needState, cX4_needState, 1, none, 6, 82, con_X4_needState l htr, vw_X4_86, ⟨by decide, by decide, by decide +kernel⟩, ⟨by decide, by decide⟩⟩ all_nil)) all_nil) rfl (by decide +kernel) rfl rfl rfl rfl (fun as μ hs => by rw [hs.1]; exact Nat.le_of_ble_eq_true rfl)
    (fun as μ hs hM hrg => by
      have hs1 := hs.1
      have hmem : ∀ v, v ∈ ([vR 0 0, vI (iaI as 1)] : List AV) → rg fam0 v := by rw [← hs1]; exact hrg
      have key := run_X4_pass (ER := cl_X4_pass.2.2.2.1 σ as μ) (ET := fun k μ' => cl_X4_pass.2.2.2.2 σ as μ k ∧ μ' = μ) σ μ (iaI as 1) hM (hmem (vI (iaI as 1)) (by simp)) hs.2 (fun ov μ' h => h) (fun k h => ⟨h, rfl⟩)
      have e : entL as 3 = [some (vR 0 0), some (vI (iaI as 1)), none] := by rw [hs1]; rfl
      rw [e]; exact key)
/-! ### Primeborrow.liquidate -/
def cl_X4_liquidate : Cl := (2, 2, fun σ as μ => as = [vR 0 0, vI (iaI as 1)] ∧ (CV μ), fun σ as μ ov μ' => ((0 ≤ (iaI as 1) ∧ (iaI as 1) ≤ 5) ∧ (calledF (al μ) (iaI as 1) ≠ 0)) ∧ ov = some (vI ((liqF (al μ) (iaI as 1)).2)) ∧ al μ' = (liqF (al μ) (iaI as 1)).1 ∧ PB μ μ', fun σ as μ k => (k = 1 ∧ ¬ (0 ≤ (iaI as 1) ∧ (iaI as 1) ≤ 5)) ∨ (k = 3 ∧ (0 ≤ (iaI as 1) ∧ (iaI as 1) ≤ 5) ∧ ¬ (calledF (al μ) (iaI as 1) ≠ 0)))
def cd_X4_liquidate : Cd := mkcd k_X4_liquidate co_X4 fl_X4 [(152, cl_X4_called), (155, cl_X4_greatest), (159, cl_X4_close)] [(81, cl_X4_needClient), (86, cl_X4_needState)] [] [] 5 1 2
set_option maxHeartbeats 4000000 in
set_option maxRecDepth 20000 in
theorem run_X4_liquidate {ER : Option AV → Mm → Prop} {ET : Nat → Mm → Prop} (σ μ : Mm) (c : Int) (hM : MR fam0 μ) (h_c : in32 c) (hP : CV μ) (hER : ∀ ov μ', (((0 ≤ c ∧ c ≤ 5) ∧ (calledF (al μ) c ≠ 0)) ∧ ov = some (vI ((liqF (al μ) c).2)) ∧ al μ' = (liqF (al μ) c).1 ∧ PB μ μ') → ER ov μ') (hET : ∀ k, ((k = 1 ∧ ¬ (0 ≤ c ∧ c ≤ 5)) ∨ (k = 3 ∧ (0 ≤ c ∧ c ≤ 5) ∧ ¬ (calledF (al μ) c ≠ 0))) → ET k μ) : Run fam0 none cd_X4_liquidate ER ET 0 0 [some (vR 0 0), some (vI c), none, none, none] [] μ := by
  have hP0 := hP
  obtain ⟨hK, hW, hX, hC⟩ := hP
  refine run_k 2 ?_
  show ∃ σ : Mm, cl_X4_needClient.2.2.1 σ [vI c] μ ∧ (∀ ov μ', cl_X4_needClient.2.2.2.1 σ [vI c] μ ov μ' → Run fam0 none cd_X4_liquidate ER ET 4 1 [some (vR 0 0), some (vI c), none, none, none] (ov.toList ++ []) μ') ∧ ∀ kx, cl_X4_needClient.2.2.2.2 σ [vI c] μ kx → thr cd_X4_liquidate ET (Run fam0 none cd_X4_liquidate ER ET) 1 1 [some (vR 0 0), some (vI c), none, none, none] μ kx
  refine ⟨μ, ⟨rfl, show True from True.intro⟩, fun ov μ' hq => ?_, fun kx hk => (by have hk : kx = 1 ∧ ¬ (0 ≤ c ∧ c ≤ 5) := hk; exact hET kx (by omega))⟩
  obtain ⟨hov, hmu, hc1⟩ : ov = none ∧ μ' = μ ∧ (0 ≤ c ∧ c ≤ 5) := hq
  rw [hov, hmu]
  show Run fam0 none cd_X4_liquidate ER ET 4 1 [some (vR 0 0), some (vI c), none, none, none] [] μ
  refine run_k 3 ?_
  show ∃ σ : Mm, cl_X4_called.2.2.1 σ [vR 0 0, vI c] μ ∧ (∀ ov μ', cl_X4_called.2.2.2.1 σ [vR 0 0, vI c] μ ov μ' → Run fam0 none cd_X4_liquidate ER ET 9 1 [some (vR 0 0), some (vI c), none, none, none] (ov.toList ++ []) μ') ∧ ∀ kx, cl_X4_called.2.2.2.2 σ [vR 0 0, vI c] μ kx → thr cd_X4_liquidate ET (Run fam0 none cd_X4_liquidate ER ET) 6 1 [some (vR 0 0), some (vI c), none, none, none] μ kx
  refine ⟨μ, ⟨rfl, show (0 ≤ c ∧ c ≤ 5) from by omega⟩, fun ov μ' hq => ?_, fun k hk => hk.elim⟩
  obtain ⟨hov, hmu⟩ : ov = some (vI (calledF (al μ) c)) ∧ μ' = μ := hq
  rw [hov, hmu]
  show Run fam0 none cd_X4_liquidate ER ET 9 1 [some (vR 0 0), some (vI c), none, none, none] [vI (calledF (al μ) c)] μ
  refine run_k 1 ?_
  show ∃ σ : Mm, cl_X4_needState.2.2.1 σ [vI (calledF (al μ) c)] μ ∧ (∀ ov μ', cl_X4_needState.2.2.2.1 σ [vI (calledF (al μ) c)] μ ov μ' → Run fam0 none cd_X4_liquidate ER ET 12 2 [some (vR 0 0), some (vI c), none, none, none] (ov.toList ++ []) μ') ∧ ∀ kx, cl_X4_needState.2.2.2.2 σ [vI (calledF (al μ) c)] μ kx → thr cd_X4_liquidate ET (Run fam0 none cd_X4_liquidate ER ET) 9 2 [some (vR 0 0), some (vI c), none, none, none] μ kx
  refine ⟨μ, ⟨rfl, show True from True.intro⟩, fun ov μ' hq => ?_, fun kx hk => (by have hk : kx = 3 ∧ ¬ (((calledF (al μ) c) : Int) ≠ 0) := hk; exact hET kx (by omega))⟩
  obtain ⟨hov, hmu, hc3⟩ : ov = none ∧ μ' = μ ∧ (((calledF (al μ) c) : Int) ≠ 0) := hq
  rw [hov, hmu]
  show Run fam0 none cd_X4_liquidate ER ET 12 2 [some (vR 0 0), some (vI c), none, none, none] [] μ
  refine run_k 4 ?_
  show Run fam0 none cd_X4_liquidate ER ET 16 2 [some (vR 0 0), some (vI c), some (vI 0), some (vI 0), none] [] μ
  have lp16 : ∀ (fz : Nat) (f : Nat) (M : Mm) (n i : Int), f < fz → ((i + (f : Int) = 4 ∧ n = i ∧ 0 ≤ i) ∧ liqL c f (al M) n = liqF (al μ) c ∧ KI M ∧ Wk (al M) ∧ Fr μ M ∧ M 0 0 14 = μ 0 0 14) → Run fam0 none cd_X4_liquidate ER ET 16 2 [some (vR 0 0), some (vI c), some (vI n), some (vI i), none] [] M := by
    intro fz
    induction fz with
    | zero => intro f M n i hf; omega
    | succ fz ih16 =>
      intro f M n i hf hI
      obtain ⟨hif, hgo, hKM, hWM, hFM, hdM⟩ := hI
      refine run_k 3 ?_
      show (4 ≤ i → Run fam0 none cd_X4_liquidate ER ET 61 2 [some (vR 0 0), some (vI c), some (vI n), some (vI i), none] [] M) ∧ (i < 4 → Run fam0 none cd_X4_liquidate ER ET 21 2 [some (vR 0 0), some (vI c), some (vI n), some (vI i), none] [] M)
      refine ⟨fun c5 => ?_, fun c5 => ?_⟩
      · refine run_k 2 ?_
        show ER (some (vI n)) M
        have hres : liqF (al μ) c = (al M, n) := by
          rw [← hgo]
          first | exact liqL_n (by omega) | (rw [show f = 0 by omega]; rfl) | exact liqL_n (by unfold grF at hgr; split at hgr <;> omega)
        exact hER _ _ ⟨by omega, congrArg (fun z => some (vI z)) (by rw [hres]), by rw [hres], PB_of hC hKM hFM hdM⟩
      · obtain ⟨f', hf'⟩ : ∃ f', f = f' + 1 := ⟨f - 1, by omega⟩
        subst hf'
        refine run_k 3 ?_
        show ∃ σ : Mm, cl_X4_called.2.2.1 σ [vR 0 0, vI c] M ∧ (∀ ov μ', cl_X4_called.2.2.2.1 σ [vR 0 0, vI c] M ov μ' → Run fam0 none cd_X4_liquidate ER ET 26 2 [some (vR 0 0), some (vI c), some (vI n), some (vI i), none] (ov.toList ++ []) μ') ∧ ∀ kx, cl_X4_called.2.2.2.2 σ [vR 0 0, vI c] M kx → thr cd_X4_liquidate ET (Run fam0 none cd_X4_liquidate ER ET) 23 2 [some (vR 0 0), some (vI c), some (vI n), some (vI i), none] M kx
        refine ⟨μ, ⟨rfl, show (0 ≤ c ∧ c ≤ 5) from by omega⟩, fun ov μ' hq => ?_, fun k hk => hk.elim⟩
        obtain ⟨hov, hmu⟩ : ov = some (vI (calledF (al M) c)) ∧ μ' = M := hq
        rw [hov, hmu]
        show Run fam0 none cd_X4_liquidate ER ET 26 2 [some (vR 0 0), some (vI c), some (vI n), some (vI i), none] [vI (calledF (al M) c)] M
        refine run_k 1 ?_
        show ((calledF (al M) c) = 0 → Run fam0 none cd_X4_liquidate ER ET 61 2 [some (vR 0 0), some (vI c), some (vI n), some (vI i), none] [] M) ∧ ((calledF (al M) c) ≠ 0 → Run fam0 none cd_X4_liquidate ER ET 29 2 [some (vR 0 0), some (vI c), some (vI n), some (vI i), none] [] M)
        refine ⟨fun c8 => ?_, fun c8 => ?_⟩
        · refine run_k 2 ?_
          show ER (some (vI n)) M
          have hres : liqF (al μ) c = (al M, n) := by
            rw [← hgo]
            first | exact liqL_n (by omega) | (rw [show f = 0 by omega]; rfl) | exact liqL_n (by unfold grF at hgr; split at hgr <;> omega)
          exact hER _ _ ⟨by omega, congrArg (fun z => some (vI z)) (by rw [hres]), by rw [hres], PB_of hC hKM hFM hdM⟩
        · refine run_k 3 ?_
          show ∃ σ : Mm, cl_X4_greatest.2.2.1 σ [vR 0 0, vI c] M ∧ (∀ ov μ', cl_X4_greatest.2.2.2.1 σ [vR 0 0, vI c] M ov μ' → Run fam0 none cd_X4_liquidate ER ET 34 2 [some (vR 0 0), some (vI c), some (vI n), some (vI i), none] (ov.toList ++ []) μ') ∧ ∀ kx, cl_X4_greatest.2.2.2.2 σ [vR 0 0, vI c] M kx → thr cd_X4_liquidate ET (Run fam0 none cd_X4_liquidate ER ET) 31 2 [some (vR 0 0), some (vI c), some (vI n), some (vI i), none] M kx
          refine ⟨μ, ⟨rfl, show (0 ≤ c ∧ c ≤ 5) from by omega⟩, fun ov μ' hq => ?_, fun k hk => hk.elim⟩
          obtain ⟨hov, hmu⟩ : ov = some (vI (grF (al M) c)) ∧ μ' = M := hq
          rw [hov, hmu]
          generalize hxe : grF (al M) c = x
          show Run fam0 none cd_X4_liquidate ER ET 34 2 [some (vR 0 0), some (vI c), some (vI n), some (vI i), none] [vI x] M
          have hbt := btL_rng (al M) c 3
          have hgr : grF (al M) c = x := hxe
          have hxr : x = -1 ∨ (0 ≤ x ∧ x ≤ 3) := by
            have h2 := hgr
            unfold grF at h2
            split at h2 <;> omega
          refine run_k 4 ?_
          show (x ≠ (-1) → Run fam0 none cd_X4_liquidate ER ET 45 2 [some (vR 0 0), some (vI c), some (vI n), some (vI i), some (vI x)] [] M) ∧ (x = (-1) → Run fam0 none cd_X4_liquidate ER ET 42 2 [some (vR 0 0), some (vI c), some (vI n), some (vI i), some (vI x)] [] M)
          refine ⟨fun c11 => ?_, fun c11 => ?_⟩
          · refine run_k 4 ?_
            show ∃ σ : Mm, cl_X4_close.2.2.1 σ [vR 0 0, vI c, vI x] M ∧ (∀ ov μ', cl_X4_close.2.2.2.1 σ [vR 0 0, vI c, vI x] M ov μ' → Run fam0 none cd_X4_liquidate ER ET 52 2 [some (vR 0 0), some (vI c), some (vI n), some (vI i), some (vI x)] (ov.toList ++ []) μ') ∧ ∀ kx, cl_X4_close.2.2.2.2 σ [vR 0 0, vI c, vI x] M kx → thr cd_X4_liquidate ET (Run fam0 none cd_X4_liquidate ER ET) 49 2 [some (vR 0 0), some (vI c), some (vI n), some (vI i), some (vI x)] M kx
            refine ⟨μ, ⟨rfl, show KI M ∧ Wk (al M) ∧ (0 ≤ c ∧ c ≤ 5) ∧ (0 ≤ x ∧ x ≤ 3) from ⟨by assumption, by assumption, by omega, by omega⟩⟩, fun ov μ' hq => ?_, fun k hk => hk.elim⟩
            obtain ⟨hov, hal1, hK1, hF1⟩ : ov = none ∧ al μ' = closeF (al M) c x ∧ KI μ' ∧ Fr M μ' := hq
            rw [hov]
            clear hov
            rename Mm => M1
            show Run fam0 none cd_X4_liquidate ER ET 52 2 [some (vR 0 0), some (vI c), some (vI n), some (vI i), some (vI x)] [] M1
            refine run_k 3 ?_
            show Run fam0 none cd_X4_liquidate ER ET 16 2 [some (vR 0 0), some (vI c), some (vI (w32 (n + 1))), some (vI (w32 (i + 1))), some (vI x)] [] M1
            rw [show w32 (n + 1) = n + 1 from w32_id (by simp only [in32]; omega)]
            rw [show w32 (i + 1) = i + 1 from w32_id (by simp only [in32]; omega)]
            refine run_w (L' := [some (vR 0 0), some (vI c), some (vI (n + 1)), some (vI (i + 1)), none]) ⟨rfl, rfl, rfl, rfl, True.intro⟩ ?_
            exact ih16 f' M1 (n + 1) (i + 1) (by omega) (by
                have hgx : 0 < worthF (al M) c (btL (al M) c 3) ∧ btL (al M) c 3 = x := by unfold grF at hgr; split at hgr <;> omega
                rw [liqL, if_pos ⟨hgx.1, by omega⟩, hgx.2, ← hal1] at hgo
                refine ⟨by omega, hgo, hK1, by rw [hal1]; exact closeF_ok hWM (by omega) (by omega), Fr_tr hFM hF1, ?_⟩
                rw [← hdM, ← al_n1 M1, hal1]
                exact closeF_u _ _ _ (by decide) (by decide) (by decide))
          · refine run_k 3 ?_
            show ER (some (vI n)) M
            have hres : liqF (al μ) c = (al M, n) := by
              rw [← hgo]
              first | exact liqL_n (by omega) | (rw [show f = 0 by omega]; rfl) | exact liqL_n (by unfold grF at hgr; split at hgr <;> omega)
            exact hER _ _ ⟨by omega, congrArg (fun z => some (vI z)) (by rw [hres]), by rw [hres], PB_of hC hKM hFM hdM⟩
  exact lp16 _ 4 μ 0 0 (Nat.lt_succ_self _) (⟨by omega, by unfold liqF; rw [al_th], hK, hW, Fr_rf _, rfl⟩)
theorem vw_X4_159 : ∀ w ∈ ([.methodLink RX4 159 yX4_close, .instanceMethod yX4_close, .selects RX4 yX4_close yX4_close, .initialized RX4, .code yX4_close cX4_close 4 none] : List Cond), w ∈ wm := wm_ps _ [581, 583, 24, 50, 584] (by decide +kernel)
theorem vw_X4_155 : ∀ w ∈ ([.methodLink RX4 155 yX4_greatest, .instanceMethod yX4_greatest, .selects RX4 yX4_greatest yX4_greatest, .initialized RX4, .code yX4_greatest cX4_greatest 8 (some .int)] : List Cond), w ∈ wm := wm_ps _ [577, 579, 23, 50, 580] (by decide +kernel)
set_option maxRecDepth 20000 in
theorem con_X4_liquidate (l : Launch) (htr : l.stackTraces = false) (σ : Mm) : CON fam0 63 l yX4_liquidate (Cond.code yX4_liquidate cX4_liquidate 5 (some .int) :: wm) 7 153 2 (cl_X4_liquidate.2.2.1 σ) (cl_X4_liquidate.2.2.2.1 σ) (cl_X4_liquidate.2.2.2.2 σ) :=
  con_of (cd := cd_X4_liquidate) (own := RX4) (rk := 1) (sc_of htr (by decide) k_X4_liquidate_ok (by decide +kernel) co_X4_ok fl_X4_ok (all_cons ⟨RX4, yX4_called, cX4_called, 2, (some .boolean), 2, 50, 1, con_X4_called l htr, rfl, vw_X4_152, ⟨rfl, by decide, by decide, by decide +kernel⟩, ⟨by decide, by decide⟩, fun σ as μ h => ⟨0, 0, _, h.1, rfl, TX4, 17, rfl⟩⟩ (all_cons ⟨RX4, yX4_greatest, cX4_greatest, 8, (some .int), 1, 22, 1, con_X4_greatest l htr, rfl, vw_X4_155, ⟨rfl, by decide, by decide, by decide +kernel⟩, ⟨by decide, by decide⟩, fun σ as μ h => ⟨0, 0, _, h.1, rfl, TX4, 17, rfl⟩⟩ (all_cons ⟨RX4, yX4_close, cX4_close, 4, none, 5, 130, 2, con_X4_close l htr, rfl, vw_X4_159, ⟨rfl, by decide, by decide, by decide +kernel⟩, ⟨by decide, by decide⟩, fun σ as μ h => ⟨0, 0, _, h.1, rfl, TX4, 17, rfl⟩⟩ all_nil))) (all_cons ⟨yX4_needClient, cX4_needClient, 1, none, 6, 82, con_X4_needClient l htr, vw_X4_81, ⟨by decide, by decide, by decide +kernel⟩, ⟨by decide, by decide⟩⟩ (all_cons ⟨yX4_needState, cX4_needState, 1, none, 6, 82, con_X4_needState l htr, vw_X4_86, ⟨by decide, by decide, by decide +kernel⟩, ⟨by decide, by decide⟩⟩ all_nil)) all_nil) rfl (by decide +kernel) rfl rfl rfl rfl (fun as μ hs => by rw [hs.1]; exact Nat.le_of_ble_eq_true rfl)
    (fun as μ hs hM hrg => by
      have hs1 := hs.1
      have hmem : ∀ v, v ∈ ([vR 0 0, vI (iaI as 1)] : List AV) → rg fam0 v := by rw [← hs1]; exact hrg
      have key := run_X4_liquidate (ER := cl_X4_liquidate.2.2.2.1 σ as μ) (ET := fun k μ' => cl_X4_liquidate.2.2.2.2 σ as μ k ∧ μ' = μ) σ μ (iaI as 1) hM (hmem (vI (iaI as 1)) (by simp)) hs.2 (fun ov μ' h => h) (fun k h => ⟨h, rfl⟩)
      have e : entL as 5 = [some (vR 0 0), some (vI (iaI as 1)), none, none, none] := by rw [hs1]; rfl
      rw [e]; exact key)
