/-! ===== what is asked of a stock: the reference -/
def soL (μ : Mm) (s w : Int) : Nat → Int
  | 0 => 0
  | k + 1 => (((soL μ s w k + (if w = 1 ∧ 0 < μ 42 0 (4 * (k : Int) + s) then μ 42 0 (4 * (k : Int) + s) else 0)) - (if w = 2 ∧ μ 42 0 (4 * (k : Int) + s) < 0 then μ 42 0 (4 * (k : Int) + s) else 0)) + (if w = 3 then partF (st μ 38 0 0 0) (k : Int) s else 0)) + (if w = 4 then lentF (st μ 38 0 0 0) (k : Int) s else 0)
def soM (μ : Mm) (s w : Int) : Nat → Int
  | 0 => soL μ s w 6
  | k + 1 => soM μ s w k + (if w = 5 then lentF (st μ 38 0 0 0) (10 + (k : Int)) s else 0)
theorem soV_rng {μ : Mm} (hW : Wk μ) {s : Int} (hs : 0 ≤ s ∧ s ≤ 3) (w : Int) (k : Nat) (hk : k < 6) : (0 ≤ (if w = 1 ∧ 0 < μ 42 0 (4 * (k : Int) + s) then μ 42 0 (4 * (k : Int) + s) else 0) ∧ (if w = 1 ∧ 0 < μ 42 0 (4 * (k : Int) + s) then μ 42 0 (4 * (k : Int) + s) else 0) ≤ 500) ∧ (-500 ≤ (if w = 2 ∧ μ 42 0 (4 * (k : Int) + s) < 0 then μ 42 0 (4 * (k : Int) + s) else 0) ∧ (if w = 2 ∧ μ 42 0 (4 * (k : Int) + s) < 0 then μ 42 0 (4 * (k : Int) + s) else 0) ≤ 0) ∧ (-500000 ≤ (if w = 3 then partF (st μ 38 0 0 0) (k : Int) s else 0) ∧ (if w = 3 then partF (st μ 38 0 0 0) (k : Int) s else 0) ≤ 500) ∧ (0 ≤ (if w = 4 then lentF (st μ 38 0 0 0) (k : Int) s else 0) ∧ (if w = 4 then lentF (st μ 38 0 0 0) (k : Int) s else 0) ≤ 500000) := by
  have h0 : Wk (st μ 38 0 0 0) := Wk_st hW (by decide)
  have h1 := hW.2.1 (4 * (k : Int) + s) (by omega) (by omega)
  have h2 := partF_rng h0.1 h0.2.1 (c := (k : Int)) (by omega) hs
  have h3 := lentF_rng h0.1 (k : Int) s
  refine ⟨?_, ?_, ?_, ?_⟩ <;> split <;> omega
theorem soL_rng {μ : Mm} (hW : Wk μ) {s : Int} (hs : 0 ≤ s ∧ s ≤ 3) (w : Int) : ∀ k : Nat, k ≤ 6 → -(1000000 * (k : Int)) ≤ soL μ s w k ∧ soL μ s w k ≤ 1000000 * (k : Int)
  | 0, _ => ⟨by simp [soL], by simp [soL]⟩
  | k + 1, hk => by
    have ih := soL_rng hW hs w k (by omega)
    have hv := soV_rng hW hs w k (by omega)
    rw [soL]
    omega
theorem soM_rng {μ : Mm} (hW : Wk μ) {s : Int} (hs : 0 ≤ s ∧ s ≤ 3) (w : Int) : ∀ k : Nat, k ≤ 4 → -(6000000 + 1000000 * (k : Int)) ≤ soM μ s w k ∧ soM μ s w k ≤ 6000000 + 1000000 * (k : Int)
  | 0, _ => by have := soL_rng hW hs w 6 (by decide); rw [soM]; omega
  | k + 1, hk => by
    have ih := soM_rng hW hs w k (by omega)
    have h0 : Wk (st μ 38 0 0 0) := Wk_st hW (by decide)
    have h3 := lentF_rng h0.1 (10 + (k : Int)) s
    rw [soM]
    split <;> omega
/-! ### PrimeborrowModel.stockOf -/
def cl_X5_stockOf : Cl := (3, 0, fun σ as μ => as = [vR 38 0, vI (iaI as 1), vI (iaI as 2)] ∧ (Wk μ ∧ Xk μ), fun σ as μ ov μ' => ((¬ (0 ≤ (iaI as 1) ∧ (iaI as 1) ≤ 3)) → ov = some (vI 0) ∧ μ' = st μ 38 0 0 1) ∧ (((0 ≤ (iaI as 1) ∧ (iaI as 1) ≤ 3) ∧ ¬ (0 ≤ (iaI as 2) ∧ (iaI as 2) ≤ 6)) → ov = some (vI 0) ∧ μ' = st μ 38 0 0 2) ∧ (((0 ≤ (iaI as 1) ∧ (iaI as 1) ≤ 3) ∧ (0 ≤ (iaI as 2) ∧ (iaI as 2) ≤ 6)) → ov = some (vI (if (iaI as 2) = 0 then μ 39 0 (iaI as 1) else if (iaI as 2) = 6 then μ 40 0 (iaI as 1) else soM μ (iaI as 1) (iaI as 2) 4)) ∧ μ' = st μ 38 0 0 0), fun σ as μ k => False)
def cd_X5_stockOf : Cd := mkcd k_X5_stockOf co_X5 fl_X5 [(127, cl_X5_refused), (96, cl_X5_partOf), (92, cl_X5_lentFrom)] [(122, cl_X5_isStock), (85, cl_X5_in)] [] [] 6 1 0
set_option maxHeartbeats 4000000 in
set_option maxRecDepth 20000 in
theorem run_X5_stockOf {ER : Option AV → Mm → Prop} {ET : Nat → Mm → Prop} (σ μ : Mm) (s w : Int) (hM : MR fam0 μ) (h_s : in32 s) (h_w : in32 w) (hP : Wk μ ∧ Xk μ) (hER : ∀ ov μ', (((¬ (0 ≤ s ∧ s ≤ 3)) → ov = some (vI 0) ∧ μ' = st μ 38 0 0 1) ∧ (((0 ≤ s ∧ s ≤ 3) ∧ ¬ (0 ≤ w ∧ w ≤ 6)) → ov = some (vI 0) ∧ μ' = st μ 38 0 0 2) ∧ (((0 ≤ s ∧ s ≤ 3) ∧ (0 ≤ w ∧ w ≤ 6)) → ov = some (vI (if w = 0 then μ 39 0 s else if w = 6 then μ 40 0 s else soM μ s w 4)) ∧ μ' = st μ 38 0 0 0)) → ER ov μ') : Run fam0 none cd_X5_stockOf ER ET 0 0 [some (vR 38 0), some (vI s), some (vI w), none, none, none] [] μ := by
  obtain ⟨hW, hX⟩ := hP
  have hW0 : Wk (st μ 38 0 0 0) := Wk_st hW (by decide)
  have hLk := hW.1
  have hLk0 := hW0.1
  have hPk := hW.2.1
  have hPk0 := hW0.2.1
  have hGk := Gk_of hLk hW.2.2.2.2
  have hGk0 := Gk_of hLk0 hW0.2.2.2.2
  have hday := hX.1
  have hloc := hX.2.1.1
  have hrec := hX.2.2.1.1
  have hl0 := hLk.1
  refine run_k 3 ?_
  show ∃ σ : Mm, cl_X5_isStock.2.2.1 σ [vI s] μ ∧ (∀ ov μ', cl_X5_isStock.2.2.2.1 σ [vI s] μ ov μ' → Run fam0 none cd_X5_stockOf ER ET 5 0 [some (vR 38 0), some (vI s), some (vI w), none, none, none] (ov.toList ++ [vR 38 0]) μ') ∧ ∀ kx, cl_X5_isStock.2.2.2.2 σ [vI s] μ kx → thr cd_X5_stockOf ET (Run fam0 none cd_X5_stockOf ER ET) 2 0 [some (vR 38 0), some (vI s), some (vI w), none, none, none] μ kx
  refine ⟨μ, ⟨rfl, show True from True.intro⟩, fun ov μ' hq => ?_, fun k hk => hk.elim⟩
  obtain ⟨hov, hmu⟩ : ov = some (vI (bi (0 ≤ s ∧ s ≤ 3))) ∧ μ' = μ := hq
  rw [hov, hmu]
  show Run fam0 none cd_X5_stockOf ER ET 5 0 [some (vR 38 0), some (vI s), some (vI w), none, none, none] [vI (bi (0 ≤ s ∧ s ≤ 3)), vR 38 0] μ
  refine run_k 1 ?_
  show ((bi (0 ≤ s ∧ s ≤ 3)) ≠ 0 → Run fam0 none cd_X5_stockOf ER ET 12 0 [some (vR 38 0), some (vI s), some (vI w), none, none, none] [vR 38 0] μ) ∧ ((bi (0 ≤ s ∧ s ≤ 3)) = 0 → Run fam0 none cd_X5_stockOf ER ET 8 0 [some (vR 38 0), some (vI s), some (vI w), none, none, none] [vR 38 0] μ)
  refine ⟨fun c2 => ?_, fun c2 => ?_⟩
  · replace c2 := (bi_n0.mp c2)
    refine run_k 4 ?_
    show ∃ σ : Mm, cl_X5_in.2.2.1 σ [vI w, vI 0, vI 6] μ ∧ (∀ ov μ', cl_X5_in.2.2.2.1 σ [vI w, vI 0, vI 6] μ ov μ' → Run fam0 none cd_X5_stockOf ER ET 19 0 [some (vR 38 0), some (vI s), some (vI w), none, none, none] (ov.toList ++ [vR 38 0]) μ') ∧ ∀ kx, cl_X5_in.2.2.2.2 σ [vI w, vI 0, vI 6] μ kx → thr cd_X5_stockOf ET (Run fam0 none cd_X5_stockOf ER ET) 16 0 [some (vR 38 0), some (vI s), some (vI w), none, none, none] μ kx
    refine ⟨μ, ⟨rfl, show True from True.intro⟩, fun ov μ' hq => ?_, fun k hk => hk.elim⟩
    obtain ⟨hov, hmu⟩ : ov = some (vI (bi (0 ≤ w ∧ w ≤ 6))) ∧ μ' = μ := hq
    rw [hov, hmu]
    show Run fam0 none cd_X5_stockOf ER ET 19 0 [some (vR 38 0), some (vI s), some (vI w), none, none, none] [vI (bi (0 ≤ w ∧ w ≤ 6)), vR 38 0] μ
    refine run_k 1 ?_
    show ((bi (0 ≤ w ∧ w ≤ 6)) ≠ 0 → Run fam0 none cd_X5_stockOf ER ET 26 0 [some (vR 38 0), some (vI s), some (vI w), none, none, none] [vR 38 0] μ) ∧ ((bi (0 ≤ w ∧ w ≤ 6)) = 0 → Run fam0 none cd_X5_stockOf ER ET 22 0 [some (vR 38 0), some (vI s), some (vI w), none, none, none] [vR 38 0] μ)
    refine ⟨fun c4 => ?_, fun c4 => ?_⟩
    · replace c4 := (bi_n0.mp c4)
      refine run_k 2 ?_
      show ∃ σ : Mm, cl_X5_refused.2.2.1 σ [vR 38 0, vI 0] μ ∧ (∀ ov μ', cl_X5_refused.2.2.2.1 σ [vR 38 0, vI 0] μ ov μ' → Run fam0 none cd_X5_stockOf ER ET 30 0 [some (vR 38 0), some (vI s), some (vI w), none, none, none] (ov.toList ++ []) μ') ∧ ∀ kx, cl_X5_refused.2.2.2.2 σ [vR 38 0, vI 0] μ kx → thr cd_X5_stockOf ET (Run fam0 none cd_X5_stockOf ER ET) 27 0 [some (vR 38 0), some (vI s), some (vI w), none, none, none] μ kx
      refine ⟨μ, ⟨rfl, show True from True.intro⟩, fun ov μ' hq => ?_, fun k hk => hk.elim⟩
      obtain ⟨hov, hmu⟩ : ov = some (vI 0) ∧ μ' = st μ 38 0 0 0 := hq
      rw [hov, hmu]
      show Run fam0 none cd_X5_stockOf ER ET 30 0 [some (vR 38 0), some (vI s), some (vI w), none, none, none] [vI 0] (st μ 38 0 0 0)
      refine run_k 1 ?_
      show (0 = 0 → Run fam0 none cd_X5_stockOf ER ET 35 0 [some (vR 38 0), some (vI s), some (vI w), none, none, none] [] (st μ 38 0 0 0)) ∧ (0 ≠ 0 → Run fam0 none cd_X5_stockOf ER ET 33 0 [some (vR 38 0), some (vI s), some (vI w), none, none, none] [] (st μ 38 0 0 0))
      refine ⟨fun c6 => ?_, fun c6 => absurd c6 (by decide)⟩
      refine run_k 2 ?_
      show (w = 0 → Run fam0 none cd_X5_stockOf ER ET 45 0 [some (vR 38 0), some (vI s), some (vI w), none, none, none] [] (st μ 38 0 0 0)) ∧ (w ≠ 0 → Run fam0 none cd_X5_stockOf ER ET 39 0 [some (vR 38 0), some (vI s), some (vI w), none, none, none] [] (st μ 38 0 0 0))
      refine ⟨fun c7 => ?_, fun c7 => ?_⟩
      · refine run_k 2 ?_
        show (w ≠ 0 → Run fam0 none cd_X5_stockOf ER ET 58 0 [some (vR 38 0), some (vI s), some (vI w), none, none, none] [] (st μ 38 0 0 0)) ∧ (w = 0 → Run fam0 none cd_X5_stockOf ER ET 49 0 [some (vR 38 0), some (vI s), some (vI w), none, none, none] [] (st μ 38 0 0 0))
        refine ⟨fun c8 => absurd c8 (by omega), fun c8 => ?_⟩
        refine run_k 6 ?_
        show (0 ≤ s ∧ s < 4) ∧ (ER (some (vI (μ 39 0 s))) (st μ 38 0 0 0))
        refine ⟨by omega, ?_⟩
        refine hER _ _ ⟨fun h => ?_, fun h => ?_, fun h => ?_⟩ <;> first | (exfalso; omega) | exact ⟨by (first | rw [if_pos (by omega)] | (rw [if_neg (by omega)]; first | rw [if_pos (by omega)] | rw [if_neg (by omega)])) <;> rw [hx2, show j = 4 by omega], rfl⟩ | exact ⟨rfl, rfl⟩
      · refine run_k 3 ?_
        show (w ≠ 6 → Run fam0 none cd_X5_stockOf ER ET 65 0 [some (vR 38 0), some (vI s), some (vI w), none, none, none] [] (st μ 38 0 0 0)) ∧ (w = 6 → Run fam0 none cd_X5_stockOf ER ET 45 0 [some (vR 38 0), some (vI s), some (vI w), none, none, none] [] (st μ 38 0 0 0))
        refine ⟨fun c10 => ?_, fun c10 => ?_⟩
        · refine run_k 4 ?_
          show Run fam0 none cd_X5_stockOf ER ET 70 0 [some (vR 38 0), some (vI s), some (vI w), some (vI 0), some (vI 0), none] [] (st μ 38 0 0 0)
          have lp70 : ∀ (fz : Nat) (k : Nat) (x : Int), (6 - (k : Int)).toNat < fz → ((k : Int) ≤ 6 ∧ x = soL μ s w k) → Run fam0 none cd_X5_stockOf ER ET 70 0 [some (vR 38 0), some (vI s), some (vI w), some (vI x), some (vI (k : Int)), none] [] (st μ 38 0 0 0) := by
            intro fz
            induction fz with
            | zero => intro k x hf; omega
            | succ fz ih70 =>
              intro k x hf hI
              obtain ⟨hk1, hx2⟩ := hI
              have hxr := soL_rng hW (s := s) (by omega) w k (by omega)
              rw [← hx2] at hxr
              refine run_k 3 ?_
              show (6 ≤ (k : Int) → Run fam0 none cd_X5_stockOf ER ET 172 0 [some (vR 38 0), some (vI s), some (vI w), some (vI x), some (vI (k : Int)), none] [] (st μ 38 0 0 0)) ∧ ((k : Int) < 6 → Run fam0 none cd_X5_stockOf ER ET 77 0 [some (vR 38 0), some (vI s), some (vI w), some (vI x), some (vI (k : Int)), none] [] (st μ 38 0 0 0))
              refine ⟨fun c12 => ?_, fun c12 => ?_⟩
              · refine run_k 2 ?_
                show Run fam0 none cd_X5_stockOf ER ET 175 0 [some (vR 38 0), some (vI s), some (vI w), some (vI x), some (vI 0), none] [] (st μ 38 0 0 0)
                have lp175 : ∀ (fz : Nat) (j : Nat) (x : Int), (4 - (j : Int)).toNat < fz → ((j : Int) ≤ 4 ∧ x = soM μ s w j) → Run fam0 none cd_X5_stockOf ER ET 175 0 [some (vR 38 0), some (vI s), some (vI w), some (vI x), some (vI (j : Int)), none] [] (st μ 38 0 0 0) := by
                  intro fz
                  induction fz with
                  | zero => intro j x hf; omega
                  | succ fz ih175 =>
                    intro j x hf hI
                    obtain ⟨hj1, hx2⟩ := hI
                    have hxr := soM_rng hW (s := s) (by omega) w j (by omega)
                    rw [← hx2] at hxr
                    have hlr := lentF_rng hLk0 (10 + (j : Int)) s
                    have hv5 : 0 ≤ (if w = 5 then lentF (st μ 38 0 0 0) (10 + (j : Int)) s else 0) ∧ (if w = 5 then lentF (st μ 38 0 0 0) (10 + (j : Int)) s else 0) ≤ 500000 := by split <;> omega
                    refine run_k 3 ?_
                    show (4 ≤ (j : Int) → Run fam0 none cd_X5_stockOf ER ET 209 0 [some (vR 38 0), some (vI s), some (vI w), some (vI x), some (vI (j : Int)), none] [] (st μ 38 0 0 0)) ∧ ((j : Int) < 4 → Run fam0 none cd_X5_stockOf ER ET 181 0 [some (vR 38 0), some (vI s), some (vI w), some (vI x), some (vI (j : Int)), none] [] (st μ 38 0 0 0))
                    refine ⟨fun c14 => ?_, fun c14 => ?_⟩
                    · refine run_k 2 ?_
                      show ER (some (vI x)) (st μ 38 0 0 0)
                      refine hER _ _ ⟨fun h => ?_, fun h => ?_, fun h => ?_⟩ <;> first | (exfalso; omega) | exact ⟨by (first | rw [if_pos (by omega)] | (rw [if_neg (by omega)]; first | rw [if_pos (by omega)] | rw [if_neg (by omega)])) <;> rw [hx2, show j = 4 by omega], rfl⟩ | exact ⟨rfl, rfl⟩
                    · refine run_k 4 ?_
                      show (w ≠ 5 → Run fam0 none cd_X5_stockOf ER ET 200 0 [some (vR 38 0), some (vI s), some (vI w), some (vI x), some (vI (j : Int)), none] [vI x] (st μ 38 0 0 0)) ∧ (w = 5 → Run fam0 none cd_X5_stockOf ER ET 187 0 [some (vR 38 0), some (vI s), some (vI w), some (vI x), some (vI (j : Int)), none] [vI x] (st μ 38 0 0 0))
                      have jn184 : Run fam0 none cd_X5_stockOf ER ET 201 0 [some (vR 38 0), some (vI s), some (vI w), some (vI x), some (vI (j : Int)), none] [vI (if w = 5 then lentF (st μ 38 0 0 0) (10 + (j : Int)) s else 0), vI x] (st μ 38 0 0 0) := by
                        refine run_k 4 ?_
                        show Run fam0 none cd_X5_stockOf ER ET 175 0 [some (vR 38 0), some (vI s), some (vI w), some (vI (w32 (x + (if w = 5 then lentF (st μ 38 0 0 0) (10 + (j : Int)) s else 0)))), some (vI (w32 ((j : Int) + 1))), none] [] (st μ 38 0 0 0)
                        rw [show w32 (x + (if w = 5 then lentF (st μ 38 0 0 0) (10 + (j : Int)) s else 0)) = x + (if w = 5 then lentF (st μ 38 0 0 0) (10 + (j : Int)) s else 0) from w32_id (by simp only [in32]; omega)]
                        rw [show w32 ((j : Int) + 1) = (j : Int) + 1 from w32_id (by simp only [in32]; omega)]
                        exact ih175 (j + 1) (x + (if w = 5 then lentF (st μ 38 0 0 0) (10 + (j : Int)) s else 0)) (by omega) (⟨by omega, by rw [hx2]; rfl⟩)
                      refine ⟨fun c16 => ?_, fun c16 => ?_⟩
                      · refine run_k 1 ?_
                        show Run fam0 none cd_X5_stockOf ER ET 201 0 [some (vR 38 0), some (vI s), some (vI w), some (vI x), some (vI (j : Int)), none] [vI 0, vI x] (st μ 38 0 0 0)
                        rw [show (if w = 5 then lentF (st μ 38 0 0 0) (10 + (j : Int)) s else 0) = 0 from by first | rw [if_pos (by omega)] | rw [if_neg (by omega)]] at jn184
                        exact jn184
                      · refine run_k 6 ?_
                        show ∃ σ : Mm, cl_X5_lentFrom.2.2.1 σ [vR 38 0, vI (w32 (10 + (j : Int))), vI s] (st μ 38 0 0 0) ∧ (∀ ov μ', cl_X5_lentFrom.2.2.2.1 σ [vR 38 0, vI (w32 (10 + (j : Int))), vI s] (st μ 38 0 0 0) ov μ' → Run fam0 none cd_X5_stockOf ER ET 197 0 [some (vR 38 0), some (vI s), some (vI w), some (vI x), some (vI (j : Int)), none] (ov.toList ++ [vI x]) μ') ∧ ∀ kx, cl_X5_lentFrom.2.2.2.2 σ [vR 38 0, vI (w32 (10 + (j : Int))), vI s] (st μ 38 0 0 0) kx → thr cd_X5_stockOf ET (Run fam0 none cd_X5_stockOf ER ET) 194 0 [some (vR 38 0), some (vI s), some (vI w), some (vI x), some (vI (j : Int)), none] (st μ 38 0 0 0) kx
                        rw [show w32 (10 + (j : Int)) = 10 + (j : Int) from w32_id (by simp only [in32]; omega)]
                        refine ⟨μ, ⟨rfl, show Lk (st μ 38 0 0 0) from (by assumption)⟩, fun ov μ' hq => ?_, fun k hk => hk.elim⟩
                        obtain ⟨hov, hmu⟩ : ov = some (vI (lentF (st μ 38 0 0 0) (10 + (j : Int)) s)) ∧ μ' = st μ 38 0 0 0 := hq
                        rw [hov, hmu]
                        show Run fam0 none cd_X5_stockOf ER ET 197 0 [some (vR 38 0), some (vI s), some (vI w), some (vI x), some (vI (j : Int)), none] [vI (lentF (st μ 38 0 0 0) (10 + (j : Int)) s), vI x] (st μ 38 0 0 0)
                        refine run_k 1 ?_
                        show Run fam0 none cd_X5_stockOf ER ET 201 0 [some (vR 38 0), some (vI s), some (vI w), some (vI x), some (vI (j : Int)), none] [vI (lentF (st μ 38 0 0 0) (10 + (j : Int)) s), vI x] (st μ 38 0 0 0)
                        rw [show (if w = 5 then lentF (st μ 38 0 0 0) (10 + (j : Int)) s else 0) = (lentF (st μ 38 0 0 0) (10 + (j : Int)) s) from by first | rw [if_pos (by omega)] | rw [if_neg (by omega)]] at jn184
                        exact jn184
                exact lp175 _ 0 x (Nat.lt_succ_self _) (⟨by omega, by rw [hx2, show k = 6 by omega]; rfl⟩)
              · have hv := soV_rng hW (s := s) (by omega) w k (by omega)
                refine run_k 13 ?_
                show (0 ≤ (w32 ((w32 (4 * (k : Int))) + s)) ∧ (w32 ((w32 (4 * (k : Int))) + s)) < 24) ∧ ((w ≠ 1 → Run fam0 none cd_X5_stockOf ER ET 106 0 [some (vR 38 0), some (vI s), some (vI w), some (vI x), some (vI (k : Int)), some (vI (μ 42 0 (w32 ((w32 (4 * (k : Int))) + s))))] [vI x] (st μ 38 0 0 0)) ∧ (w = 1 → Run fam0 none cd_X5_stockOf ER ET 96 0 [some (vR 38 0), some (vI s), some (vI w), some (vI x), some (vI (k : Int)), some (vI (μ 42 0 (w32 ((w32 (4 * (k : Int))) + s))))] [vI x] (st μ 38 0 0 0)))
                rw [show w32 (4 * (k : Int)) = 4 * (k : Int) from w32_id (by simp only [in32]; omega)]
                rw [show w32 ((4 * (k : Int)) + s) = (4 * (k : Int)) + s from w32_id (by simp only [in32]; omega)]
                refine ⟨by omega, ?_⟩
                have jn93 : Run fam0 none cd_X5_stockOf ER ET 107 0 [some (vR 38 0), some (vI s), some (vI w), some (vI x), some (vI (k : Int)), some (vI (μ 42 0 ((4 * (k : Int)) + s)))] [vI (if w = 1 ∧ 0 < μ 42 0 (4 * (k : Int) + s) then μ 42 0 (4 * (k : Int) + s) else 0), vI x] (st μ 38 0 0 0) := by
                  refine run_k 6 ?_
                  show (w ≠ 2 → Run fam0 none cd_X5_stockOf ER ET 125 0 [some (vR 38 0), some (vI s), some (vI w), some (vI (w32 (x + (if w = 1 ∧ 0 < μ 42 0 (4 * (k : Int) + s) then μ 42 0 (4 * (k : Int) + s) else 0)))), some (vI (k : Int)), some (vI (μ 42 0 ((4 * (k : Int)) + s)))] [vI (w32 (x + (if w = 1 ∧ 0 < μ 42 0 (4 * (k : Int) + s) then μ 42 0 (4 * (k : Int) + s) else 0)))] (st μ 38 0 0 0)) ∧ (w = 2 → Run fam0 none cd_X5_stockOf ER ET 115 0 [some (vR 38 0), some (vI s), some (vI w), some (vI (w32 (x + (if w = 1 ∧ 0 < μ 42 0 (4 * (k : Int) + s) then μ 42 0 (4 * (k : Int) + s) else 0)))), some (vI (k : Int)), some (vI (μ 42 0 ((4 * (k : Int)) + s)))] [vI (w32 (x + (if w = 1 ∧ 0 < μ 42 0 (4 * (k : Int) + s) then μ 42 0 (4 * (k : Int) + s) else 0)))] (st μ 38 0 0 0))
                  rw [show w32 (x + (if w = 1 ∧ 0 < μ 42 0 (4 * (k : Int) + s) then μ 42 0 (4 * (k : Int) + s) else 0)) = x + (if w = 1 ∧ 0 < μ 42 0 (4 * (k : Int) + s) then μ 42 0 (4 * (k : Int) + s) else 0) from w32_id (by simp only [in32]; omega)]
                  have jn112 : Run fam0 none cd_X5_stockOf ER ET 126 0 [some (vR 38 0), some (vI s), some (vI w), some (vI (x + (if w = 1 ∧ 0 < μ 42 0 (4 * (k : Int) + s) then μ 42 0 (4 * (k : Int) + s) else 0))), some (vI (k : Int)), some (vI (μ 42 0 ((4 * (k : Int)) + s)))] [vI (if w = 2 ∧ μ 42 0 (4 * (k : Int) + s) < 0 then μ 42 0 (4 * (k : Int) + s) else 0), vI (x + (if w = 1 ∧ 0 < μ 42 0 (4 * (k : Int) + s) then μ 42 0 (4 * (k : Int) + s) else 0))] (st μ 38 0 0 0) := by
                    refine run_k 6 ?_
                    show (w ≠ 3 → Run fam0 none cd_X5_stockOf ER ET 144 0 [some (vR 38 0), some (vI s), some (vI w), some (vI (w32 ((x + (if w = 1 ∧ 0 < μ 42 0 (4 * (k : Int) + s) then μ 42 0 (4 * (k : Int) + s) else 0)) - (if w = 2 ∧ μ 42 0 (4 * (k : Int) + s) < 0 then μ 42 0 (4 * (k : Int) + s) else 0)))), some (vI (k : Int)), some (vI (μ 42 0 ((4 * (k : Int)) + s)))] [vI (w32 ((x + (if w = 1 ∧ 0 < μ 42 0 (4 * (k : Int) + s) then μ 42 0 (4 * (k : Int) + s) else 0)) - (if w = 2 ∧ μ 42 0 (4 * (k : Int) + s) < 0 then μ 42 0 (4 * (k : Int) + s) else 0)))] (st μ 38 0 0 0)) ∧ (w = 3 → Run fam0 none cd_X5_stockOf ER ET 134 0 [some (vR 38 0), some (vI s), some (vI w), some (vI (w32 ((x + (if w = 1 ∧ 0 < μ 42 0 (4 * (k : Int) + s) then μ 42 0 (4 * (k : Int) + s) else 0)) - (if w = 2 ∧ μ 42 0 (4 * (k : Int) + s) < 0 then μ 42 0 (4 * (k : Int) + s) else 0)))), some (vI (k : Int)), some (vI (μ 42 0 ((4 * (k : Int)) + s)))] [vI (w32 ((x + (if w = 1 ∧ 0 < μ 42 0 (4 * (k : Int) + s) then μ 42 0 (4 * (k : Int) + s) else 0)) - (if w = 2 ∧ μ 42 0 (4 * (k : Int) + s) < 0 then μ 42 0 (4 * (k : Int) + s) else 0)))] (st μ 38 0 0 0))
                    rw [show w32 ((x + (if w = 1 ∧ 0 < μ 42 0 (4 * (k : Int) + s) then μ 42 0 (4 * (k : Int) + s) else 0)) - (if w = 2 ∧ μ 42 0 (4 * (k : Int) + s) < 0 then μ 42 0 (4 * (k : Int) + s) else 0)) = (x + (if w = 1 ∧ 0 < μ 42 0 (4 * (k : Int) + s) then μ 42 0 (4 * (k : Int) + s) else 0)) - (if w = 2 ∧ μ 42 0 (4 * (k : Int) + s) < 0 then μ 42 0 (4 * (k : Int) + s) else 0) from w32_id (by simp only [in32]; omega)]
                    have jn131 : Run fam0 none cd_X5_stockOf ER ET 145 0 [some (vR 38 0), some (vI s), some (vI w), some (vI ((x + (if w = 1 ∧ 0 < μ 42 0 (4 * (k : Int) + s) then μ 42 0 (4 * (k : Int) + s) else 0)) - (if w = 2 ∧ μ 42 0 (4 * (k : Int) + s) < 0 then μ 42 0 (4 * (k : Int) + s) else 0))), some (vI (k : Int)), some (vI (μ 42 0 ((4 * (k : Int)) + s)))] [vI (if w = 3 then partF (st μ 38 0 0 0) (k : Int) s else 0), vI ((x + (if w = 1 ∧ 0 < μ 42 0 (4 * (k : Int) + s) then μ 42 0 (4 * (k : Int) + s) else 0)) - (if w = 2 ∧ μ 42 0 (4 * (k : Int) + s) < 0 then μ 42 0 (4 * (k : Int) + s) else 0))] (st μ 38 0 0 0) := by
                      refine run_k 6 ?_
                      show (w ≠ 4 → Run fam0 none cd_X5_stockOf ER ET 163 0 [some (vR 38 0), some (vI s), some (vI w), some (vI (w32 (((x + (if w = 1 ∧ 0 < μ 42 0 (4 * (k : Int) + s) then μ 42 0 (4 * (k : Int) + s) else 0)) - (if w = 2 ∧ μ 42 0 (4 * (k : Int) + s) < 0 then μ 42 0 (4 * (k : Int) + s) else 0)) + (if w = 3 then partF (st μ 38 0 0 0) (k : Int) s else 0)))), some (vI (k : Int)), some (vI (μ 42 0 ((4 * (k : Int)) + s)))] [vI (w32 (((x + (if w = 1 ∧ 0 < μ 42 0 (4 * (k : Int) + s) then μ 42 0 (4 * (k : Int) + s) else 0)) - (if w = 2 ∧ μ 42 0 (4 * (k : Int) + s) < 0 then μ 42 0 (4 * (k : Int) + s) else 0)) + (if w = 3 then partF (st μ 38 0 0 0) (k : Int) s else 0)))] (st μ 38 0 0 0)) ∧ (w = 4 → Run fam0 none cd_X5_stockOf ER ET 153 0 [some (vR 38 0), some (vI s), some (vI w), some (vI (w32 (((x + (if w = 1 ∧ 0 < μ 42 0 (4 * (k : Int) + s) then μ 42 0 (4 * (k : Int) + s) else 0)) - (if w = 2 ∧ μ 42 0 (4 * (k : Int) + s) < 0 then μ 42 0 (4 * (k : Int) + s) else 0)) + (if w = 3 then partF (st μ 38 0 0 0) (k : Int) s else 0)))), some (vI (k : Int)), some (vI (μ 42 0 ((4 * (k : Int)) + s)))] [vI (w32 (((x + (if w = 1 ∧ 0 < μ 42 0 (4 * (k : Int) + s) then μ 42 0 (4 * (k : Int) + s) else 0)) - (if w = 2 ∧ μ 42 0 (4 * (k : Int) + s) < 0 then μ 42 0 (4 * (k : Int) + s) else 0)) + (if w = 3 then partF (st μ 38 0 0 0) (k : Int) s else 0)))] (st μ 38 0 0 0))
                      rw [show w32 (((x + (if w = 1 ∧ 0 < μ 42 0 (4 * (k : Int) + s) then μ 42 0 (4 * (k : Int) + s) else 0)) - (if w = 2 ∧ μ 42 0 (4 * (k : Int) + s) < 0 then μ 42 0 (4 * (k : Int) + s) else 0)) + (if w = 3 then partF (st μ 38 0 0 0) (k : Int) s else 0)) = ((x + (if w = 1 ∧ 0 < μ 42 0 (4 * (k : Int) + s) then μ 42 0 (4 * (k : Int) + s) else 0)) - (if w = 2 ∧ μ 42 0 (4 * (k : Int) + s) < 0 then μ 42 0 (4 * (k : Int) + s) else 0)) + (if w = 3 then partF (st μ 38 0 0 0) (k : Int) s else 0) from w32_id (by simp only [in32]; omega)]
                      have jn150 : Run fam0 none cd_X5_stockOf ER ET 164 0 [some (vR 38 0), some (vI s), some (vI w), some (vI (((x + (if w = 1 ∧ 0 < μ 42 0 (4 * (k : Int) + s) then μ 42 0 (4 * (k : Int) + s) else 0)) - (if w = 2 ∧ μ 42 0 (4 * (k : Int) + s) < 0 then μ 42 0 (4 * (k : Int) + s) else 0)) + (if w = 3 then partF (st μ 38 0 0 0) (k : Int) s else 0))), some (vI (k : Int)), some (vI (μ 42 0 ((4 * (k : Int)) + s)))] [vI (if w = 4 then lentF (st μ 38 0 0 0) (k : Int) s else 0), vI (((x + (if w = 1 ∧ 0 < μ 42 0 (4 * (k : Int) + s) then μ 42 0 (4 * (k : Int) + s) else 0)) - (if w = 2 ∧ μ 42 0 (4 * (k : Int) + s) < 0 then μ 42 0 (4 * (k : Int) + s) else 0)) + (if w = 3 then partF (st μ 38 0 0 0) (k : Int) s else 0))] (st μ 38 0 0 0) := by
                        refine run_k 4 ?_
                        show Run fam0 none cd_X5_stockOf ER ET 70 0 [some (vR 38 0), some (vI s), some (vI w), some (vI (w32 ((((x + (if w = 1 ∧ 0 < μ 42 0 (4 * (k : Int) + s) then μ 42 0 (4 * (k : Int) + s) else 0)) - (if w = 2 ∧ μ 42 0 (4 * (k : Int) + s) < 0 then μ 42 0 (4 * (k : Int) + s) else 0)) + (if w = 3 then partF (st μ 38 0 0 0) (k : Int) s else 0)) + (if w = 4 then lentF (st μ 38 0 0 0) (k : Int) s else 0)))), some (vI (w32 ((k : Int) + 1))), some (vI (μ 42 0 ((4 * (k : Int)) + s)))] [] (st μ 38 0 0 0)
                        rw [show w32 ((((x + (if w = 1 ∧ 0 < μ 42 0 (4 * (k : Int) + s) then μ 42 0 (4 * (k : Int) + s) else 0)) - (if w = 2 ∧ μ 42 0 (4 * (k : Int) + s) < 0 then μ 42 0 (4 * (k : Int) + s) else 0)) + (if w = 3 then partF (st μ 38 0 0 0) (k : Int) s else 0)) + (if w = 4 then lentF (st μ 38 0 0 0) (k : Int) s else 0)) = (((x + (if w = 1 ∧ 0 < μ 42 0 (4 * (k : Int) + s) then μ 42 0 (4 * (k : Int) + s) else 0)) - (if w = 2 ∧ μ 42 0 (4 * (k : Int) + s) < 0 then μ 42 0 (4 * (k : Int) + s) else 0)) + (if w = 3 then partF (st μ 38 0 0 0) (k : Int) s else 0)) + (if w = 4 then lentF (st μ 38 0 0 0) (k : Int) s else 0) from w32_id (by simp only [in32]; omega)]
                        rw [show w32 ((k : Int) + 1) = (k : Int) + 1 from w32_id (by simp only [in32]; omega)]
                        refine run_w (L' := [some (vR 38 0), some (vI s), some (vI w), some (vI ((((x + (if w = 1 ∧ 0 < μ 42 0 (4 * (k : Int) + s) then μ 42 0 (4 * (k : Int) + s) else 0)) - (if w = 2 ∧ μ 42 0 (4 * (k : Int) + s) < 0 then μ 42 0 (4 * (k : Int) + s) else 0)) + (if w = 3 then partF (st μ 38 0 0 0) (k : Int) s else 0)) + (if w = 4 then lentF (st μ 38 0 0 0) (k : Int) s else 0))), some (vI ((k : Int) + 1)), none]) ⟨rfl, rfl, rfl, rfl, rfl, True.intro⟩ ?_
                        exact ih70 (k + 1) ((((x + (if w = 1 ∧ 0 < μ 42 0 (4 * (k : Int) + s) then μ 42 0 (4 * (k : Int) + s) else 0)) - (if w = 2 ∧ μ 42 0 (4 * (k : Int) + s) < 0 then μ 42 0 (4 * (k : Int) + s) else 0)) + (if w = 3 then partF (st μ 38 0 0 0) (k : Int) s else 0)) + (if w = 4 then lentF (st μ 38 0 0 0) (k : Int) s else 0)) (by omega) (⟨by omega, by rw [hx2]; rfl⟩)
                      refine ⟨fun c24 => ?_, fun c24 => ?_⟩
                      · refine run_k 1 ?_
                        show Run fam0 none cd_X5_stockOf ER ET 164 0 [some (vR 38 0), some (vI s), some (vI w), some (vI (((x + (if w = 1 ∧ 0 < μ 42 0 (4 * (k : Int) + s) then μ 42 0 (4 * (k : Int) + s) else 0)) - (if w = 2 ∧ μ 42 0 (4 * (k : Int) + s) < 0 then μ 42 0 (4 * (k : Int) + s) else 0)) + (if w = 3 then partF (st μ 38 0 0 0) (k : Int) s else 0))), some (vI (k : Int)), some (vI (μ 42 0 ((4 * (k : Int)) + s)))] [vI 0, vI (((x + (if w = 1 ∧ 0 < μ 42 0 (4 * (k : Int) + s) then μ 42 0 (4 * (k : Int) + s) else 0)) - (if w = 2 ∧ μ 42 0 (4 * (k : Int) + s) < 0 then μ 42 0 (4 * (k : Int) + s) else 0)) + (if w = 3 then partF (st μ 38 0 0 0) (k : Int) s else 0))] (st μ 38 0 0 0)
                        rw [show (if w = 4 then lentF (st μ 38 0 0 0) (k : Int) s else 0) = 0 from by first | rw [if_pos (by omega)] | rw [if_neg (by omega)]] at jn150
                        exact jn150
                      · refine run_k 4 ?_
                        show ∃ σ : Mm, cl_X5_lentFrom.2.2.1 σ [vR 38 0, vI (k : Int), vI s] (st μ 38 0 0 0) ∧ (∀ ov μ', cl_X5_lentFrom.2.2.2.1 σ [vR 38 0, vI (k : Int), vI s] (st μ 38 0 0 0) ov μ' → Run fam0 none cd_X5_stockOf ER ET 160 0 [some (vR 38 0), some (vI s), some (vI w), some (vI (((x + (if w = 1 ∧ 0 < μ 42 0 (4 * (k : Int) + s) then μ 42 0 (4 * (k : Int) + s) else 0)) - (if w = 2 ∧ μ 42 0 (4 * (k : Int) + s) < 0 then μ 42 0 (4 * (k : Int) + s) else 0)) + (if w = 3 then partF (st μ 38 0 0 0) (k : Int) s else 0))), some (vI (k : Int)), some (vI (μ 42 0 ((4 * (k : Int)) + s)))] (ov.toList ++ [vI (((x + (if w = 1 ∧ 0 < μ 42 0 (4 * (k : Int) + s) then μ 42 0 (4 * (k : Int) + s) else 0)) - (if w = 2 ∧ μ 42 0 (4 * (k : Int) + s) < 0 then μ 42 0 (4 * (k : Int) + s) else 0)) + (if w = 3 then partF (st μ 38 0 0 0) (k : Int) s else 0))]) μ') ∧ ∀ kx, cl_X5_lentFrom.2.2.2.2 σ [vR 38 0, vI (k : Int), vI s] (st μ 38 0 0 0) kx → thr cd_X5_stockOf ET (Run fam0 none cd_X5_stockOf ER ET) 157 0 [some (vR 38 0), some (vI s), some (vI w), some (vI (((x + (if w = 1 ∧ 0 < μ 42 0 (4 * (k : Int) + s) then μ 42 0 (4 * (k : Int) + s) else 0)) - (if w = 2 ∧ μ 42 0 (4 * (k : Int) + s) < 0 then μ 42 0 (4 * (k : Int) + s) else 0)) + (if w = 3 then partF (st μ 38 0 0 0) (k : Int) s else 0))), some (vI (k : Int)), some (vI (μ 42 0 ((4 * (k : Int)) + s)))] (st μ 38 0 0 0) kx
                        refine ⟨μ, ⟨rfl, show Lk (st μ 38 0 0 0) from (by assumption)⟩, fun ov μ' hq => ?_, fun k hk => hk.elim⟩
                        obtain ⟨hov, hmu⟩ : ov = some (vI (lentF (st μ 38 0 0 0) (k : Int) s)) ∧ μ' = st μ 38 0 0 0 := hq
                        rw [hov, hmu]
                        show Run fam0 none cd_X5_stockOf ER ET 160 0 [some (vR 38 0), some (vI s), some (vI w), some (vI (((x + (if w = 1 ∧ 0 < μ 42 0 (4 * (k : Int) + s) then μ 42 0 (4 * (k : Int) + s) else 0)) - (if w = 2 ∧ μ 42 0 (4 * (k : Int) + s) < 0 then μ 42 0 (4 * (k : Int) + s) else 0)) + (if w = 3 then partF (st μ 38 0 0 0) (k : Int) s else 0))), some (vI (k : Int)), some (vI (μ 42 0 ((4 * (k : Int)) + s)))] [vI (lentF (st μ 38 0 0 0) (k : Int) s), vI (((x + (if w = 1 ∧ 0 < μ 42 0 (4 * (k : Int) + s) then μ 42 0 (4 * (k : Int) + s) else 0)) - (if w = 2 ∧ μ 42 0 (4 * (k : Int) + s) < 0 then μ 42 0 (4 * (k : Int) + s) else 0)) + (if w = 3 then partF (st μ 38 0 0 0) (k : Int) s else 0))] (st μ 38 0 0 0)
                        refine run_k 1 ?_
                        show Run fam0 none cd_X5_stockOf ER ET 164 0 [some (vR 38 0), some (vI s), some (vI w), some (vI (((x + (if w = 1 ∧ 0 < μ 42 0 (4 * (k : Int) + s) then μ 42 0 (4 * (k : Int) + s) else 0)) - (if w = 2 ∧ μ 42 0 (4 * (k : Int) + s) < 0 then μ 42 0 (4 * (k : Int) + s) else 0)) + (if w = 3 then partF (st μ 38 0 0 0) (k : Int) s else 0))), some (vI (k : Int)), some (vI (μ 42 0 ((4 * (k : Int)) + s)))] [vI (lentF (st μ 38 0 0 0) (k : Int) s), vI (((x + (if w = 1 ∧ 0 < μ 42 0 (4 * (k : Int) + s) then μ 42 0 (4 * (k : Int) + s) else 0)) - (if w = 2 ∧ μ 42 0 (4 * (k : Int) + s) < 0 then μ 42 0 (4 * (k : Int) + s) else 0)) + (if w = 3 then partF (st μ 38 0 0 0) (k : Int) s else 0))] (st μ 38 0 0 0)
                        rw [show (if w = 4 then lentF (st μ 38 0 0 0) (k : Int) s else 0) = (lentF (st μ 38 0 0 0) (k : Int) s) from by first | rw [if_pos (by omega)] | rw [if_neg (by omega)]] at jn150
                        exact jn150
                    refine ⟨fun c23 => ?_, fun c23 => ?_⟩
                    · refine run_k 1 ?_
                      show Run fam0 none cd_X5_stockOf ER ET 145 0 [some (vR 38 0), some (vI s), some (vI w), some (vI ((x + (if w = 1 ∧ 0 < μ 42 0 (4 * (k : Int) + s) then μ 42 0 (4 * (k : Int) + s) else 0)) - (if w = 2 ∧ μ 42 0 (4 * (k : Int) + s) < 0 then μ 42 0 (4 * (k : Int) + s) else 0))), some (vI (k : Int)), some (vI (μ 42 0 ((4 * (k : Int)) + s)))] [vI 0, vI ((x + (if w = 1 ∧ 0 < μ 42 0 (4 * (k : Int) + s) then μ 42 0 (4 * (k : Int) + s) else 0)) - (if w = 2 ∧ μ 42 0 (4 * (k : Int) + s) < 0 then μ 42 0 (4 * (k : Int) + s) else 0))] (st μ 38 0 0 0)
                      rw [show (if w = 3 then partF (st μ 38 0 0 0) (k : Int) s else 0) = 0 from by first | rw [if_pos (by omega)] | rw [if_neg (by omega)]] at jn131
                      exact jn131
                    · refine run_k 4 ?_
                      show ∃ σ : Mm, cl_X5_partOf.2.2.1 σ [vR 38 0, vI (k : Int), vI s] (st μ 38 0 0 0) ∧ (∀ ov μ', cl_X5_partOf.2.2.2.1 σ [vR 38 0, vI (k : Int), vI s] (st μ 38 0 0 0) ov μ' → Run fam0 none cd_X5_stockOf ER ET 141 0 [some (vR 38 0), some (vI s), some (vI w), some (vI ((x + (if w = 1 ∧ 0 < μ 42 0 (4 * (k : Int) + s) then μ 42 0 (4 * (k : Int) + s) else 0)) - (if w = 2 ∧ μ 42 0 (4 * (k : Int) + s) < 0 then μ 42 0 (4 * (k : Int) + s) else 0))), some (vI (k : Int)), some (vI (μ 42 0 ((4 * (k : Int)) + s)))] (ov.toList ++ [vI ((x + (if w = 1 ∧ 0 < μ 42 0 (4 * (k : Int) + s) then μ 42 0 (4 * (k : Int) + s) else 0)) - (if w = 2 ∧ μ 42 0 (4 * (k : Int) + s) < 0 then μ 42 0 (4 * (k : Int) + s) else 0))]) μ') ∧ ∀ kx, cl_X5_partOf.2.2.2.2 σ [vR 38 0, vI (k : Int), vI s] (st μ 38 0 0 0) kx → thr cd_X5_stockOf ET (Run fam0 none cd_X5_stockOf ER ET) 138 0 [some (vR 38 0), some (vI s), some (vI w), some (vI ((x + (if w = 1 ∧ 0 < μ 42 0 (4 * (k : Int) + s) then μ 42 0 (4 * (k : Int) + s) else 0)) - (if w = 2 ∧ μ 42 0 (4 * (k : Int) + s) < 0 then μ 42 0 (4 * (k : Int) + s) else 0))), some (vI (k : Int)), some (vI (μ 42 0 ((4 * (k : Int)) + s)))] (st μ 38 0 0 0) kx
                      refine ⟨μ, ⟨rfl, show Lk (st μ 38 0 0 0) ∧ Pk (st μ 38 0 0 0) ∧ (0 ≤ ((k : Int)) ∧ ((k : Int)) ≤ 5) ∧ (0 ≤ s ∧ s ≤ 3) from ⟨(by assumption), (by assumption), by omega, by omega⟩⟩, fun ov μ' hq => ?_, fun k hk => hk.elim⟩
                      obtain ⟨hov, hmu⟩ : ov = some (vI (partF (st μ 38 0 0 0) (k : Int) s)) ∧ μ' = st μ 38 0 0 0 := hq
                      rw [hov, hmu]
                      show Run fam0 none cd_X5_stockOf ER ET 141 0 [some (vR 38 0), some (vI s), some (vI w), some (vI ((x + (if w = 1 ∧ 0 < μ 42 0 (4 * (k : Int) + s) then μ 42 0 (4 * (k : Int) + s) else 0)) - (if w = 2 ∧ μ 42 0 (4 * (k : Int) + s) < 0 then μ 42 0 (4 * (k : Int) + s) else 0))), some (vI (k : Int)), some (vI (μ 42 0 ((4 * (k : Int)) + s)))] [vI (partF (st μ 38 0 0 0) (k : Int) s), vI ((x + (if w = 1 ∧ 0 < μ 42 0 (4 * (k : Int) + s) then μ 42 0 (4 * (k : Int) + s) else 0)) - (if w = 2 ∧ μ 42 0 (4 * (k : Int) + s) < 0 then μ 42 0 (4 * (k : Int) + s) else 0))] (st μ 38 0 0 0)
                      refine run_k 1 ?_
                      show Run fam0 none cd_X5_stockOf ER ET 145 0 [some (vR 38 0), some (vI s), some (vI w), some (vI ((x + (if w = 1 ∧ 0 < μ 42 0 (4 * (k : Int) + s) then μ 42 0 (4 * (k : Int) + s) else 0)) - (if w = 2 ∧ μ 42 0 (4 * (k : Int) + s) < 0 then μ 42 0 (4 * (k : Int) + s) else 0))), some (vI (k : Int)), some (vI (μ 42 0 ((4 * (k : Int)) + s)))] [vI (partF (st μ 38 0 0 0) (k : Int) s), vI ((x + (if w = 1 ∧ 0 < μ 42 0 (4 * (k : Int) + s) then μ 42 0 (4 * (k : Int) + s) else 0)) - (if w = 2 ∧ μ 42 0 (4 * (k : Int) + s) < 0 then μ 42 0 (4 * (k : Int) + s) else 0))] (st μ 38 0 0 0)
                      rw [show (if w = 3 then partF (st μ 38 0 0 0) (k : Int) s else 0) = (partF (st μ 38 0 0 0) (k : Int) s) from by first | rw [if_pos (by omega)] | rw [if_neg (by omega)]] at jn131
                      exact jn131
                  refine ⟨fun c22 => ?_, fun c22 => ?_⟩
                  · refine run_k 1 ?_
                    show Run fam0 none cd_X5_stockOf ER ET 126 0 [some (vR 38 0), some (vI s), some (vI w), some (vI (x + (if w = 1 ∧ 0 < μ 42 0 (4 * (k : Int) + s) then μ 42 0 (4 * (k : Int) + s) else 0))), some (vI (k : Int)), some (vI (μ 42 0 ((4 * (k : Int)) + s)))] [vI 0, vI (x + (if w = 1 ∧ 0 < μ 42 0 (4 * (k : Int) + s) then μ 42 0 (4 * (k : Int) + s) else 0))] (st μ 38 0 0 0)
                    rw [show (if w = 2 ∧ μ 42 0 (4 * (k : Int) + s) < 0 then μ 42 0 (4 * (k : Int) + s) else 0) = 0 from by first | rw [if_pos (by omega)] | rw [if_neg (by omega)]] at jn112
                    exact jn112
                  · refine run_k 2 ?_
                    show (0 ≤ (μ 42 0 ((4 * (k : Int)) + s)) → Run fam0 none cd_X5_stockOf ER ET 125 0 [some (vR 38 0), some (vI s), some (vI w), some (vI (x + (if w = 1 ∧ 0 < μ 42 0 (4 * (k : Int) + s) then μ 42 0 (4 * (k : Int) + s) else 0))), some (vI (k : Int)), some (vI (μ 42 0 ((4 * (k : Int)) + s)))] [vI (x + (if w = 1 ∧ 0 < μ 42 0 (4 * (k : Int) + s) then μ 42 0 (4 * (k : Int) + s) else 0))] (st μ 38 0 0 0)) ∧ ((μ 42 0 ((4 * (k : Int)) + s)) < 0 → Run fam0 none cd_X5_stockOf ER ET 120 0 [some (vR 38 0), some (vI s), some (vI w), some (vI (x + (if w = 1 ∧ 0 < μ 42 0 (4 * (k : Int) + s) then μ 42 0 (4 * (k : Int) + s) else 0))), some (vI (k : Int)), some (vI (μ 42 0 ((4 * (k : Int)) + s)))] [vI (x + (if w = 1 ∧ 0 < μ 42 0 (4 * (k : Int) + s) then μ 42 0 (4 * (k : Int) + s) else 0))] (st μ 38 0 0 0))
                    refine ⟨fun c33 => ?_, fun c33 => ?_⟩
                    · refine run_k 1 ?_
                      show Run fam0 none cd_X5_stockOf ER ET 126 0 [some (vR 38 0), some (vI s), some (vI w), some (vI (x + (if w = 1 ∧ 0 < μ 42 0 (4 * (k : Int) + s) then μ 42 0 (4 * (k : Int) + s) else 0))), some (vI (k : Int)), some (vI (μ 42 0 ((4 * (k : Int)) + s)))] [vI 0, vI (x + (if w = 1 ∧ 0 < μ 42 0 (4 * (k : Int) + s) then μ 42 0 (4 * (k : Int) + s) else 0))] (st μ 38 0 0 0)
                      rw [show (if w = 2 ∧ μ 42 0 (4 * (k : Int) + s) < 0 then μ 42 0 (4 * (k : Int) + s) else 0) = 0 from by first | rw [if_pos (by omega)] | rw [if_neg (by omega)]] at jn112
                      exact jn112
                    · refine run_k 2 ?_
                      show Run fam0 none cd_X5_stockOf ER ET 126 0 [some (vR 38 0), some (vI s), some (vI w), some (vI (x + (if w = 1 ∧ 0 < μ 42 0 (4 * (k : Int) + s) then μ 42 0 (4 * (k : Int) + s) else 0))), some (vI (k : Int)), some (vI (μ 42 0 ((4 * (k : Int)) + s)))] [vI (μ 42 0 ((4 * (k : Int)) + s)), vI (x + (if w = 1 ∧ 0 < μ 42 0 (4 * (k : Int) + s) then μ 42 0 (4 * (k : Int) + s) else 0))] (st μ 38 0 0 0)
                      rw [show (if w = 2 ∧ μ 42 0 (4 * (k : Int) + s) < 0 then μ 42 0 (4 * (k : Int) + s) else 0) = (μ 42 0 ((4 * (k : Int)) + s)) from by first | rw [if_pos (by omega)] | rw [if_neg (by omega)]] at jn112
                      exact jn112
                refine ⟨fun c21 => ?_, fun c21 => ?_⟩
                · refine run_k 1 ?_
                  show Run fam0 none cd_X5_stockOf ER ET 107 0 [some (vR 38 0), some (vI s), some (vI w), some (vI x), some (vI (k : Int)), some (vI (μ 42 0 ((4 * (k : Int)) + s)))] [vI 0, vI x] (st μ 38 0 0 0)
                  rw [show (if w = 1 ∧ 0 < μ 42 0 (4 * (k : Int) + s) then μ 42 0 (4 * (k : Int) + s) else 0) = 0 from by first | rw [if_pos (by omega)] | rw [if_neg (by omega)]] at jn93
                  exact jn93
                · refine run_k 2 ?_
                  show ((μ 42 0 ((4 * (k : Int)) + s)) ≤ 0 → Run fam0 none cd_X5_stockOf ER ET 106 0 [some (vR 38 0), some (vI s), some (vI w), some (vI x), some (vI (k : Int)), some (vI (μ 42 0 ((4 * (k : Int)) + s)))] [vI x] (st μ 38 0 0 0)) ∧ (0 < (μ 42 0 ((4 * (k : Int)) + s)) → Run fam0 none cd_X5_stockOf ER ET 101 0 [some (vR 38 0), some (vI s), some (vI w), some (vI x), some (vI (k : Int)), some (vI (μ 42 0 ((4 * (k : Int)) + s)))] [vI x] (st μ 38 0 0 0))
                  refine ⟨fun c37 => ?_, fun c37 => ?_⟩
                  · refine run_k 1 ?_
                    show Run fam0 none cd_X5_stockOf ER ET 107 0 [some (vR 38 0), some (vI s), some (vI w), some (vI x), some (vI (k : Int)), some (vI (μ 42 0 ((4 * (k : Int)) + s)))] [vI 0, vI x] (st μ 38 0 0 0)
                    rw [show (if w = 1 ∧ 0 < μ 42 0 (4 * (k : Int) + s) then μ 42 0 (4 * (k : Int) + s) else 0) = 0 from by first | rw [if_pos (by omega)] | rw [if_neg (by omega)]] at jn93
                    exact jn93
                  · refine run_k 2 ?_
                    show Run fam0 none cd_X5_stockOf ER ET 107 0 [some (vR 38 0), some (vI s), some (vI w), some (vI x), some (vI (k : Int)), some (vI (μ 42 0 ((4 * (k : Int)) + s)))] [vI (μ 42 0 ((4 * (k : Int)) + s)), vI x] (st μ 38 0 0 0)
                    rw [show (if w = 1 ∧ 0 < μ 42 0 (4 * (k : Int) + s) then μ 42 0 (4 * (k : Int) + s) else 0) = (μ 42 0 ((4 * (k : Int)) + s)) from by first | rw [if_pos (by omega)] | rw [if_neg (by omega)]] at jn93
                    exact jn93
          exact lp70 _ 0 0 (Nat.lt_succ_self _) (⟨by omega, rfl⟩)
        · refine run_k 2 ?_
          show (w ≠ 0 → Run fam0 none cd_X5_stockOf ER ET 58 0 [some (vR 38 0), some (vI s), some (vI w), none, none, none] [] (st μ 38 0 0 0)) ∧ (w = 0 → Run fam0 none cd_X5_stockOf ER ET 49 0 [some (vR 38 0), some (vI s), some (vI w), none, none, none] [] (st μ 38 0 0 0))
          refine ⟨fun c40 => ?_, fun c40 => absurd c40 (by omega)⟩
          refine run_k 5 ?_
          show (0 ≤ s ∧ s < 4) ∧ (ER (some (vI (μ 40 0 s))) (st μ 38 0 0 0))
          refine ⟨by omega, ?_⟩
          refine hER _ _ ⟨fun h => ?_, fun h => ?_, fun h => ?_⟩ <;> first | (exfalso; omega) | exact ⟨by (first | rw [if_pos (by omega)] | (rw [if_neg (by omega)]; first | rw [if_pos (by omega)] | rw [if_neg (by omega)])) <;> rw [hx2, show j = 4 by omega], rfl⟩ | exact ⟨rfl, rfl⟩
    · replace c4 := (bi_e0.mp c4)
      refine run_k 3 ?_
      show ∃ σ : Mm, cl_X5_refused.2.2.1 σ [vR 38 0, vI 2] μ ∧ (∀ ov μ', cl_X5_refused.2.2.2.1 σ [vR 38 0, vI 2] μ ov μ' → Run fam0 none cd_X5_stockOf ER ET 30 0 [some (vR 38 0), some (vI s), some (vI w), none, none, none] (ov.toList ++ []) μ') ∧ ∀ kx, cl_X5_refused.2.2.2.2 σ [vR 38 0, vI 2] μ kx → thr cd_X5_stockOf ET (Run fam0 none cd_X5_stockOf ER ET) 27 0 [some (vR 38 0), some (vI s), some (vI w), none, none, none] μ kx
      refine ⟨μ, ⟨rfl, show True from True.intro⟩, fun ov μ' hq => ?_, fun k hk => hk.elim⟩
      obtain ⟨hov, hmu⟩ : ov = some (vI 1) ∧ μ' = st μ 38 0 0 2 := hq
      rw [hov, hmu]
      show Run fam0 none cd_X5_stockOf ER ET 30 0 [some (vR 38 0), some (vI s), some (vI w), none, none, none] [vI 1] (st μ 38 0 0 2)
      refine run_k 1 ?_
      show (1 = 0 → Run fam0 none cd_X5_stockOf ER ET 35 0 [some (vR 38 0), some (vI s), some (vI w), none, none, none] [] (st μ 38 0 0 2)) ∧ (1 ≠ 0 → Run fam0 none cd_X5_stockOf ER ET 33 0 [some (vR 38 0), some (vI s), some (vI w), none, none, none] [] (st μ 38 0 0 2))
      refine ⟨fun c43 => absurd c43 (by decide), fun c43 => ?_⟩
      refine run_k 2 ?_
      show ER (some (vI 0)) (st μ 38 0 0 2)
      refine hER _ _ ⟨fun h => ?_, fun h => ?_, fun h => ?_⟩ <;> first | (exfalso; omega) | exact ⟨by (first | rw [if_pos (by omega)] | (rw [if_neg (by omega)]; first | rw [if_pos (by omega)] | rw [if_neg (by omega)])) <;> rw [hx2, show j = 4 by omega], rfl⟩ | exact ⟨rfl, rfl⟩
  · replace c2 := (bi_e0.mp c2)
    refine run_k 3 ?_
    show ∃ σ : Mm, cl_X5_refused.2.2.1 σ [vR 38 0, vI 1] μ ∧ (∀ ov μ', cl_X5_refused.2.2.2.1 σ [vR 38 0, vI 1] μ ov μ' → Run fam0 none cd_X5_stockOf ER ET 30 0 [some (vR 38 0), some (vI s), some (vI w), none, none, none] (ov.toList ++ []) μ') ∧ ∀ kx, cl_X5_refused.2.2.2.2 σ [vR 38 0, vI 1] μ kx → thr cd_X5_stockOf ET (Run fam0 none cd_X5_stockOf ER ET) 27 0 [some (vR 38 0), some (vI s), some (vI w), none, none, none] μ kx
    refine ⟨μ, ⟨rfl, show True from True.intro⟩, fun ov μ' hq => ?_, fun k hk => hk.elim⟩
    obtain ⟨hov, hmu⟩ : ov = some (vI 1) ∧ μ' = st μ 38 0 0 1 := hq
    rw [hov, hmu]
    show Run fam0 none cd_X5_stockOf ER ET 30 0 [some (vR 38 0), some (vI s), some (vI w), none, none, none] [vI 1] (st μ 38 0 0 1)
    refine run_k 1 ?_
    show (1 = 0 → Run fam0 none cd_X5_stockOf ER ET 35 0 [some (vR 38 0), some (vI s), some (vI w), none, none, none] [] (st μ 38 0 0 1)) ∧ (1 ≠ 0 → Run fam0 none cd_X5_stockOf ER ET 33 0 [some (vR 38 0), some (vI s), some (vI w), none, none, none] [] (st μ 38 0 0 1))
    refine ⟨fun c46 => absurd c46 (by decide), fun c46 => ?_⟩
    refine run_k 2 ?_
    show ER (some (vI 0)) (st μ 38 0 0 1)
    refine hER _ _ ⟨fun h => ?_, fun h => ?_, fun h => ?_⟩ <;> first | (exfalso; omega) | exact ⟨by (first | rw [if_pos (by omega)] | (rw [if_neg (by omega)]; first | rw [if_pos (by omega)] | rw [if_neg (by omega)])) <;> rw [hx2, show j = 4 by omega], rfl⟩ | exact ⟨rfl, rfl⟩
set_option maxRecDepth 20000 in
theorem con_X5_stockOf (l : Launch) (htr : l.stackTraces = false) (σ : Mm) : CON fam0 63 l yX5_stockOf (Cond.code yX5_stockOf cX5_stockOf 6 (some .int) :: wm) 2 47 0 (cl_X5_stockOf.2.2.1 σ) (cl_X5_stockOf.2.2.2.1 σ) (cl_X5_stockOf.2.2.2.2 σ) :=
  con_of (cd := cd_X5_stockOf) (own := RX5) (rk := 1) (sc_of htr (by decide) k_X5_stockOf_ok (by decide +kernel) co_X5_ok fl_X5_ok (all_cons ⟨RX5, yX5_refused, cX5_refused, 2, (some .boolean), 0, 0, 1, con_X5_refused l htr, rfl, vw_X5_127, ⟨rfl, by decide, by decide, by decide +kernel⟩, ⟨by decide, by decide⟩, fun σ as μ h => ⟨38, 0, _, h.1, rfl, TX5, 31, rfl⟩⟩ (all_cons ⟨RX5, yX5_partOf, cX5_partOf, 4, (some .int), 1, 24, 2, con_X5_partOf l htr, rfl, vw_X5_96, ⟨rfl, by decide, by decide, by decide +kernel⟩, ⟨by decide, by decide⟩, fun σ as μ h => ⟨38, 0, _, h.1, rfl, TX5, 31, rfl⟩⟩ (all_cons ⟨RX5, yX5_lentFrom, cX5_lentFrom, 5, (some .int), 0, 0, 2, con_X5_lentFrom l htr, rfl, vw_X5_92, ⟨rfl, by decide, by decide, by decide +kernel⟩, ⟨by decide, by decide⟩, fun σ as μ h => ⟨38, 0, _, h.1, rfl, TX5, 31, rfl⟩⟩ all_nil))) (all_cons ⟨yX5_isStock, cX5_isStock, 1, (some .boolean), 1, 22, con_X5_isStock l htr, vw_X5_122, ⟨by decide, by decide, by decide +kernel⟩, ⟨by decide, by decide⟩⟩ (all_cons ⟨yX5_in, cX5_in, 3, (some .boolean), 0, 0, con_X5_in l htr, vw_X5_85, ⟨by decide, by decide, by decide +kernel⟩, ⟨by decide, by decide⟩⟩ all_nil)) all_nil) rfl (by decide +kernel) rfl rfl rfl rfl (fun as μ hs => by rw [hs.1]; exact Nat.le_of_ble_eq_true rfl)
    (fun as μ hs hM hrg => by
      have hs1 := hs.1
      have hmem : ∀ v, v ∈ ([vR 38 0, vI (iaI as 1), vI (iaI as 2)] : List AV) → rg fam0 v := by rw [← hs1]; exact hrg
      have key := run_X5_stockOf (ER := cl_X5_stockOf.2.2.2.1 σ as μ) (ET := fun k μ' => cl_X5_stockOf.2.2.2.2 σ as μ k ∧ μ' = μ) σ μ (iaI as 1) (iaI as 2) hM (hmem (vI (iaI as 1)) (by simp)) (hmem (vI (iaI as 2)) (by simp)) hs.2 (fun ov μ' h => h)
      have e : entL as 6 = [some (vR 38 0), some (vI (iaI as 1)), some (vI (iaI as 2)), none, none, none] := by rw [hs1]; rfl
      rw [e]; exact key)
