/-! ===== a day of the reference ===== -/
theorem st_u {μ : Mm} {f g : Nat} {r t i j v : Int} (h : ¬ (g = f ∧ j = i)) : st μ f r i v g t j = μ g t j := by
  unfold st
  rw [if_neg]
  exact fun q => h ⟨q.1, q.2.2⟩
theorem mkLn_u (M : Mm) (s x b own : Int) {g : Nat} {t j : Int} (h : g ≠ 48 ∧ g ≠ 49 ∧ g ≠ 50 ∧ g ≠ 51 ∧ g ≠ 52 ∧ g ≠ 45) (h2 : ¬ (g = 38 ∧ j = 11)) : mkLn M s x b own g t j = M g t j := by
  have key : ∀ (m : Mm) (v : Int), st m 38 0 11 v g t j = m g t j := fun m v => st_u h2
  unfold mkLn
  simp only [key]
  split <;> simp [st, h]
theorem borL_u {g : Nat} {t j : Int} (h : g ≠ 48 ∧ g ≠ 49 ∧ g ≠ 50 ∧ g ≠ 51 ∧ g ≠ 52 ∧ g ≠ 45) (h2 : ¬ (g = 38 ∧ j = 11)) (b s w : Int) : ∀ (l : List Int) (M : Mm) (rest : Int), (borL b s w l M rest).1 g t j = M g t j
  | [], _, _ => rfl
  | x :: l, M, rest => by
    rw [borL]
    split
    · split
      · rw [borL_u h h2 b s w l, mkLn_u _ _ _ _ _ h h2]
      · exact borL_u h h2 b s w l M rest
    · rfl
theorem cbL_u {g : Nat} {t j : Int} (h : g ≠ 48 ∧ g ≠ 49 ∧ g ≠ 50 ∧ g ≠ 51 ∧ g ≠ 52 ∧ g ≠ 45) (h1 : g ≠ 42 ∧ g ≠ 41) (h2 : ¬ (g = 38 ∧ (j = 11 ∨ j = 28))) (src s : Int) : ∀ (k : Nat) (M : Mm) (rest : Int), cbL src s k M rest g t j = M g t j
  | 0, _, _ => rfl
  | k + 1, M, rest => by
    rw [cbL]
    split
    · split
      · rw [cbL_u h h1 h2 src s k, cbS_o _ _ _ _ _ h1.1 h1.2 (fun q => h2 ⟨q.1, Or.inr q.2⟩)]
        unfold borF
        rw [borL_u h (fun q => h2 ⟨q.1, Or.inl q.2⟩), st_o h.2.2.2.1]
      · exact cbL_u h h1 h2 src s k M rest
    · rfl
theorem callF_u (M : Mm) (src s many : Int) {g : Nat} {t j : Int} (h : g ≠ 48 ∧ g ≠ 49 ∧ g ≠ 50 ∧ g ≠ 51 ∧ g ≠ 52 ∧ g ≠ 45) (h1 : g ≠ 42 ∧ g ≠ 41) (h2 : ¬ (g = 38 ∧ (j = 11 ∨ j = 28))) : callF M src s many g t j = M g t j := cbL_u h h1 h2 src s _ M many
def costF (m : Mm) (k : Int) : Int := w64 ((w64 (w64 (m 51 0 k * m 39 0 (m 48 0 k)) * m 52 0 k)).tdiv 3600000)
def chgF (μ : Mm) : Nat → Mm
  | 0 => μ
  | k + 1 => if 10 ≤ chgF μ k 49 0 k then st (st (chgF μ k) 41 0 (chgF μ k 50 0 k) (w64 (chgF μ k 41 0 (chgF μ k 50 0 k) - costF (chgF μ k) k))) 47 0 (chgF μ k 49 0 k - 10) (w64 (chgF μ k 47 0 (chgF μ k 49 0 k - 10) + costF (chgF μ k) k)) else chgF μ k
def dayF (μ : Mm) : Mm := st (chgF μ (μ 38 0 11).toNat) 38 0 1 (chgF μ (μ 38 0 11).toNat 38 0 1 + 1)
def wantF (m : Mm) (k : Int) : Int := if lentF m (10 + m 58 0 k) (m 59 0 k) < m 60 0 k then lentF m (10 + m 58 0 k) (m 59 0 k) else m 60 0 k
def meetF (m : Mm) (k : Int) : Mm := st (callF m (10 + m 58 0 k) (m 59 0 k) (wantF m k)) 38 0 30 (w32 (callF m (10 + m 58 0 k) (m 59 0 k) (wantF m k) 38 0 30 + 1))
def metF (μ : Mm) : Nat → Mm
  | 0 => dayF μ
  | k + 1 => if metF μ k 61 0 k = metF μ k 38 0 1 then meetF (metF μ k) k else metF μ k
def passF (μ : Mm) : Mm := metF μ (μ 38 0 23).toNat

/-! ### PrimeborrowModel.passes -/
def cl_X5_passes : Cl := (1, 0, fun σ as μ => as = [vR 38 0] ∧ (Wk μ ∧ Xk μ ∧ μ 38 0 1 ≤ 1000), fun σ as μ ov μ' => ov = none ∧ μ' = passF μ, fun σ as μ k => False)
def cd_X5_passes : Cd := mkcd k_X5_passes co_X5 fl_X5 [(92, cl_X5_lentFrom), (161, cl_X5_callBack)] [] [] [] 4 0 0
set_option maxHeartbeats 4000000 in
set_option maxRecDepth 20000 in
theorem run_X5_passes {ER : Option AV → Mm → Prop} {ET : Nat → Mm → Prop} (σ μ : Mm) (hM : MR fam0 μ)  (hP : Wk μ ∧ Xk μ ∧ μ 38 0 1 ≤ 1000) (hER : ∀ ov μ', (ov = none ∧ μ' = passF μ) → ER ov μ') : Run fam0 none cd_X5_passes ER ET 0 0 [some (vR 38 0), none, none, none] [] μ := by
  obtain ⟨hW, hX, hd⟩ := hP
  have hday := hX.1
  have hl0 := hW.1.1
  have hrec := hX.2.2.1.1
  refine run_k 2 ?_
  show Run fam0 none cd_X5_passes ER ET 2 0 [some (vR 38 0), some (vI 0), none, none] [] μ
  have lp2 : ∀ (fz : Nat) (k : Nat) (M : Mm), (μ 38 0 11 - (k : Int)).toNat < fz → ((k : Int) ≤ μ 38 0 11 ∧ M = chgF μ k ∧ Wk M ∧ (∀ (g : Nat) (t i : Int), g ≠ 41 → g ≠ 47 → M g t i = μ g t i)) → Run fam0 none cd_X5_passes ER ET 2 0 [some (vR 38 0), some (vI (k : Int)), none, none] [] M := by
    intro fz
    induction fz with
    | zero => intro k M hf; omega
    | succ fz ih2 =>
      intro k M hf hI
      obtain ⟨hk1, hM2, hWM, hfr⟩ := hI
      have hnM := hfr 38 0 11 (by decide) (by decide)
      refine run_k 4 ?_
      show ((M 38 0 11) ≤ (k : Int) → Run fam0 none cd_X5_passes ER ET 93 0 [some (vR 38 0), some (vI (k : Int)), none, none] [] M) ∧ ((k : Int) < (M 38 0 11) → Run fam0 none cd_X5_passes ER ET 10 0 [some (vR 38 0), some (vI (k : Int)), none, none] [] M)
      refine ⟨fun c2 => ?_, fun c2 => ?_⟩
      · have hM3 : M = chgF μ (μ 38 0 11).toNat := by rw [hM2, show k = (μ 38 0 11).toNat by omega]
        have hdM := hfr 38 0 1 (by decide) (by decide)
        refine run_k 8 ?_
        show Run fam0 none cd_X5_passes ER ET 105 0 [some (vR 38 0), some (vI 0), none, none] [] (st M 38 0 1 (w32 ((M 38 0 1) + 1)))
        rw [show w32 ((M 38 0 1) + 1) = (M 38 0 1) + 1 from w32_id (by simp only [in32]; omega)]
        have lp105 : ∀ (fz : Nat) (j : Nat) (N : Mm), (μ 38 0 23 - (j : Int)).toNat < fz → ((j : Int) ≤ μ 38 0 23 ∧ N = metF μ j ∧ Wk N ∧ (∀ (g : Nat) (t i : Int), (58 ≤ g ∧ g ≤ 61) → N g t i = μ g t i) ∧ N 38 0 23 = μ 38 0 23) → Run fam0 none cd_X5_passes ER ET 105 0 [some (vR 38 0), some (vI (j : Int)), none, none] [] N := by
          intro fz
          induction fz with
          | zero => intro j N hf; omega
          | succ fz ih105 =>
            intro j N hf hI
            obtain ⟨hj1, hN2, hWN, hf2, hf3⟩ := hI
            refine run_k 4 ?_
            show ((N 38 0 23) ≤ (j : Int) → Run fam0 none cd_X5_passes ER ET 201 0 [some (vR 38 0), some (vI (j : Int)), none, none] [] N) ∧ ((j : Int) < (N 38 0 23) → Run fam0 none cd_X5_passes ER ET 113 0 [some (vR 38 0), some (vI (j : Int)), none, none] [] N)
            refine ⟨fun c4 => ?_, fun c4 => ?_⟩
            · refine run_k 1 ?_
              show ER none N
              exact hER _ _ ⟨rfl, by rw [hN2, show j = (μ 38 0 23).toNat by omega]; rfl⟩
            · have hrk := hX.2.2.1.2 (j : Int) (by omega) (by omega)
              have e58 := hf2 58 0 (j : Int) (by decide)
              have e59 := hf2 59 0 (j : Int) (by decide)
              have e60 := hf2 60 0 (j : Int) (by decide)
              have e61 := hf2 61 0 (j : Int) (by decide)
              have hLkN := hWN.1
              refine run_k 7 ?_
              show (0 ≤ (j : Int) ∧ (j : Int) < 40) ∧ (((N 61 0 (j : Int)) ≠ (N 38 0 1) → Run fam0 none cd_X5_passes ER ET 195 0 [some (vR 38 0), some (vI (j : Int)), none, none] [] N) ∧ ((N 61 0 (j : Int)) = (N 38 0 1) → Run fam0 none cd_X5_passes ER ET 126 0 [some (vR 38 0), some (vI (j : Int)), none, none] [] N))
              refine ⟨by omega, ?_⟩
              refine ⟨fun c6 => ?_, fun c6 => ?_⟩
              · refine run_k 2 ?_
                show Run fam0 none cd_X5_passes ER ET 105 0 [some (vR 38 0), some (vI (w32 ((j : Int) + 1))), none, none] [] N
                rw [show w32 ((j : Int) + 1) = (j : Int) + 1 from w32_id (by simp only [in32]; omega)]
                exact ih105 (j + 1) N (by omega) (⟨by omega, by rw [metF, ← hN2, if_neg (by omega)], hWN, hf2, hf3⟩)
              · refine run_k 12 ?_
                show (0 ≤ (j : Int) ∧ (j : Int) < 40) ∧ ((0 ≤ (j : Int) ∧ (j : Int) < 40) ∧ (∃ σ : Mm, cl_X5_lentFrom.2.2.1 σ [vR 38 0, vI (w32 (10 + (N 58 0 (j : Int)))), vI (N 59 0 (j : Int))] N ∧ (∀ ov μ', cl_X5_lentFrom.2.2.2.1 σ [vR 38 0, vI (w32 (10 + (N 58 0 (j : Int)))), vI (N 59 0 (j : Int))] N ov μ' → Run fam0 none cd_X5_passes ER ET 145 0 [some (vR 38 0), some (vI (j : Int)), none, none] (ov.toList ++ []) μ') ∧ ∀ kx, cl_X5_lentFrom.2.2.2.2 σ [vR 38 0, vI (w32 (10 + (N 58 0 (j : Int)))), vI (N 59 0 (j : Int))] N kx → thr cd_X5_passes ET (Run fam0 none cd_X5_passes ER ET) 142 0 [some (vR 38 0), some (vI (j : Int)), none, none] N kx))
                rw [show w32 (10 + (N 58 0 (j : Int))) = 10 + (N 58 0 (j : Int)) from w32_id (by simp only [in32]; omega)]
                refine ⟨by omega, ?_⟩
                refine ⟨by omega, ?_⟩
                refine ⟨μ, ⟨rfl, show Lk N from (by assumption)⟩, fun ov μ' hq => ?_, fun k hk => hk.elim⟩
                obtain ⟨hov, hmu⟩ : ov = some (vI (lentF N (10 + (N 58 0 (j : Int))) (N 59 0 (j : Int)))) ∧ μ' = N := hq
                rw [hov, hmu]
                show Run fam0 none cd_X5_passes ER ET 145 0 [some (vR 38 0), some (vI (j : Int)), none, none] [vI (lentF N (10 + (N 58 0 (j : Int))) (N 59 0 (j : Int)))] N
                refine run_k 18 ?_
                show (0 ≤ (j : Int) ∧ (j : Int) < 40) ∧ ((0 ≤ (j : Int) ∧ (j : Int) < 40) ∧ ((0 ≤ (j : Int) ∧ (j : Int) < 40) ∧ (((N 60 0 (j : Int)) ≤ (lentF N (10 + (N 58 0 (j : Int))) (N 59 0 (j : Int))) → Run fam0 none cd_X5_passes ER ET 176 0 [some (vR 38 0), some (vI (j : Int)), some (vI (lentF N (10 + (N 58 0 (j : Int))) (N 59 0 (j : Int)))), none] [vI (N 59 0 (j : Int)), vI (w32 (10 + (N 58 0 (j : Int)))), vR 38 0] N) ∧ ((lentF N (10 + (N 58 0 (j : Int))) (N 59 0 (j : Int))) < (N 60 0 (j : Int)) → Run fam0 none cd_X5_passes ER ET 172 0 [some (vR 38 0), some (vI (j : Int)), some (vI (lentF N (10 + (N 58 0 (j : Int))) (N 59 0 (j : Int)))), none] [vI (N 59 0 (j : Int)), vI (w32 (10 + (N 58 0 (j : Int)))), vR 38 0] N))))
                rw [show w32 (10 + (N 58 0 (j : Int))) = 10 + (N 58 0 (j : Int)) from w32_id (by simp only [in32]; omega)]
                refine ⟨by omega, ?_⟩
                refine ⟨by omega, ?_⟩
                refine ⟨by omega, ?_⟩
                have jn169 : Run fam0 none cd_X5_passes ER ET 182 0 [some (vR 38 0), some (vI (j : Int)), some (vI (lentF N (10 + (N 58 0 (j : Int))) (N 59 0 (j : Int)))), none] [vI (if lentF N (10 + N 58 0 (j : Int)) (N 59 0 (j : Int)) < N 60 0 (j : Int) then lentF N (10 + N 58 0 (j : Int)) (N 59 0 (j : Int)) else N 60 0 (j : Int)), vI (N 59 0 (j : Int)), vI (10 + (N 58 0 (j : Int))), vR 38 0] N := by
                  have hln := lentF_rng hLkN (10 + N 58 0 (j : Int)) (N 59 0 (j : Int))
                  have hite : 0 ≤ (if lentF N (10 + N 58 0 (j : Int)) (N 59 0 (j : Int)) < N 60 0 (j : Int) then lentF N (10 + N 58 0 (j : Int)) (N 59 0 (j : Int)) else N 60 0 (j : Int)) ∧ (if lentF N (10 + N 58 0 (j : Int)) (N 59 0 (j : Int)) < N 60 0 (j : Int) then lentF N (10 + N 58 0 (j : Int)) (N 59 0 (j : Int)) else N 60 0 (j : Int)) ≤ lentF N (10 + N 58 0 (j : Int)) (N 59 0 (j : Int)) ∧ (if lentF N (10 + N 58 0 (j : Int)) (N 59 0 (j : Int)) < N 60 0 (j : Int) then lentF N (10 + N 58 0 (j : Int)) (N 59 0 (j : Int)) else N 60 0 (j : Int)) ≤ 500 := by split <;> omega
                  refine run_k 1 ?_
                  show ∃ σ : Mm, cl_X5_callBack.2.2.1 σ [vR 38 0, vI (10 + (N 58 0 (j : Int))), vI (N 59 0 (j : Int)), vI (if lentF N (10 + N 58 0 (j : Int)) (N 59 0 (j : Int)) < N 60 0 (j : Int) then lentF N (10 + N 58 0 (j : Int)) (N 59 0 (j : Int)) else N 60 0 (j : Int))] N ∧ (∀ ov μ', cl_X5_callBack.2.2.2.1 σ [vR 38 0, vI (10 + (N 58 0 (j : Int))), vI (N 59 0 (j : Int)), vI (if lentF N (10 + N 58 0 (j : Int)) (N 59 0 (j : Int)) < N 60 0 (j : Int) then lentF N (10 + N 58 0 (j : Int)) (N 59 0 (j : Int)) else N 60 0 (j : Int))] N ov μ' → Run fam0 none cd_X5_passes ER ET 185 0 [some (vR 38 0), some (vI (j : Int)), some (vI (lentF N (10 + (N 58 0 (j : Int))) (N 59 0 (j : Int)))), none] (ov.toList ++ []) μ') ∧ ∀ kx, cl_X5_callBack.2.2.2.2 σ [vR 38 0, vI (10 + (N 58 0 (j : Int))), vI (N 59 0 (j : Int)), vI (if lentF N (10 + N 58 0 (j : Int)) (N 59 0 (j : Int)) < N 60 0 (j : Int) then lentF N (10 + N 58 0 (j : Int)) (N 59 0 (j : Int)) else N 60 0 (j : Int))] N kx → thr cd_X5_passes ET (Run fam0 none cd_X5_passes ER ET) 182 0 [some (vR 38 0), some (vI (j : Int)), some (vI (lentF N (10 + (N 58 0 (j : Int))) (N 59 0 (j : Int)))), none] N kx
                  refine ⟨μ, ⟨rfl, show Wk N ∧ (0 ≤ (N 59 0 (j : Int)) ∧ (N 59 0 (j : Int)) ≤ 3) ∧ (0 ≤ ((if lentF N (10 + N 58 0 (j : Int)) (N 59 0 (j : Int)) < N 60 0 (j : Int) then lentF N (10 + N 58 0 (j : Int)) (N 59 0 (j : Int)) else N 60 0 (j : Int))) ∧ ((if lentF N (10 + N 58 0 (j : Int)) (N 59 0 (j : Int)) < N 60 0 (j : Int) then lentF N (10 + N 58 0 (j : Int)) (N 59 0 (j : Int)) else N 60 0 (j : Int))) ≤ 500) from ⟨(by assumption), by omega, by omega⟩⟩, fun ov μ' hq => ?_, fun k hk => hk.elim⟩
                  obtain ⟨hov, hmu⟩ : ov = none ∧ μ' = callF N (10 + (N 58 0 (j : Int))) (N 59 0 (j : Int)) (if lentF N (10 + N 58 0 (j : Int)) (N 59 0 (j : Int)) < N 60 0 (j : Int) then lentF N (10 + N 58 0 (j : Int)) (N 59 0 (j : Int)) else N 60 0 (j : Int)) := hq
                  rw [hov, hmu]
                  obtain ⟨hcW, hcl, hcp⟩ := callF_ok (src := (10 + (N 58 0 (j : Int)))) (s := (N 59 0 (j : Int))) (many := (if lentF N (10 + N 58 0 (j : Int)) (N 59 0 (j : Int)) < N 60 0 (j : Int) then lentF N (10 + N 58 0 (j : Int)) (N 59 0 (j : Int)) else N 60 0 (j : Int))) (M := N) (by omega) (by assumption) (by omega) (by omega)
                  have hcP := hcW.2.1 (4 * (10 + (N 58 0 (j : Int))) + (N 59 0 (j : Int)))
                  show Run fam0 none cd_X5_passes ER ET 185 0 [some (vR 38 0), some (vI (j : Int)), some (vI (lentF N (10 + (N 58 0 (j : Int))) (N 59 0 (j : Int)))), none] [] (callF N (10 + (N 58 0 (j : Int))) (N 59 0 (j : Int)) (if lentF N (10 + N 58 0 (j : Int)) (N 59 0 (j : Int)) < N 60 0 (j : Int) then lentF N (10 + N 58 0 (j : Int)) (N 59 0 (j : Int)) else N 60 0 (j : Int)))
                  refine run_k 8 ?_
                  show Run fam0 none cd_X5_passes ER ET 105 0 [some (vR 38 0), some (vI (w32 ((j : Int) + 1))), some (vI (lentF N (10 + (N 58 0 (j : Int))) (N 59 0 (j : Int)))), none] [] (st (callF N (10 + (N 58 0 (j : Int))) (N 59 0 (j : Int)) (if lentF N (10 + N 58 0 (j : Int)) (N 59 0 (j : Int)) < N 60 0 (j : Int) then lentF N (10 + N 58 0 (j : Int)) (N 59 0 (j : Int)) else N 60 0 (j : Int))) 38 0 30 (w32 (((callF N (10 + (N 58 0 (j : Int))) (N 59 0 (j : Int)) (if lentF N (10 + N 58 0 (j : Int)) (N 59 0 (j : Int)) < N 60 0 (j : Int) then lentF N (10 + N 58 0 (j : Int)) (N 59 0 (j : Int)) else N 60 0 (j : Int))) 38 0 30) + 1)))
                  rw [show w32 ((j : Int) + 1) = (j : Int) + 1 from w32_id (by simp only [in32]; omega)]
                  refine run_w (L' := [some (vR 38 0), some (vI ((j : Int) + 1)), none, none]) ⟨rfl, rfl, True.intro⟩ ?_
                  exact ih105 (j + 1) (st (callF N (10 + (N 58 0 (j : Int))) (N 59 0 (j : Int)) (if lentF N (10 + N 58 0 (j : Int)) (N 59 0 (j : Int)) < N 60 0 (j : Int) then lentF N (10 + N 58 0 (j : Int)) (N 59 0 (j : Int)) else N 60 0 (j : Int))) 38 0 30 (w32 (((callF N (10 + (N 58 0 (j : Int))) (N 59 0 (j : Int)) (if lentF N (10 + N 58 0 (j : Int)) (N 59 0 (j : Int)) < N 60 0 (j : Int) then lentF N (10 + N 58 0 (j : Int)) (N 59 0 (j : Int)) else N 60 0 (j : Int))) 38 0 30) + 1))) (by omega) (⟨by omega, by rw [metF, ← hN2, if_pos (show N 61 0 (j : Int) = N 38 0 1 by omega)]; rfl, Wk_st hcW (by decide), fun g t i q => by rw [st_u (by omega), callF_u _ _ _ _ (by omega) (by omega) (by omega)]; exact hf2 g t i q, by rw [st_u (by omega), callF_u _ _ _ _ (by decide) (by decide) (by decide)]; exact hf3⟩)
                refine ⟨fun c9 => ?_, fun c9 => ?_⟩
                · refine run_k 4 ?_
                  show (0 ≤ (j : Int) ∧ (j : Int) < 40) ∧ (Run fam0 none cd_X5_passes ER ET 182 0 [some (vR 38 0), some (vI (j : Int)), some (vI (lentF N (10 + (N 58 0 (j : Int))) (N 59 0 (j : Int)))), none] [vI (N 60 0 (j : Int)), vI (N 59 0 (j : Int)), vI (10 + (N 58 0 (j : Int))), vR 38 0] N)
                  refine ⟨by omega, ?_⟩
                  rw [show (if lentF N (10 + N 58 0 (j : Int)) (N 59 0 (j : Int)) < N 60 0 (j : Int) then lentF N (10 + N 58 0 (j : Int)) (N 59 0 (j : Int)) else N 60 0 (j : Int)) = (N 60 0 (j : Int)) from by first | rw [if_pos (by omega)] | rw [if_neg (by omega)]] at jn169
                  exact jn169
                · refine run_k 2 ?_
                  show Run fam0 none cd_X5_passes ER ET 182 0 [some (vR 38 0), some (vI (j : Int)), some (vI (lentF N (10 + (N 58 0 (j : Int))) (N 59 0 (j : Int)))), none] [vI (lentF N (10 + (N 58 0 (j : Int))) (N 59 0 (j : Int))), vI (N 59 0 (j : Int)), vI (10 + (N 58 0 (j : Int))), vR 38 0] N
                  rw [show (if lentF N (10 + N 58 0 (j : Int)) (N 59 0 (j : Int)) < N 60 0 (j : Int) then lentF N (10 + N 58 0 (j : Int)) (N 59 0 (j : Int)) else N 60 0 (j : Int)) = (lentF N (10 + (N 58 0 (j : Int))) (N 59 0 (j : Int))) from by first | rw [if_pos (by omega)] | rw [if_neg (by omega)]] at jn169
                  exact jn169
        exact lp105 _ 0 (st M 38 0 1 ((M 38 0 1) + 1)) (Nat.lt_succ_self _) (⟨by omega, by rw [hM3]; rfl, Wk_st hWM (by decide), fun g t i q => by rw [st_o (by omega)]; exact hfr g t i (by omega) (by omega), by rw [st_u (by decide)]; exact hfr 38 0 23 (by decide) (by decide)⟩)
      · have hlk := Lk_at hWM.1 (x := (k : Int)) (by omega) (by omega)
        refine run_k 6 ?_
        show (0 ≤ (k : Int) ∧ (k : Int) < 1000) ∧ (((M 49 0 (k : Int)) < 10 → Run fam0 none cd_X5_passes ER ET 87 0 [some (vR 38 0), some (vI (k : Int)), none, none] [] M) ∧ (10 ≤ (M 49 0 (k : Int)) → Run fam0 none cd_X5_passes ER ET 21 0 [some (vR 38 0), some (vI (k : Int)), none, none] [] M))
        refine ⟨by omega, ?_⟩
        refine ⟨fun c14 => ?_, fun c14 => ?_⟩
        · refine run_k 2 ?_
          show Run fam0 none cd_X5_passes ER ET 2 0 [some (vR 38 0), some (vI (w32 ((k : Int) + 1))), none, none] [] M
          rw [show w32 ((k : Int) + 1) = (k : Int) + 1 from w32_id (by simp only [in32]; omega)]
          exact ih2 (k + 1) M (by omega) (⟨by omega, by rw [chgF, ← hM2, if_neg (by omega)], hWM, hfr⟩)
        · refine run_k 49 ?_
          show (0 ≤ (k : Int) ∧ (k : Int) < 1000) ∧ ((0 ≤ (k : Int) ∧ (k : Int) < 1000) ∧ ((0 ≤ (M 48 0 (k : Int)) ∧ (M 48 0 (k : Int)) < 4) ∧ ((0 ≤ (k : Int) ∧ (k : Int) < 1000) ∧ ((3600000 ≠ 0) ∧ ((0 ≤ (k : Int) ∧ (k : Int) < 1000) ∧ ((0 ≤ (M 50 0 (k : Int)) ∧ (M 50 0 (k : Int)) < 6) ∧ ((0 ≤ (M 50 0 (k : Int)) ∧ (M 50 0 (k : Int)) < 6) ∧ ((0 ≤ (k : Int) ∧ (k : Int) < 1000) ∧ ((0 ≤ (w32 ((M 49 0 (k : Int)) - 10)) ∧ (w32 ((M 49 0 (k : Int)) - 10)) < 4) ∧ ((0 ≤ (w32 ((M 49 0 (k : Int)) - 10)) ∧ (w32 ((M 49 0 (k : Int)) - 10)) < 4) ∧ (Run fam0 none cd_X5_passes ER ET 2 0 [some (vR 38 0), some (vI (w32 ((k : Int) + 1))), some (vL (w64 ((w64 ((w64 ((M 51 0 (k : Int)) * (M 39 0 (M 48 0 (k : Int))))) * (M 52 0 (k : Int)))).tdiv 3600000))), none] [] (st (st M 41 0 (M 50 0 (k : Int)) (w64 ((M 41 0 (M 50 0 (k : Int))) - (w64 ((w64 ((w64 ((M 51 0 (k : Int)) * (M 39 0 (M 48 0 (k : Int))))) * (M 52 0 (k : Int)))).tdiv 3600000))))) 47 0 (w32 ((M 49 0 (k : Int)) - 10)) (w64 ((M 47 0 (w32 ((M 49 0 (k : Int)) - 10))) + (w64 ((w64 ((w64 ((M 51 0 (k : Int)) * (M 39 0 (M 48 0 (k : Int))))) * (M 52 0 (k : Int)))).tdiv 3600000))))))))))))))))
          rw [show w32 ((M 49 0 (k : Int)) - 10) = (M 49 0 (k : Int)) - 10 from w32_id (by simp only [in32]; omega)]
          rw [show w32 ((k : Int) + 1) = (k : Int) + 1 from w32_id (by simp only [in32]; omega)]
          refine ⟨by omega, ?_⟩
          refine ⟨by omega, ?_⟩
          refine ⟨by omega, ?_⟩
          refine ⟨by omega, ?_⟩
          refine ⟨by decide, ?_⟩
          refine ⟨by omega, ?_⟩
          refine ⟨by omega, ?_⟩
          refine ⟨by omega, ?_⟩
          refine ⟨by omega, ?_⟩
          refine ⟨by omega, ?_⟩
          refine ⟨by omega, ?_⟩
          refine run_w (L' := [some (vR 38 0), some (vI ((k : Int) + 1)), none, none]) ⟨rfl, rfl, True.intro⟩ ?_
          exact ih2 (k + 1) (st (st M 41 0 (M 50 0 (k : Int)) (w64 ((M 41 0 (M 50 0 (k : Int))) - (w64 ((w64 ((w64 ((M 51 0 (k : Int)) * (M 39 0 (M 48 0 (k : Int))))) * (M 52 0 (k : Int)))).tdiv 3600000))))) 47 0 ((M 49 0 (k : Int)) - 10) (w64 ((M 47 0 ((M 49 0 (k : Int)) - 10)) + (w64 ((w64 ((w64 ((M 51 0 (k : Int)) * (M 39 0 (M 48 0 (k : Int))))) * (M 52 0 (k : Int)))).tdiv 3600000))))) (by omega) (⟨by omega, by rw [chgF, ← hM2, if_pos (by omega)]; rfl, Wk_st (Wk_st hWM (by omega)) (by omega), fun g t i q1 q2 => by rw [st_o q2, st_o q1]; exact hfr g t i q1 q2⟩)
  exact lp2 _ 0 μ (Nat.lt_succ_self _) (⟨by omega, rfl, hW, fun _ _ _ _ _ => rfl⟩)
set_option maxRecDepth 20000 in
theorem con_X5_passes (l : Launch) (htr : l.stackTraces = false) (σ : Mm) : CON fam0 63 l yX5_passes (Cond.code yX5_passes cX5_passes 4 none :: wm) 5 126 0 (cl_X5_passes.2.2.1 σ) (cl_X5_passes.2.2.2.1 σ) (cl_X5_passes.2.2.2.2 σ) :=
  con_of (cd := cd_X5_passes) (own := RX5) (rk := 0) (sc_of htr (by decide) k_X5_passes_ok (by decide +kernel) co_X5_ok fl_X5_ok (all_cons ⟨RX5, yX5_lentFrom, cX5_lentFrom, 5, (some .int), 0, 0, 2, con_X5_lentFrom l htr, rfl, vw_X5_92, ⟨rfl, by decide, by decide, by decide +kernel⟩, ⟨by decide, by decide⟩, fun σ as μ h => ⟨38, 0, _, h.1, rfl, TX5, 31, rfl⟩⟩ (all_cons ⟨RX5, yX5_callBack, cX5_callBack, 8, none, 4, 99, 3, con_X5_callBack l htr, rfl, vw_X5_161, ⟨rfl, by decide, by decide, by decide +kernel⟩, ⟨by decide, by decide⟩, fun σ as μ h => ⟨38, 0, _, h.1, rfl, TX5, 31, rfl⟩⟩ all_nil)) all_nil all_nil) rfl (by decide +kernel) rfl rfl rfl rfl (fun as μ hs => by rw [hs.1]; exact Nat.le_of_ble_eq_true rfl)
    (fun as μ hs hM hrg => by
      have hs1 := hs.1
      have hmem : ∀ v, v ∈ ([vR 38 0] : List AV) → rg fam0 v := by rw [← hs1]; exact hrg
      have key := run_X5_passes (ER := cl_X5_passes.2.2.2.1 σ as μ) (ET := fun k μ' => cl_X5_passes.2.2.2.2 σ as μ k ∧ μ' = μ) σ μ  hM  hs.2 (fun ov μ' h => h)
      have e : entL as 4 = [some (vR 38 0), none, none, none] := by rw [hs1]; rfl
      rw [e]; exact key)
