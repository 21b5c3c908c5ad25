/-! ===== the reference: calling back, trading ===== -/
/-! ### PrimeborrowModel.callBack -/
def cl_X5_callBack : Cl := (4, 0, fun σ as μ => as = [vR 38 0, vI (iaI as 1), vI (iaI as 2), vI (iaI as 3)] ∧ (Wk μ ∧ (0 ≤ (iaI as 2) ∧ (iaI as 2) ≤ 3) ∧ (0 ≤ (iaI as 3) ∧ (iaI as 3) ≤ 500)), fun σ as μ ov μ' => ov = none ∧ μ' = callF μ (iaI as 1) (iaI as 2) (iaI as 3), fun σ as μ k => False)
def cd_X5_callBack : Cd := mkcd k_X5_callBack co_X5 fl_X5 [(109, cl_X5_borrow)] [] [] [] 8 0 0
set_option maxHeartbeats 4000000 in
set_option maxRecDepth 20000 in
theorem run_X5_callBack {ER : Option AV → Mm → Prop} {ET : Nat → Mm → Prop} (σ μ : Mm) (src s many : Int) (hM : MR fam0 μ) (h_src : in32 src) (h_s : in32 s) (h_many : in32 many) (hP : Wk μ ∧ (0 ≤ s ∧ s ≤ 3) ∧ (0 ≤ many ∧ many ≤ 500)) (hER : ∀ ov μ', (ov = none ∧ μ' = callF μ src s many) → ER ov μ') : Run fam0 none cd_X5_callBack ER ET 0 0 [some (vR 38 0), some (vI src), some (vI s), some (vI many), none, none, none, none] [] μ := by
  obtain ⟨hW, hs, hmany⟩ := hP
  have hl0 := hW.1.1
  refine run_k 7 ?_
  show Run fam0 none cd_X5_callBack ER ET 11 0 [some (vR 38 0), some (vI src), some (vI s), some (vI many), some (vI many), some (vI (w32 ((μ 38 0 11) - 1))), none, none] [] μ
  rw [show w32 ((μ 38 0 11) - 1) = (μ 38 0 11) - 1 from w32_id (by simp only [in32]; omega)]
  have lp11 : ∀ (fz : Nat) (j : Nat) (M : Mm) (rest x : Int), j < fz → (x = (j : Int) - 1 ∧ (j : Int) ≤ M 38 0 11 ∧ cbL src s j M rest = callF μ src s many ∧ (0 ≤ rest ∧ rest ≤ 500) ∧ Wk M) → Run fam0 none cd_X5_callBack ER ET 11 0 [some (vR 38 0), some (vI src), some (vI s), some (vI many), some (vI rest), some (vI x), none, none] [] M := by
    intro fz
    induction fz with
    | zero => intro j M rest x hf; omega
    | succ fz ih11 =>
      intro j M rest x hf hI
      obtain ⟨hx, hj, hcb, hrest, hW⟩ := hI
      have hl0 := hW.1.1
      refine run_k 2 ?_
      show (x < 0 → Run fam0 none cd_X5_callBack ER ET 195 0 [some (vR 38 0), some (vI src), some (vI s), some (vI many), some (vI rest), some (vI x), none, none] [] M) ∧ (0 ≤ x → Run fam0 none cd_X5_callBack ER ET 16 0 [some (vR 38 0), some (vI src), some (vI s), some (vI many), some (vI rest), some (vI x), none, none] [] M)
      refine ⟨fun c2 => ?_, fun c2 => ?_⟩
      · refine run_k 1 ?_
        show ER none M
        exact hER _ _ ⟨rfl, by first | (rw [← hcb, cbL_0 (by omega)]) | (rw [← hcb, show j = 0 by omega]; rfl)⟩
      · obtain ⟨j', hj'⟩ : ∃ j', j = j' + 1 := ⟨j - 1, by omega⟩
        subst hj'
        have hxj : x = (j' : Int) := by omega
        have hx0 : 0 ≤ x := by omega
        have hx1 : x < M 38 0 11 := by omega
        have hlk := Lk_at hW.1 hx0 hx1
        have hmi := minI_le (M 51 0 x) rest
        refine run_k 2 ?_
        show (rest ≤ 0 → Run fam0 none cd_X5_callBack ER ET 195 0 [some (vR 38 0), some (vI src), some (vI s), some (vI many), some (vI rest), some (vI x), none, none] [] M) ∧ (0 < rest → Run fam0 none cd_X5_callBack ER ET 21 0 [some (vR 38 0), some (vI src), some (vI s), some (vI many), some (vI rest), some (vI x), none, none] [] M)
        refine ⟨fun c4 => ?_, fun c4 => ?_⟩
        · refine run_k 1 ?_
          show ER none M
          exact hER _ _ ⟨rfl, by first | (rw [← hcb, cbL_0 (by omega)]) | (rw [← hcb, show j = 0 by omega]; rfl)⟩
        · refine run_k 6 ?_
          show (0 ≤ x ∧ x < 1000) ∧ (((M 49 0 x) ≠ src → Run fam0 none cd_X5_callBack ER ET 189 0 [some (vR 38 0), some (vI src), some (vI s), some (vI many), some (vI rest), some (vI x), none, none] [] M) ∧ ((M 49 0 x) = src → Run fam0 none cd_X5_callBack ER ET 32 0 [some (vR 38 0), some (vI src), some (vI s), some (vI many), some (vI rest), some (vI x), none, none] [] M))
          refine ⟨by omega, ?_⟩
          refine ⟨fun c6 => ?_, fun c6 => ?_⟩
          · refine run_k 2 ?_
            show Run fam0 none cd_X5_callBack ER ET 11 0 [some (vR 38 0), some (vI src), some (vI s), some (vI many), some (vI rest), some (vI (w32 (x + (-1)))), none, none] [] M
            rw [show w32 (x + (-1)) = x + (-1) from w32_id (by simp only [in32]; omega)]
            exact ih11 j' M rest (x + (-1)) (by omega) (by
                have hcb2 := hcb
                rw [cbL, if_pos (by omega), if_neg (by rw [← hxj]; omega)] at hcb2
                exact ⟨by omega, by omega, hcb2, by omega, hW⟩)
          · refine run_k 6 ?_
            show (0 ≤ x ∧ x < 1000) ∧ (((M 48 0 x) ≠ s → Run fam0 none cd_X5_callBack ER ET 189 0 [some (vR 38 0), some (vI src), some (vI s), some (vI many), some (vI rest), some (vI x), none, none] [] M) ∧ ((M 48 0 x) = s → Run fam0 none cd_X5_callBack ER ET 43 0 [some (vR 38 0), some (vI src), some (vI s), some (vI many), some (vI rest), some (vI x), none, none] [] M))
            refine ⟨by omega, ?_⟩
            refine ⟨fun c8 => ?_, fun c8 => ?_⟩
            · refine run_k 2 ?_
              show Run fam0 none cd_X5_callBack ER ET 11 0 [some (vR 38 0), some (vI src), some (vI s), some (vI many), some (vI rest), some (vI (w32 (x + (-1)))), none, none] [] M
              rw [show w32 (x + (-1)) = x + (-1) from w32_id (by simp only [in32]; omega)]
              exact ih11 j' M rest (x + (-1)) (by omega) (by
                  have hcb2 := hcb
                  rw [cbL, if_pos (by omega), if_neg (by rw [← hxj]; omega)] at hcb2
                  exact ⟨by omega, by omega, hcb2, by omega, hW⟩)
            · refine run_k 5 ?_
              show (0 ≤ x ∧ x < 1000) ∧ (((M 51 0 x) ≤ 0 → Run fam0 none cd_X5_callBack ER ET 189 0 [some (vR 38 0), some (vI src), some (vI s), some (vI many), some (vI rest), some (vI x), none, none] [] M) ∧ (0 < (M 51 0 x) → Run fam0 none cd_X5_callBack ER ET 53 0 [some (vR 38 0), some (vI src), some (vI s), some (vI many), some (vI rest), some (vI x), none, none] [] M))
              refine ⟨by omega, ?_⟩
              refine ⟨fun c10 => ?_, fun c10 => ?_⟩
              · refine run_k 2 ?_
                show Run fam0 none cd_X5_callBack ER ET 11 0 [some (vR 38 0), some (vI src), some (vI s), some (vI many), some (vI rest), some (vI (w32 (x + (-1)))), none, none] [] M
                rw [show w32 (x + (-1)) = x + (-1) from w32_id (by simp only [in32]; omega)]
                exact ih11 j' M rest (x + (-1)) (by omega) (by
                    have hcb2 := hcb
                    rw [cbL, if_pos (by omega), if_neg (by rw [← hxj]; omega)] at hcb2
                    exact ⟨by omega, by omega, hcb2, by omega, hW⟩)
              · refine run_k 6 ?_
                show (0 ≤ x ∧ x < 1000) ∧ (((M 51 0 x) ≤ rest → Run fam0 none cd_X5_callBack ER ET 70 0 [some (vR 38 0), some (vI src), some (vI s), some (vI many), some (vI rest), some (vI x), none, none] [] M) ∧ (rest < (M 51 0 x) → Run fam0 none cd_X5_callBack ER ET 65 0 [some (vR 38 0), some (vI src), some (vI s), some (vI many), some (vI rest), some (vI x), none, none] [] M))
                refine ⟨by omega, ?_⟩
                have jn62 : Run fam0 none cd_X5_callBack ER ET 77 0 [some (vR 38 0), some (vI src), some (vI s), some (vI many), some (vI rest), some (vI x), none, none] [vI (minI (M 51 0 x) rest)] M := by
                  obtain ⟨⟨hLk, hPk, hGk⟩, hrr, hB, htk, hW2, hle, hng⟩ := cbS_ok hW (k := x) (own := (minI (M 51 0 x) rest)) (src := src) (s := s) hx0 hx1 (by omega) (by omega) ⟨by omega, by omega⟩
                  have hp2 := hW.2.1 (4 * M 50 0 x + s)
                  have hp3 : (borF (st M 51 0 x (M 51 0 x - (minI (M 51 0 x) rest))) (M 50 0 x) s (minI (M 51 0 x) rest) src).1 42 0 (4 * (borF (st M 51 0 x (M 51 0 x - (minI (M 51 0 x) rest))) (M 50 0 x) s (minI (M 51 0 x) rest) src).1 50 0 x + s) = M 42 0 (4 * M 50 0 x + s) := by rw [htk]; exact (hB.1 42 0 _ (by decide)).trans (st_o (by decide))
                  refine run_k 23 ?_
                  show (0 ≤ x ∧ x < 1000) ∧ ((0 ≤ x ∧ x < 1000) ∧ ((0 ≤ x ∧ x < 1000) ∧ (∃ σ : Mm, cl_X5_borrow.2.2.1 σ [vR 38 0, vI (M 50 0 x), vI s, vI (minI (M 51 0 x) rest), vI src] (st M 51 0 x (w32 ((M 51 0 x) - (minI (M 51 0 x) rest)))) ∧ (∀ ov μ', cl_X5_borrow.2.2.2.1 σ [vR 38 0, vI (M 50 0 x), vI s, vI (minI (M 51 0 x) rest), vI src] (st M 51 0 x (w32 ((M 51 0 x) - (minI (M 51 0 x) rest)))) ov μ' → Run fam0 none cd_X5_callBack ER ET 115 0 [some (vR 38 0), some (vI src), some (vI s), some (vI many), some (vI (w32 (rest - (minI (M 51 0 x) rest)))), some (vI x), some (vI (minI (M 51 0 x) rest)), none] (ov.toList ++ [vI (minI (M 51 0 x) rest)]) μ') ∧ ∀ kx, cl_X5_borrow.2.2.2.2 σ [vR 38 0, vI (M 50 0 x), vI s, vI (minI (M 51 0 x) rest), vI src] (st M 51 0 x (w32 ((M 51 0 x) - (minI (M 51 0 x) rest)))) kx → thr cd_X5_callBack ET (Run fam0 none cd_X5_callBack ER ET) 112 0 [some (vR 38 0), some (vI src), some (vI s), some (vI many), some (vI (w32 (rest - (minI (M 51 0 x) rest)))), some (vI x), some (vI (minI (M 51 0 x) rest)), none] (st M 51 0 x (w32 ((M 51 0 x) - (minI (M 51 0 x) rest)))) kx)))
                  rw [show w32 ((M 51 0 x) - (minI (M 51 0 x) rest)) = (M 51 0 x) - (minI (M 51 0 x) rest) from w32_id (by simp only [in32]; omega)]
                  rw [show w32 (rest - (minI (M 51 0 x) rest)) = rest - (minI (M 51 0 x) rest) from w32_id (by simp only [in32]; omega)]
                  refine ⟨by omega, ?_⟩
                  refine ⟨by omega, ?_⟩
                  refine ⟨by omega, ?_⟩
                  refine ⟨μ, ⟨rfl, show Lk (st M 51 0 x ((M 51 0 x) - (minI (M 51 0 x) rest))) ∧ Pk (st M 51 0 x ((M 51 0 x) - (minI (M 51 0 x) rest))) ∧ Gk (st M 51 0 x ((M 51 0 x) - (minI (M 51 0 x) rest))) ∧ (0 ≤ (M 50 0 x) ∧ (M 50 0 x) ≤ 5) ∧ (0 ≤ s ∧ s ≤ 3) ∧ (0 ≤ ((minI (M 51 0 x) rest)) ∧ ((minI (M 51 0 x) rest)) ≤ 500) from ⟨hLk, hPk, hGk, by omega, by omega, by omega⟩⟩, fun ov μ' hq => ?_, fun k hk => hk.elim⟩
                  obtain ⟨hov, hmu⟩ : ov = some (vI ((minI (M 51 0 x) rest) - (borF (st M 51 0 x ((M 51 0 x) - (minI (M 51 0 x) rest))) (M 50 0 x) s (minI (M 51 0 x) rest) src).2)) ∧ μ' = (borF (st M 51 0 x ((M 51 0 x) - (minI (M 51 0 x) rest))) (M 50 0 x) s (minI (M 51 0 x) rest) src).1 := hq
                  rw [hov, hmu]
                  show Run fam0 none cd_X5_callBack ER ET 115 0 [some (vR 38 0), some (vI src), some (vI s), some (vI many), some (vI (rest - (minI (M 51 0 x) rest))), some (vI x), some (vI (minI (M 51 0 x) rest)), none] [vI ((minI (M 51 0 x) rest) - (borF (st M 51 0 x ((M 51 0 x) - (minI (M 51 0 x) rest))) (M 50 0 x) s (minI (M 51 0 x) rest) src).2), vI (minI (M 51 0 x) rest)] ((borF (st M 51 0 x ((M 51 0 x) - (minI (M 51 0 x) rest))) (M 50 0 x) s (minI (M 51 0 x) rest) src).1)
                  refine run_k 50 ?_
                  show (0 ≤ x ∧ x < 1000) ∧ ((0 ≤ (w32 ((w32 (4 * (((borF (st M 51 0 x ((M 51 0 x) - (minI (M 51 0 x) rest))) (M 50 0 x) s (minI (M 51 0 x) rest) src).1) 50 0 x))) + s)) ∧ (w32 ((w32 (4 * (((borF (st M 51 0 x ((M 51 0 x) - (minI (M 51 0 x) rest))) (M 50 0 x) s (minI (M 51 0 x) rest) src).1) 50 0 x))) + s)) < 24) ∧ ((0 ≤ (w32 ((w32 (4 * (((borF (st M 51 0 x ((M 51 0 x) - (minI (M 51 0 x) rest))) (M 50 0 x) s (minI (M 51 0 x) rest) src).1) 50 0 x))) + s)) ∧ (w32 ((w32 (4 * (((borF (st M 51 0 x ((M 51 0 x) - (minI (M 51 0 x) rest))) (M 50 0 x) s (minI (M 51 0 x) rest) src).1) 50 0 x))) + s)) < 24) ∧ ((0 ≤ x ∧ x < 1000) ∧ ((0 ≤ (((borF (st M 51 0 x ((M 51 0 x) - (minI (M 51 0 x) rest))) (M 50 0 x) s (minI (M 51 0 x) rest) src).1) 50 0 x) ∧ (((borF (st M 51 0 x ((M 51 0 x) - (minI (M 51 0 x) rest))) (M 50 0 x) s (minI (M 51 0 x) rest) src).1) 50 0 x) < 6) ∧ ((0 ≤ s ∧ s < 4) ∧ ((100 ≠ 0) ∧ ((0 ≤ (((borF (st M 51 0 x ((M 51 0 x) - (minI (M 51 0 x) rest))) (M 50 0 x) s (minI (M 51 0 x) rest) src).1) 50 0 x) ∧ (((borF (st M 51 0 x ((M 51 0 x) - (minI (M 51 0 x) rest))) (M 50 0 x) s (minI (M 51 0 x) rest) src).1) 50 0 x) < 6) ∧ (Run fam0 none cd_X5_callBack ER ET 11 0 [some (vR 38 0), some (vI src), some (vI s), some (vI many), some (vI (rest - (minI (M 51 0 x) rest))), some (vI (w32 (x + (-1)))), some (vI (minI (M 51 0 x) rest)), some (vI (w32 ((minI (M 51 0 x) rest) - ((minI (M 51 0 x) rest) - (borF (st M 51 0 x ((M 51 0 x) - (minI (M 51 0 x) rest))) (M 50 0 x) s (minI (M 51 0 x) rest) src).2))))] [] (st (st (st ((borF (st M 51 0 x ((M 51 0 x) - (minI (M 51 0 x) rest))) (M 50 0 x) s (minI (M 51 0 x) rest) src).1) 42 0 (w32 ((w32 (4 * (((borF (st M 51 0 x ((M 51 0 x) - (minI (M 51 0 x) rest))) (M 50 0 x) s (minI (M 51 0 x) rest) src).1) 50 0 x))) + s)) (w32 ((((borF (st M 51 0 x ((M 51 0 x) - (minI (M 51 0 x) rest))) (M 50 0 x) s (minI (M 51 0 x) rest) src).1) 42 0 (w32 ((w32 (4 * (((borF (st M 51 0 x ((M 51 0 x) - (minI (M 51 0 x) rest))) (M 50 0 x) s (minI (M 51 0 x) rest) src).1) 50 0 x))) + s))) + (w32 ((minI (M 51 0 x) rest) - ((minI (M 51 0 x) rest) - (borF (st M 51 0 x ((M 51 0 x) - (minI (M 51 0 x) rest))) (M 50 0 x) s (minI (M 51 0 x) rest) src).2)))))) 41 0 (((borF (st M 51 0 x ((M 51 0 x) - (minI (M 51 0 x) rest))) (M 50 0 x) s (minI (M 51 0 x) rest) src).1) 50 0 x) (w64 ((((borF (st M 51 0 x ((M 51 0 x) - (minI (M 51 0 x) rest))) (M 50 0 x) s (minI (M 51 0 x) rest) src).1) 41 0 (((borF (st M 51 0 x ((M 51 0 x) - (minI (M 51 0 x) rest))) (M 50 0 x) s (minI (M 51 0 x) rest) src).1) 50 0 x)) - (w64 ((w64 ((w64 ((w64 ((w32 ((minI (M 51 0 x) rest) - ((minI (M 51 0 x) rest) - (borF (st M 51 0 x ((M 51 0 x) - (minI (M 51 0 x) rest))) (M 50 0 x) s (minI (M 51 0 x) rest) src).2))) * (((borF (st M 51 0 x ((M 51 0 x) - (minI (M 51 0 x) rest))) (M 50 0 x) s (minI (M 51 0 x) rest) src).1) 39 0 s))) * 105)) + 99)).tdiv 100))))) 38 0 28 (w64 ((((borF (st M 51 0 x ((M 51 0 x) - (minI (M 51 0 x) rest))) (M 50 0 x) s (minI (M 51 0 x) rest) src).1) 38 0 28) + (w32 ((minI (M 51 0 x) rest) - ((minI (M 51 0 x) rest) - (borF (st M 51 0 x ((M 51 0 x) - (minI (M 51 0 x) rest))) (M 50 0 x) s (minI (M 51 0 x) rest) src).2))))))))))))))
                  rw [show w32 ((minI (M 51 0 x) rest) - ((minI (M 51 0 x) rest) - (borF (st M 51 0 x ((M 51 0 x) - (minI (M 51 0 x) rest))) (M 50 0 x) s (minI (M 51 0 x) rest) src).2)) = (minI (M 51 0 x) rest) - ((minI (M 51 0 x) rest) - (borF (st M 51 0 x ((M 51 0 x) - (minI (M 51 0 x) rest))) (M 50 0 x) s (minI (M 51 0 x) rest) src).2) from w32_id (by simp only [in32]; omega)]
                  rw [show w32 (4 * (((borF (st M 51 0 x ((M 51 0 x) - (minI (M 51 0 x) rest))) (M 50 0 x) s (minI (M 51 0 x) rest) src).1) 50 0 x)) = 4 * (((borF (st M 51 0 x ((M 51 0 x) - (minI (M 51 0 x) rest))) (M 50 0 x) s (minI (M 51 0 x) rest) src).1) 50 0 x) from w32_id (by simp only [in32]; omega)]
                  rw [show w32 ((4 * (((borF (st M 51 0 x ((M 51 0 x) - (minI (M 51 0 x) rest))) (M 50 0 x) s (minI (M 51 0 x) rest) src).1) 50 0 x)) + s) = (4 * (((borF (st M 51 0 x ((M 51 0 x) - (minI (M 51 0 x) rest))) (M 50 0 x) s (minI (M 51 0 x) rest) src).1) 50 0 x)) + s from w32_id (by simp only [in32]; omega)]
                  rw [show w32 ((((borF (st M 51 0 x ((M 51 0 x) - (minI (M 51 0 x) rest))) (M 50 0 x) s (minI (M 51 0 x) rest) src).1) 42 0 ((4 * (((borF (st M 51 0 x ((M 51 0 x) - (minI (M 51 0 x) rest))) (M 50 0 x) s (minI (M 51 0 x) rest) src).1) 50 0 x)) + s)) + ((minI (M 51 0 x) rest) - ((minI (M 51 0 x) rest) - (borF (st M 51 0 x ((M 51 0 x) - (minI (M 51 0 x) rest))) (M 50 0 x) s (minI (M 51 0 x) rest) src).2))) = (((borF (st M 51 0 x ((M 51 0 x) - (minI (M 51 0 x) rest))) (M 50 0 x) s (minI (M 51 0 x) rest) src).1) 42 0 ((4 * (((borF (st M 51 0 x ((M 51 0 x) - (minI (M 51 0 x) rest))) (M 50 0 x) s (minI (M 51 0 x) rest) src).1) 50 0 x)) + s)) + ((minI (M 51 0 x) rest) - ((minI (M 51 0 x) rest) - (borF (st M 51 0 x ((M 51 0 x) - (minI (M 51 0 x) rest))) (M 50 0 x) s (minI (M 51 0 x) rest) src).2)) from w32_id (by simp only [in32]; omega)]
                  rw [show w32 (x + (-1)) = x + (-1) from w32_id (by simp only [in32]; omega)]
                  refine ⟨by omega, ?_⟩
                  refine ⟨by omega, ?_⟩
                  refine ⟨by omega, ?_⟩
                  refine ⟨by omega, ?_⟩
                  refine ⟨by omega, ?_⟩
                  refine ⟨by omega, ?_⟩
                  refine ⟨by decide, ?_⟩
                  refine ⟨by omega, ?_⟩
                  refine run_w (L' := [some (vR 38 0), some (vI src), some (vI s), some (vI many), some (vI (rest - (minI (M 51 0 x) rest))), some (vI (x + (-1))), none, none]) ⟨rfl, rfl, rfl, rfl, rfl, rfl, True.intro⟩ ?_
                  exact ih11 j' (st (st (st ((borF (st M 51 0 x ((M 51 0 x) - (minI (M 51 0 x) rest))) (M 50 0 x) s (minI (M 51 0 x) rest) src).1) 42 0 ((4 * (((borF (st M 51 0 x ((M 51 0 x) - (minI (M 51 0 x) rest))) (M 50 0 x) s (minI (M 51 0 x) rest) src).1) 50 0 x)) + s) ((((borF (st M 51 0 x ((M 51 0 x) - (minI (M 51 0 x) rest))) (M 50 0 x) s (minI (M 51 0 x) rest) src).1) 42 0 ((4 * (((borF (st M 51 0 x ((M 51 0 x) - (minI (M 51 0 x) rest))) (M 50 0 x) s (minI (M 51 0 x) rest) src).1) 50 0 x)) + s)) + ((minI (M 51 0 x) rest) - ((minI (M 51 0 x) rest) - (borF (st M 51 0 x ((M 51 0 x) - (minI (M 51 0 x) rest))) (M 50 0 x) s (minI (M 51 0 x) rest) src).2)))) 41 0 (((borF (st M 51 0 x ((M 51 0 x) - (minI (M 51 0 x) rest))) (M 50 0 x) s (minI (M 51 0 x) rest) src).1) 50 0 x) (w64 ((((borF (st M 51 0 x ((M 51 0 x) - (minI (M 51 0 x) rest))) (M 50 0 x) s (minI (M 51 0 x) rest) src).1) 41 0 (((borF (st M 51 0 x ((M 51 0 x) - (minI (M 51 0 x) rest))) (M 50 0 x) s (minI (M 51 0 x) rest) src).1) 50 0 x)) - (w64 ((w64 ((w64 ((w64 (((minI (M 51 0 x) rest) - ((minI (M 51 0 x) rest) - (borF (st M 51 0 x ((M 51 0 x) - (minI (M 51 0 x) rest))) (M 50 0 x) s (minI (M 51 0 x) rest) src).2)) * (((borF (st M 51 0 x ((M 51 0 x) - (minI (M 51 0 x) rest))) (M 50 0 x) s (minI (M 51 0 x) rest) src).1) 39 0 s))) * 105)) + 99)).tdiv 100))))) 38 0 28 (w64 ((((borF (st M 51 0 x ((M 51 0 x) - (minI (M 51 0 x) rest))) (M 50 0 x) s (minI (M 51 0 x) rest) src).1) 38 0 28) + ((minI (M 51 0 x) rest) - ((minI (M 51 0 x) rest) - (borF (st M 51 0 x ((M 51 0 x) - (minI (M 51 0 x) rest))) (M 50 0 x) s (minI (M 51 0 x) rest) src).2))))) (rest - (minI (M 51 0 x) rest)) (x + (-1)) (by omega) (by
                      have hcb2 := hcb
                      rw [cbL, if_pos (by omega), if_pos (by rw [← hxj]; exact ⟨by omega, by omega, by omega⟩), ← hxj] at hcb2
                      have hmk : st (st (st ((borF (st M 51 0 x ((M 51 0 x) - (minI (M 51 0 x) rest))) (M 50 0 x) s (minI (M 51 0 x) rest) src).1) 42 0 ((4 * (((borF (st M 51 0 x ((M 51 0 x) - (minI (M 51 0 x) rest))) (M 50 0 x) s (minI (M 51 0 x) rest) src).1) 50 0 x)) + s) ((((borF (st M 51 0 x ((M 51 0 x) - (minI (M 51 0 x) rest))) (M 50 0 x) s (minI (M 51 0 x) rest) src).1) 42 0 ((4 * (((borF (st M 51 0 x ((M 51 0 x) - (minI (M 51 0 x) rest))) (M 50 0 x) s (minI (M 51 0 x) rest) src).1) 50 0 x)) + s)) + ((minI (M 51 0 x) rest) - ((minI (M 51 0 x) rest) - (borF (st M 51 0 x ((M 51 0 x) - (minI (M 51 0 x) rest))) (M 50 0 x) s (minI (M 51 0 x) rest) src).2)))) 41 0 (((borF (st M 51 0 x ((M 51 0 x) - (minI (M 51 0 x) rest))) (M 50 0 x) s (minI (M 51 0 x) rest) src).1) 50 0 x) (w64 ((((borF (st M 51 0 x ((M 51 0 x) - (minI (M 51 0 x) rest))) (M 50 0 x) s (minI (M 51 0 x) rest) src).1) 41 0 (((borF (st M 51 0 x ((M 51 0 x) - (minI (M 51 0 x) rest))) (M 50 0 x) s (minI (M 51 0 x) rest) src).1) 50 0 x)) - (w64 ((w64 ((w64 ((w64 (((minI (M 51 0 x) rest) - ((minI (M 51 0 x) rest) - (borF (st M 51 0 x ((M 51 0 x) - (minI (M 51 0 x) rest))) (M 50 0 x) s (minI (M 51 0 x) rest) src).2)) * (((borF (st M 51 0 x ((M 51 0 x) - (minI (M 51 0 x) rest))) (M 50 0 x) s (minI (M 51 0 x) rest) src).1) 39 0 s))) * 105)) + 99)).tdiv 100))))) 38 0 28 (w64 ((((borF (st M 51 0 x ((M 51 0 x) - (minI (M 51 0 x) rest))) (M 50 0 x) s (minI (M 51 0 x) rest) src).1) 38 0 28) + ((minI (M 51 0 x) rest) - ((minI (M 51 0 x) rest) - (borF (st M 51 0 x ((M 51 0 x) - (minI (M 51 0 x) rest))) (M 50 0 x) s (minI (M 51 0 x) rest) src).2)))) = cbS M src s x (minI (M 51 0 x) rest) := by
                        rw [show (minI (M 51 0 x) rest) - ((minI (M 51 0 x) rest) - (borF (st M 51 0 x (M 51 0 x - (minI (M 51 0 x) rest))) (M 50 0 x) s (minI (M 51 0 x) rest) src).2) = (borF (st M 51 0 x (M 51 0 x - (minI (M 51 0 x) rest))) (M 50 0 x) s (minI (M 51 0 x) rest) src).2 from by omega]
                        rfl
                      have hn2 := cbS_o M src s x (minI (M 51 0 x) rest) (g := 38) (t := 0) (j := 11) (by decide) (by decide) (by decide)
                      have hb3 := hB.2.2.1
                      rw [st_o (by decide)] at hb3
                      rw [hmk]
                      exact ⟨by omega, by omega, hcb2, by omega, hW2⟩)
                refine ⟨fun c12 => ?_, fun c12 => ?_⟩
                · refine run_k 4 ?_
                  show (0 ≤ x ∧ x < 1000) ∧ (Run fam0 none cd_X5_callBack ER ET 77 0 [some (vR 38 0), some (vI src), some (vI s), some (vI many), some (vI rest), some (vI x), none, none] [vI (M 51 0 x)] M)
                  refine ⟨by omega, ?_⟩
                  rw [show (minI (M 51 0 x) rest) = (M 51 0 x) from by unfold minI; first | rw [if_pos (by omega)] | rw [if_neg (by omega)]] at jn62
                  exact jn62
                · refine run_k 2 ?_
                  show Run fam0 none cd_X5_callBack ER ET 77 0 [some (vR 38 0), some (vI src), some (vI s), some (vI many), some (vI rest), some (vI x), none, none] [vI rest] M
                  rw [show (minI (M 51 0 x) rest) = rest from by unfold minI; first | rw [if_pos (by omega)] | rw [if_neg (by omega)]] at jn62
                  exact jn62
  exact lp11 _ (μ 38 0 11).toNat μ many ((μ 38 0 11) - 1) (Nat.lt_succ_self _) (⟨by omega, by omega, rfl, by omega, hW⟩)
theorem vw_X5_109 : ∀ w ∈ ([.methodLink RX5 109 yX5_borrow, .instanceMethod yX5_borrow, .selects RX5 yX5_borrow yX5_borrow, .initialized RX5, .code yX5_borrow cX5_borrow 9 (some .int)] : List Cond), w ∈ wm := wm_ps _ [870, 872, 37, 55, 873] (by decide +kernel)
set_option maxRecDepth 20000 in
theorem con_X5_callBack (l : Launch) (htr : l.stackTraces = false) (σ : Mm) : CON fam0 63 l yX5_callBack (Cond.code yX5_callBack cX5_callBack 8 none :: wm) 4 99 0 (cl_X5_callBack.2.2.1 σ) (cl_X5_callBack.2.2.2.1 σ) (cl_X5_callBack.2.2.2.2 σ) :=
  con_of (cd := cd_X5_callBack) (own := RX5) (rk := 0) (sc_of htr (by decide) k_X5_callBack_ok (by decide +kernel) co_X5_ok fl_X5_ok (all_cons ⟨RX5, yX5_borrow, cX5_borrow, 9, (some .int), 3, 71, 4, con_X5_borrow l htr, rfl, vw_X5_109, ⟨rfl, by decide, by decide, by decide +kernel⟩, ⟨by decide, by decide⟩, fun σ as μ h => ⟨38, 0, _, h.1, rfl, TX5, 31, rfl⟩⟩ all_nil) all_nil all_nil) rfl (by decide +kernel) rfl rfl rfl rfl (fun as μ hs => by rw [hs.1]; exact Nat.le_of_ble_eq_true rfl)
    (fun as μ hs hM hrg => by
      have hs1 := hs.1
      have hmem : ∀ v, v ∈ ([vR 38 0, vI (iaI as 1), vI (iaI as 2), vI (iaI as 3)] : List AV) → rg fam0 v := by rw [← hs1]; exact hrg
      have key := run_X5_callBack (ER := cl_X5_callBack.2.2.2.1 σ as μ) (ET := fun k μ' => cl_X5_callBack.2.2.2.2 σ as μ k ∧ μ' = μ) σ μ (iaI as 1) (iaI as 2) (iaI as 3) hM (hmem (vI (iaI as 1)) (by simp)) (hmem (vI (iaI as 2)) (by simp)) (hmem (vI (iaI as 3)) (by simp)) hs.2 (fun ov μ' h => h)
      have e : entL as 8 = [some (vR 38 0), some (vI (iaI as 1)), some (vI (iaI as 2)), some (vI (iaI as 3)), none, none, none, none] := by rw [hs1]; rfl
      rw [e]; exact key)
/-! ### PrimeborrowModel.buys -/
def cl_X5_buys : Cl := (4, 0, fun σ as μ => as = [vR 38 0, vI (iaI as 1), vI (iaI as 2), vI (iaI as 3)] ∧ (Wk μ ∧ (0 ≤ (iaI as 1) ∧ (iaI as 1) ≤ 5) ∧ (0 ≤ (iaI as 2) ∧ (iaI as 2) ≤ 3) ∧ (1 ≤ (iaI as 3) ∧ (iaI as 3) ≤ 500) ∧ μ 42 0 (4 * (iaI as 1) + (iaI as 2)) + (iaI as 3) ≤ 500), fun σ as μ ov μ' => ov = none ∧ μ' = buysF μ (iaI as 1) (iaI as 2) (iaI as 3), fun σ as μ k => False)
def cd_X5_buys : Cd := mkcd k_X5_buys co_X5 fl_X5 [(171, cl_X5_giveBack)] [] [] [] 6 0 0
set_option maxHeartbeats 4000000 in
set_option maxRecDepth 20000 in
theorem run_X5_buys {ER : Option AV → Mm → Prop} {ET : Nat → Mm → Prop} (σ μ : Mm) (c s n : Int) (hM : MR fam0 μ) (h_c : in32 c) (h_s : in32 s) (h_n : in32 n) (hP : Wk μ ∧ (0 ≤ c ∧ c ≤ 5) ∧ (0 ≤ s ∧ s ≤ 3) ∧ (1 ≤ n ∧ n ≤ 500) ∧ μ 42 0 (4 * c + s) + n ≤ 500) (hER : ∀ ov μ', (ov = none ∧ μ' = buysF μ c s n) → ER ov μ') : Run fam0 none cd_X5_buys ER ET 0 0 [some (vR 38 0), some (vI c), some (vI s), some (vI n), none, none] [] μ := by
  obtain ⟨hW, hc, hs, hn, hm⟩ := hP
  have hLk := hW.1
  have hPk := hW.2.1
  have hGk := Gk_of hW.1 hW.2.2.2.2
  have h4 := I4_at hW.2.2.1 hc hs
  have h5 := I5_at hW.1 hW.2.2.2.1 hc hs
  have hp := hW.2.1 (4 * c + s) (by omega) (by omega)
  have hpt := part_at hW.1 hW.2.2.2.1 hc hs
  refine run_k 11 ?_
  show (0 ≤ (w32 ((w32 (4 * c)) + s)) ∧ (w32 ((w32 (4 * c)) + s)) < 24) ∧ (((μ 42 0 (w32 ((w32 (4 * c)) + s))) < 0 → Run fam0 none cd_X5_buys ER ET 21 0 [some (vR 38 0), some (vI c), some (vI s), some (vI n), some (vI (μ 42 0 (w32 ((w32 (4 * c)) + s)))), none] [] μ) ∧ (0 ≤ (μ 42 0 (w32 ((w32 (4 * c)) + s))) → Run fam0 none cd_X5_buys ER ET 17 0 [some (vR 38 0), some (vI c), some (vI s), some (vI n), some (vI (μ 42 0 (w32 ((w32 (4 * c)) + s)))), none] [] μ))
  rw [show w32 (4 * c) = 4 * c from w32_id (by simp only [in32]; omega)]
  rw [show w32 ((4 * c) + s) = (4 * c) + s from w32_id (by simp only [in32]; omega)]
  refine ⟨by omega, ?_⟩
  refine ⟨fun c1 => ?_, fun c1 => ?_⟩
  · refine run_k 4 ?_
    show (n ≤ (w32 (-(μ 42 0 ((4 * c) + s)))) → Run fam0 none cd_X5_buys ER ET 34 0 [some (vR 38 0), some (vI c), some (vI s), some (vI n), some (vI (μ 42 0 ((4 * c) + s))), none] [] μ) ∧ ((w32 (-(μ 42 0 ((4 * c) + s)))) < n → Run fam0 none cd_X5_buys ER ET 28 0 [some (vR 38 0), some (vI c), some (vI s), some (vI n), some (vI (μ 42 0 ((4 * c) + s))), none] [] μ)
    rw [show w32 (-(μ 42 0 ((4 * c) + s))) = -(μ 42 0 ((4 * c) + s)) from w32_id (by simp only [in32]; omega)]
    refine ⟨fun c2 => ?_, fun c2 => ?_⟩
    · refine run_k 7 ?_
      show ∃ σ : Mm, cl_X5_giveBack.2.2.1 σ [vR 38 0, vI c, vI s, vI n] μ ∧ (∀ ov μ', cl_X5_giveBack.2.2.2.1 σ [vR 38 0, vI c, vI s, vI n] μ ov μ' → Run fam0 none cd_X5_buys ER ET 45 0 [some (vR 38 0), some (vI c), some (vI s), some (vI n), some (vI (μ 42 0 ((4 * c) + s))), some (vI n)] (ov.toList ++ []) μ') ∧ ∀ kx, cl_X5_giveBack.2.2.2.2 σ [vR 38 0, vI c, vI s, vI n] μ kx → thr cd_X5_buys ET (Run fam0 none cd_X5_buys ER ET) 42 0 [some (vR 38 0), some (vI c), some (vI s), some (vI n), some (vI (μ 42 0 ((4 * c) + s))), some (vI n)] μ kx
      refine ⟨μ, ⟨rfl, show Lk μ ∧ Gk μ ∧ (0 ≤ n ∧ n ≤ 500) ∧ (0 ≤ s ∧ s ≤ 3) ∧ n ≤ toF μ c s from ⟨hLk, hGk, by omega, by omega, by omega⟩⟩, fun ov μ' hq => ?_, fun k hk => hk.elim⟩
      obtain ⟨hov, hmu⟩ : ov = none ∧ μ' = giveF μ c s n := hq
      rw [hov, hmu]
      have hgo : ∀ j, (giveF μ c s n) 42 0 j = μ 42 0 j := fun j => giveF_o _ _ _ _ (by decide)
      have hgp := hgo (4 * c + s)
      show Run fam0 none cd_X5_buys ER ET 45 0 [some (vR 38 0), some (vI c), some (vI s), some (vI n), some (vI (μ 42 0 ((4 * c) + s))), some (vI n)] [] (giveF μ c s n)
      refine run_k 28 ?_
      show (0 ≤ (w32 ((w32 (4 * c)) + s)) ∧ (w32 ((w32 (4 * c)) + s)) < 24) ∧ ((0 ≤ (w32 ((w32 (4 * c)) + s)) ∧ (w32 ((w32 (4 * c)) + s)) < 24) ∧ ((0 ≤ c ∧ c < 6) ∧ ((0 ≤ s ∧ s < 4) ∧ ((0 ≤ c ∧ c < 6) ∧ (ER none (st (st (giveF μ c s n) 42 0 (w32 ((w32 (4 * c)) + s)) (w32 (((giveF μ c s n) 42 0 (w32 ((w32 (4 * c)) + s))) + n))) 41 0 c (w64 (((giveF μ c s n) 41 0 c) - (w64 (n * ((giveF μ c s n) 39 0 s)))))))))))
      rw [show w32 (4 * c) = 4 * c from w32_id (by simp only [in32]; omega)]
      rw [show w32 ((4 * c) + s) = (4 * c) + s from w32_id (by simp only [in32]; omega)]
      rw [show w32 (((giveF μ c s n) 42 0 ((4 * c) + s)) + n) = ((giveF μ c s n) 42 0 ((4 * c) + s)) + n from w32_id (by simp only [in32]; omega)]
      refine ⟨by omega, ?_⟩
      refine ⟨by omega, ?_⟩
      refine ⟨by omega, ?_⟩
      refine ⟨by omega, ?_⟩
      refine ⟨by omega, ?_⟩
      exact hER _ _ ⟨rfl, by unfold buysF; first | (rw [show (if 0 ≤ μ 42 0 (4 * c + s) then (0 : Int) else if -μ 42 0 (4 * c + s) < n then -μ 42 0 (4 * c + s) else n) = 0 from by rw [if_pos (by omega)]]; try rfl) | (rw [show (if 0 ≤ μ 42 0 (4 * c + s) then (0 : Int) else if -μ 42 0 (4 * c + s) < n then -μ 42 0 (4 * c + s) else n) = -μ 42 0 (4 * c + s) from by rw [if_neg (by omega), if_pos (by omega)]]; try rfl) | (rw [show (if 0 ≤ μ 42 0 (4 * c + s) then (0 : Int) else if -μ 42 0 (4 * c + s) < n then -μ 42 0 (4 * c + s) else n) = n from by rw [if_neg (by omega), if_neg (by omega)]]; try rfl)⟩
    · refine run_k 9 ?_
      show ∃ σ : Mm, cl_X5_giveBack.2.2.1 σ [vR 38 0, vI c, vI s, vI (w32 (-(μ 42 0 ((4 * c) + s))))] μ ∧ (∀ ov μ', cl_X5_giveBack.2.2.2.1 σ [vR 38 0, vI c, vI s, vI (w32 (-(μ 42 0 ((4 * c) + s))))] μ ov μ' → Run fam0 none cd_X5_buys ER ET 45 0 [some (vR 38 0), some (vI c), some (vI s), some (vI n), some (vI (μ 42 0 ((4 * c) + s))), some (vI (w32 (-(μ 42 0 ((4 * c) + s)))))] (ov.toList ++ []) μ') ∧ ∀ kx, cl_X5_giveBack.2.2.2.2 σ [vR 38 0, vI c, vI s, vI (w32 (-(μ 42 0 ((4 * c) + s))))] μ kx → thr cd_X5_buys ET (Run fam0 none cd_X5_buys ER ET) 42 0 [some (vR 38 0), some (vI c), some (vI s), some (vI n), some (vI (μ 42 0 ((4 * c) + s))), some (vI (w32 (-(μ 42 0 ((4 * c) + s)))))] μ kx
      rw [show w32 (-(μ 42 0 ((4 * c) + s))) = -(μ 42 0 ((4 * c) + s)) from w32_id (by simp only [in32]; omega)]
      refine ⟨μ, ⟨rfl, show Lk μ ∧ Gk μ ∧ (0 ≤ ((-(μ 42 0 ((4 * c) + s)))) ∧ ((-(μ 42 0 ((4 * c) + s)))) ≤ 500) ∧ (0 ≤ s ∧ s ≤ 3) ∧ ((-(μ 42 0 ((4 * c) + s)))) ≤ toF μ c s from ⟨hLk, hGk, by omega, by omega, by omega⟩⟩, fun ov μ' hq => ?_, fun k hk => hk.elim⟩
      obtain ⟨hov, hmu⟩ : ov = none ∧ μ' = giveF μ c s (-(μ 42 0 ((4 * c) + s))) := hq
      rw [hov, hmu]
      have hgo : ∀ j, (giveF μ c s (-(μ 42 0 ((4 * c) + s)))) 42 0 j = μ 42 0 j := fun j => giveF_o _ _ _ _ (by decide)
      have hgp := hgo (4 * c + s)
      show Run fam0 none cd_X5_buys ER ET 45 0 [some (vR 38 0), some (vI c), some (vI s), some (vI n), some (vI (μ 42 0 ((4 * c) + s))), some (vI (-(μ 42 0 ((4 * c) + s))))] [] (giveF μ c s (-(μ 42 0 ((4 * c) + s))))
      refine run_k 28 ?_
      show (0 ≤ (w32 ((w32 (4 * c)) + s)) ∧ (w32 ((w32 (4 * c)) + s)) < 24) ∧ ((0 ≤ (w32 ((w32 (4 * c)) + s)) ∧ (w32 ((w32 (4 * c)) + s)) < 24) ∧ ((0 ≤ c ∧ c < 6) ∧ ((0 ≤ s ∧ s < 4) ∧ ((0 ≤ c ∧ c < 6) ∧ (ER none (st (st (giveF μ c s (-(μ 42 0 ((4 * c) + s)))) 42 0 (w32 ((w32 (4 * c)) + s)) (w32 (((giveF μ c s (-(μ 42 0 ((4 * c) + s)))) 42 0 (w32 ((w32 (4 * c)) + s))) + n))) 41 0 c (w64 (((giveF μ c s (-(μ 42 0 ((4 * c) + s)))) 41 0 c) - (w64 (n * ((giveF μ c s (-(μ 42 0 ((4 * c) + s)))) 39 0 s)))))))))))
      rw [show w32 (4 * c) = 4 * c from w32_id (by simp only [in32]; omega)]
      rw [show w32 ((4 * c) + s) = (4 * c) + s from w32_id (by simp only [in32]; omega)]
      rw [show w32 (((giveF μ c s (-(μ 42 0 ((4 * c) + s)))) 42 0 ((4 * c) + s)) + n) = ((giveF μ c s (-(μ 42 0 ((4 * c) + s)))) 42 0 ((4 * c) + s)) + n from w32_id (by simp only [in32]; omega)]
      refine ⟨by omega, ?_⟩
      refine ⟨by omega, ?_⟩
      refine ⟨by omega, ?_⟩
      refine ⟨by omega, ?_⟩
      refine ⟨by omega, ?_⟩
      exact hER _ _ ⟨rfl, by unfold buysF; first | (rw [show (if 0 ≤ μ 42 0 (4 * c + s) then (0 : Int) else if -μ 42 0 (4 * c + s) < n then -μ 42 0 (4 * c + s) else n) = 0 from by rw [if_pos (by omega)]]; try rfl) | (rw [show (if 0 ≤ μ 42 0 (4 * c + s) then (0 : Int) else if -μ 42 0 (4 * c + s) < n then -μ 42 0 (4 * c + s) else n) = -μ 42 0 (4 * c + s) from by rw [if_neg (by omega), if_pos (by omega)]]; try rfl) | (rw [show (if 0 ≤ μ 42 0 (4 * c + s) then (0 : Int) else if -μ 42 0 (4 * c + s) < n then -μ 42 0 (4 * c + s) else n) = n from by rw [if_neg (by omega), if_neg (by omega)]]; try rfl)⟩
  · refine run_k 8 ?_
    show ∃ σ : Mm, cl_X5_giveBack.2.2.1 σ [vR 38 0, vI c, vI s, vI 0] μ ∧ (∀ ov μ', cl_X5_giveBack.2.2.2.1 σ [vR 38 0, vI c, vI s, vI 0] μ ov μ' → Run fam0 none cd_X5_buys ER ET 45 0 [some (vR 38 0), some (vI c), some (vI s), some (vI n), some (vI (μ 42 0 ((4 * c) + s))), some (vI 0)] (ov.toList ++ []) μ') ∧ ∀ kx, cl_X5_giveBack.2.2.2.2 σ [vR 38 0, vI c, vI s, vI 0] μ kx → thr cd_X5_buys ET (Run fam0 none cd_X5_buys ER ET) 42 0 [some (vR 38 0), some (vI c), some (vI s), some (vI n), some (vI (μ 42 0 ((4 * c) + s))), some (vI 0)] μ kx
    refine ⟨μ, ⟨rfl, show Lk μ ∧ Gk μ ∧ (0 ≤ 0 ∧ 0 ≤ 500) ∧ (0 ≤ s ∧ s ≤ 3) ∧ 0 ≤ toF μ c s from ⟨hLk, hGk, by omega, by omega, by omega⟩⟩, fun ov μ' hq => ?_, fun k hk => hk.elim⟩
    obtain ⟨hov, hmu⟩ : ov = none ∧ μ' = giveF μ c s 0 := hq
    rw [hov, hmu]
    have hgo : ∀ j, (giveF μ c s 0) 42 0 j = μ 42 0 j := fun j => giveF_o _ _ _ _ (by decide)
    have hgp := hgo (4 * c + s)
    show Run fam0 none cd_X5_buys ER ET 45 0 [some (vR 38 0), some (vI c), some (vI s), some (vI n), some (vI (μ 42 0 ((4 * c) + s))), some (vI 0)] [] (giveF μ c s 0)
    refine run_k 28 ?_
    show (0 ≤ (w32 ((w32 (4 * c)) + s)) ∧ (w32 ((w32 (4 * c)) + s)) < 24) ∧ ((0 ≤ (w32 ((w32 (4 * c)) + s)) ∧ (w32 ((w32 (4 * c)) + s)) < 24) ∧ ((0 ≤ c ∧ c < 6) ∧ ((0 ≤ s ∧ s < 4) ∧ ((0 ≤ c ∧ c < 6) ∧ (ER none (st (st (giveF μ c s 0) 42 0 (w32 ((w32 (4 * c)) + s)) (w32 (((giveF μ c s 0) 42 0 (w32 ((w32 (4 * c)) + s))) + n))) 41 0 c (w64 (((giveF μ c s 0) 41 0 c) - (w64 (n * ((giveF μ c s 0) 39 0 s)))))))))))
    rw [show w32 (4 * c) = 4 * c from w32_id (by simp only [in32]; omega)]
    rw [show w32 ((4 * c) + s) = (4 * c) + s from w32_id (by simp only [in32]; omega)]
    rw [show w32 (((giveF μ c s 0) 42 0 ((4 * c) + s)) + n) = ((giveF μ c s 0) 42 0 ((4 * c) + s)) + n from w32_id (by simp only [in32]; omega)]
    refine ⟨by omega, ?_⟩
    refine ⟨by omega, ?_⟩
    refine ⟨by omega, ?_⟩
    refine ⟨by omega, ?_⟩
    refine ⟨by omega, ?_⟩
    exact hER _ _ ⟨rfl, by unfold buysF; first | (rw [show (if 0 ≤ μ 42 0 (4 * c + s) then (0 : Int) else if -μ 42 0 (4 * c + s) < n then -μ 42 0 (4 * c + s) else n) = 0 from by rw [if_pos (by omega)]]; try rfl) | (rw [show (if 0 ≤ μ 42 0 (4 * c + s) then (0 : Int) else if -μ 42 0 (4 * c + s) < n then -μ 42 0 (4 * c + s) else n) = -μ 42 0 (4 * c + s) from by rw [if_neg (by omega), if_pos (by omega)]]; try rfl) | (rw [show (if 0 ≤ μ 42 0 (4 * c + s) then (0 : Int) else if -μ 42 0 (4 * c + s) < n then -μ 42 0 (4 * c + s) else n) = n from by rw [if_neg (by omega), if_neg (by omega)]]; try rfl)⟩
theorem vw_X5_171 : ∀ w ∈ ([.methodLink RX5 171 yX5_giveBack, .instanceMethod yX5_giveBack, .selects RX5 yX5_giveBack yX5_giveBack, .initialized RX5, .code yX5_giveBack cX5_giveBack 8 none] : List Cond), w ∈ wm := wm_ps _ [900, 902, 43, 55, 903] (by decide +kernel)
set_option maxRecDepth 20000 in
theorem con_X5_buys (l : Launch) (htr : l.stackTraces = false) (σ : Mm) : CON fam0 63 l yX5_buys (Cond.code yX5_buys cX5_buys 6 none :: wm) 1 27 0 (cl_X5_buys.2.2.1 σ) (cl_X5_buys.2.2.2.1 σ) (cl_X5_buys.2.2.2.2 σ) :=
  con_of (cd := cd_X5_buys) (own := RX5) (rk := 0) (sc_of htr (by decide) k_X5_buys_ok (by decide +kernel) co_X5_ok fl_X5_ok (all_cons ⟨RX5, yX5_giveBack, cX5_giveBack, 8, none, 0, 0, 3, con_X5_giveBack l htr, rfl, vw_X5_171, ⟨rfl, by decide, by decide, by decide +kernel⟩, ⟨by decide, by decide⟩, fun σ as μ h => ⟨38, 0, _, h.1, rfl, TX5, 31, rfl⟩⟩ all_nil) all_nil all_nil) rfl (by decide +kernel) rfl rfl rfl rfl (fun as μ hs => by rw [hs.1]; exact Nat.le_of_ble_eq_true rfl)
    (fun as μ hs hM hrg => by
      have hs1 := hs.1
      have hmem : ∀ v, v ∈ ([vR 38 0, vI (iaI as 1), vI (iaI as 2), vI (iaI as 3)] : List AV) → rg fam0 v := by rw [← hs1]; exact hrg
      have key := run_X5_buys (ER := cl_X5_buys.2.2.2.1 σ as μ) (ET := fun k μ' => cl_X5_buys.2.2.2.2 σ as μ k ∧ μ' = μ) σ μ (iaI as 1) (iaI as 2) (iaI as 3) hM (hmem (vI (iaI as 1)) (by simp)) (hmem (vI (iaI as 2)) (by simp)) (hmem (vI (iaI as 3)) (by simp)) hs.2 (fun ov μ' h => h)
      have e : entL as 6 = [some (vR 38 0), some (vI (iaI as 1)), some (vI (iaI as 2)), some (vI (iaI as 3)), none, none] := by rw [hs1]; rfl
      rw [e]; exact key)
/-! ### PrimeborrowModel.sells -/
def cl_X5_sells : Cl := (4, 0, fun σ as μ => as = [vR 38 0, vI (iaI as 1), vI (iaI as 2), vI (iaI as 3)] ∧ (Wk μ ∧ (0 ≤ (iaI as 1) ∧ (iaI as 1) ≤ 5) ∧ (0 ≤ (iaI as 2) ∧ (iaI as 2) ≤ 3) ∧ (1 ≤ (iaI as 3) ∧ (iaI as 3) ≤ μ 42 0 (4 * (iaI as 1) + (iaI as 2)))), fun σ as μ ov μ' => ov = none ∧ μ' = sellsF μ (iaI as 1) (iaI as 2) (iaI as 3), fun σ as μ k => False)
def cd_X5_sells : Cd := mkcd k_X5_sells co_X5 fl_X5 [(96, cl_X5_partOf), (161, cl_X5_callBack)] [] [] [] 5 0 0
set_option maxHeartbeats 4000000 in
set_option maxRecDepth 20000 in
theorem run_X5_sells {ER : Option AV → Mm → Prop} {ET : Nat → Mm → Prop} (σ μ : Mm) (c s n : Int) (hM : MR fam0 μ) (h_c : in32 c) (h_s : in32 s) (h_n : in32 n) (hP : Wk μ ∧ (0 ≤ c ∧ c ≤ 5) ∧ (0 ≤ s ∧ s ≤ 3) ∧ (1 ≤ n ∧ n ≤ μ 42 0 (4 * c + s))) (hER : ∀ ov μ', (ov = none ∧ μ' = sellsF μ c s n) → ER ov μ') : Run fam0 none cd_X5_sells ER ET 0 0 [some (vR 38 0), some (vI c), some (vI s), some (vI n), none] [] μ := by
  obtain ⟨hW, hc, hs, hn⟩ := hP
  have hLk := hW.1
  have hPk := hW.2.1
  have hGk := Gk_of hW.1 hW.2.2.2.2
  have h4 := I4_at hW.2.2.1 hc hs
  have h5 := I5_at hW.1 hW.2.2.2.1 hc hs
  have hp := hW.2.1 (4 * c + s) (by omega) (by omega)
  have hpt := part_at hW.1 hW.2.2.2.1 hc hs
  refine run_k 4 ?_
  show ∃ σ : Mm, cl_X5_partOf.2.2.1 σ [vR 38 0, vI c, vI s] μ ∧ (∀ ov μ', cl_X5_partOf.2.2.2.1 σ [vR 38 0, vI c, vI s] μ ov μ' → Run fam0 none cd_X5_sells ER ET 6 0 [some (vR 38 0), some (vI c), some (vI s), some (vI n), none] (ov.toList ++ []) μ') ∧ ∀ kx, cl_X5_partOf.2.2.2.2 σ [vR 38 0, vI c, vI s] μ kx → thr cd_X5_sells ET (Run fam0 none cd_X5_sells ER ET) 3 0 [some (vR 38 0), some (vI c), some (vI s), some (vI n), none] μ kx
  refine ⟨μ, ⟨rfl, show Lk μ ∧ Pk μ ∧ (0 ≤ c ∧ c ≤ 5) ∧ (0 ≤ s ∧ s ≤ 3) from ⟨hLk, hPk, by omega, by omega⟩⟩, fun ov μ' hq => ?_, fun k hk => hk.elim⟩
  obtain ⟨hov, hmu⟩ : ov = some (vI (partF μ c s)) ∧ μ' = μ := hq
  rw [hov, hmu]
  show Run fam0 none cd_X5_sells ER ET 6 0 [some (vR 38 0), some (vI c), some (vI s), some (vI n), none] [vI (partF μ c s)] μ
  refine run_k 4 ?_
  show (n ≤ (partF μ c s) → Run fam0 none cd_X5_sells ER ET 24 0 [some (vR 38 0), some (vI c), some (vI s), some (vI n), some (vI (partF μ c s))] [] μ) ∧ ((partF μ c s) < n → Run fam0 none cd_X5_sells ER ET 14 0 [some (vR 38 0), some (vI c), some (vI s), some (vI n), some (vI (partF μ c s))] [] μ)
  refine ⟨fun c2 => ?_, fun c2 => ?_⟩
  · refine run_k 28 ?_
    show (0 ≤ (w32 ((w32 (4 * c)) + s)) ∧ (w32 ((w32 (4 * c)) + s)) < 24) ∧ ((0 ≤ (w32 ((w32 (4 * c)) + s)) ∧ (w32 ((w32 (4 * c)) + s)) < 24) ∧ ((0 ≤ c ∧ c < 6) ∧ ((0 ≤ s ∧ s < 4) ∧ ((0 ≤ c ∧ c < 6) ∧ (ER none (st (st μ 42 0 (w32 ((w32 (4 * c)) + s)) (w32 ((μ 42 0 (w32 ((w32 (4 * c)) + s))) - n))) 41 0 c (w64 ((μ 41 0 c) + (w64 (n * (μ 39 0 s)))))))))))
    rw [show w32 (4 * c) = 4 * c from w32_id (by simp only [in32]; omega)]
    rw [show w32 ((4 * c) + s) = (4 * c) + s from w32_id (by simp only [in32]; omega)]
    rw [show w32 ((μ 42 0 ((4 * c) + s)) - n) = (μ 42 0 ((4 * c) + s)) - n from w32_id (by simp only [in32]; omega)]
    refine ⟨by omega, ?_⟩
    refine ⟨by omega, ?_⟩
    refine ⟨by omega, ?_⟩
    refine ⟨by omega, ?_⟩
    refine ⟨by omega, ?_⟩
    exact hER _ _ ⟨rfl, by unfold sellsF; first | (rw [if_pos (by omega)]; try rfl) | (rw [if_neg (by omega)]; try rfl)⟩
  · refine run_k 7 ?_
    show ∃ σ : Mm, cl_X5_callBack.2.2.1 σ [vR 38 0, vI c, vI s, vI (w32 (n - (partF μ c s)))] μ ∧ (∀ ov μ', cl_X5_callBack.2.2.2.1 σ [vR 38 0, vI c, vI s, vI (w32 (n - (partF μ c s)))] μ ov μ' → Run fam0 none cd_X5_sells ER ET 24 0 [some (vR 38 0), some (vI c), some (vI s), some (vI n), some (vI (partF μ c s))] (ov.toList ++ []) μ') ∧ ∀ kx, cl_X5_callBack.2.2.2.2 σ [vR 38 0, vI c, vI s, vI (w32 (n - (partF μ c s)))] μ kx → thr cd_X5_sells ET (Run fam0 none cd_X5_sells ER ET) 21 0 [some (vR 38 0), some (vI c), some (vI s), some (vI n), some (vI (partF μ c s))] μ kx
    rw [show w32 (n - (partF μ c s)) = n - (partF μ c s) from w32_id (by simp only [in32]; omega)]
    refine ⟨μ, ⟨rfl, show Wk μ ∧ (0 ≤ s ∧ s ≤ 3) ∧ (0 ≤ ((n - (partF μ c s))) ∧ ((n - (partF μ c s))) ≤ 500) from ⟨hW, by omega, by omega⟩⟩, fun ov μ' hq => ?_, fun k hk => hk.elim⟩
    obtain ⟨hov, hmu⟩ : ov = none ∧ μ' = callF μ c s (n - (partF μ c s)) := hq
    rw [hov, hmu]
    obtain ⟨hcW, hcl, hcp⟩ := callF_ok (src := c) (s := s) (many := (n - (partF μ c s))) (M := μ) (by omega) hW (by omega) (by omega)
    have hcP := hcW.2.1 (4 * c + s)
    show Run fam0 none cd_X5_sells ER ET 24 0 [some (vR 38 0), some (vI c), some (vI s), some (vI n), some (vI (partF μ c s))] [] (callF μ c s (n - (partF μ c s)))
    refine run_k 28 ?_
    show (0 ≤ (w32 ((w32 (4 * c)) + s)) ∧ (w32 ((w32 (4 * c)) + s)) < 24) ∧ ((0 ≤ (w32 ((w32 (4 * c)) + s)) ∧ (w32 ((w32 (4 * c)) + s)) < 24) ∧ ((0 ≤ c ∧ c < 6) ∧ ((0 ≤ s ∧ s < 4) ∧ ((0 ≤ c ∧ c < 6) ∧ (ER none (st (st (callF μ c s (n - (partF μ c s))) 42 0 (w32 ((w32 (4 * c)) + s)) (w32 (((callF μ c s (n - (partF μ c s))) 42 0 (w32 ((w32 (4 * c)) + s))) - n))) 41 0 c (w64 (((callF μ c s (n - (partF μ c s))) 41 0 c) + (w64 (n * ((callF μ c s (n - (partF μ c s))) 39 0 s)))))))))))
    rw [show w32 (4 * c) = 4 * c from w32_id (by simp only [in32]; omega)]
    rw [show w32 ((4 * c) + s) = (4 * c) + s from w32_id (by simp only [in32]; omega)]
    rw [show w32 (((callF μ c s (n - (partF μ c s))) 42 0 ((4 * c) + s)) - n) = ((callF μ c s (n - (partF μ c s))) 42 0 ((4 * c) + s)) - n from w32_id (by simp only [in32]; omega)]
    refine ⟨by omega, ?_⟩
    refine ⟨by omega, ?_⟩
    refine ⟨by omega, ?_⟩
    refine ⟨by omega, ?_⟩
    refine ⟨by omega, ?_⟩
    exact hER _ _ ⟨rfl, by unfold sellsF; first | (rw [if_pos (by omega)]; try rfl) | (rw [if_neg (by omega)]; try rfl)⟩
theorem vw_X5_161 : ∀ w ∈ ([.methodLink RX5 161 yX5_callBack, .instanceMethod yX5_callBack, .selects RX5 yX5_callBack yX5_callBack, .initialized RX5, .code yX5_callBack cX5_callBack 8 none] : List Cond), w ∈ wm := wm_ps _ [866, 868, 36, 55, 869] (by decide +kernel)
set_option maxRecDepth 20000 in
theorem con_X5_sells (l : Launch) (htr : l.stackTraces = false) (σ : Mm) : CON fam0 63 l yX5_sells (Cond.code yX5_sells cX5_sells 5 none :: wm) 5 126 0 (cl_X5_sells.2.2.1 σ) (cl_X5_sells.2.2.2.1 σ) (cl_X5_sells.2.2.2.2 σ) :=
  con_of (cd := cd_X5_sells) (own := RX5) (rk := 0) (sc_of htr (by decide) k_X5_sells_ok (by decide +kernel) co_X5_ok fl_X5_ok (all_cons ⟨RX5, yX5_partOf, cX5_partOf, 4, (some .int), 1, 24, 2, con_X5_partOf l htr, rfl, vw_X5_96, ⟨rfl, by decide, by decide, by decide +kernel⟩, ⟨by decide, by decide⟩, fun σ as μ h => ⟨38, 0, _, h.1, rfl, TX5, 31, rfl⟩⟩ (all_cons ⟨RX5, yX5_callBack, cX5_callBack, 8, none, 4, 99, 3, con_X5_callBack l htr, rfl, vw_X5_161, ⟨rfl, by decide, by decide, by decide +kernel⟩, ⟨by decide, by decide⟩, fun σ as μ h => ⟨38, 0, _, h.1, rfl, TX5, 31, rfl⟩⟩ all_nil)) all_nil all_nil) rfl (by decide +kernel) rfl rfl rfl rfl (fun as μ hs => by rw [hs.1]; exact Nat.le_of_ble_eq_true rfl)
    (fun as μ hs hM hrg => by
      have hs1 := hs.1
      have hmem : ∀ v, v ∈ ([vR 38 0, vI (iaI as 1), vI (iaI as 2), vI (iaI as 3)] : List AV) → rg fam0 v := by rw [← hs1]; exact hrg
      have key := run_X5_sells (ER := cl_X5_sells.2.2.2.1 σ as μ) (ET := fun k μ' => cl_X5_sells.2.2.2.2 σ as μ k ∧ μ' = μ) σ μ (iaI as 1) (iaI as 2) (iaI as 3) hM (hmem (vI (iaI as 1)) (by simp)) (hmem (vI (iaI as 2)) (by simp)) (hmem (vI (iaI as 3)) (by simp)) hs.2 (fun ov μ' h => h)
      have e : entL as 5 = [some (vR 38 0), some (vI (iaI as 1)), some (vI (iaI as 2)), some (vI (iaI as 3)), none] := by rw [hs1]; rfl
      rw [e]; exact key)
/-! ### PrimeborrowModel.closes -/
def cl_X5_closes : Cl := (3, 0, fun σ as μ => as = [vR 38 0, vI (iaI as 1), vI (iaI as 2)] ∧ (Wk μ ∧ (0 ≤ (iaI as 1) ∧ (iaI as 1) ≤ 5) ∧ (0 ≤ (iaI as 2) ∧ (iaI as 2) ≤ 3)), fun σ as μ ov μ' => ov = none ∧ μ' = closeF μ (iaI as 1) (iaI as 2), fun σ as μ k => False)
def cd_X5_closes : Cd := mkcd k_X5_closes co_X5 fl_X5 [(177, cl_X5_sells), (174, cl_X5_buys)] [] [] [] 4 0 0
set_option maxHeartbeats 4000000 in
set_option maxRecDepth 20000 in
theorem run_X5_closes {ER : Option AV → Mm → Prop} {ET : Nat → Mm → Prop} (σ μ : Mm) (c s : Int) (hM : MR fam0 μ) (h_c : in32 c) (h_s : in32 s) (hP : Wk μ ∧ (0 ≤ c ∧ c ≤ 5) ∧ (0 ≤ s ∧ s ≤ 3)) (hER : ∀ ov μ', (ov = none ∧ μ' = closeF μ c s) → ER ov μ') : Run fam0 none cd_X5_closes ER ET 0 0 [some (vR 38 0), some (vI c), some (vI s), none] [] μ := by
  obtain ⟨hW, hc, hs⟩ := hP
  have hLk := hW.1
  have hPk := hW.2.1
  have hGk := Gk_of hW.1 hW.2.2.2.2
  have h4 := I4_at hW.2.2.1 hc hs
  have h5 := I5_at hW.1 hW.2.2.2.1 hc hs
  have hp := hW.2.1 (4 * c + s) (by omega) (by omega)
  have hpt := part_at hW.1 hW.2.2.2.1 hc hs
  refine run_k 11 ?_
  show (0 ≤ (w32 ((w32 (4 * c)) + s)) ∧ (w32 ((w32 (4 * c)) + s)) < 24) ∧ (((μ 42 0 (w32 ((w32 (4 * c)) + s))) ≤ 0 → Run fam0 none cd_X5_closes ER ET 25 0 [some (vR 38 0), some (vI c), some (vI s), some (vI (μ 42 0 (w32 ((w32 (4 * c)) + s))))] [] μ) ∧ (0 < (μ 42 0 (w32 ((w32 (4 * c)) + s))) → Run fam0 none cd_X5_closes ER ET 15 0 [some (vR 38 0), some (vI c), some (vI s), some (vI (μ 42 0 (w32 ((w32 (4 * c)) + s))))] [] μ))
  rw [show w32 (4 * c) = 4 * c from w32_id (by simp only [in32]; omega)]
  rw [show w32 ((4 * c) + s) = (4 * c) + s from w32_id (by simp only [in32]; omega)]
  refine ⟨by omega, ?_⟩
  refine ⟨fun c1 => ?_, fun c1 => ?_⟩
  · refine run_k 2 ?_
    show (0 ≤ (μ 42 0 ((4 * c) + s)) → Run fam0 none cd_X5_closes ER ET 37 0 [some (vR 38 0), some (vI c), some (vI s), some (vI (μ 42 0 ((4 * c) + s)))] [] μ) ∧ ((μ 42 0 ((4 * c) + s)) < 0 → Run fam0 none cd_X5_closes ER ET 29 0 [some (vR 38 0), some (vI c), some (vI s), some (vI (μ 42 0 ((4 * c) + s)))] [] μ)
    refine ⟨fun c2 => ?_, fun c2 => ?_⟩
    · refine run_k 1 ?_
      show ER none μ
      exact hER _ _ ⟨rfl, by unfold closeF; first | rw [if_pos (by omega)] | (rw [if_neg (by omega)]; first | rw [if_pos (by omega)] | rw [if_neg (by omega)])⟩
    · refine run_k 6 ?_
      show ∃ σ : Mm, cl_X5_buys.2.2.1 σ [vR 38 0, vI c, vI s, vI (w32 (-(μ 42 0 ((4 * c) + s))))] μ ∧ (∀ ov μ', cl_X5_buys.2.2.2.1 σ [vR 38 0, vI c, vI s, vI (w32 (-(μ 42 0 ((4 * c) + s))))] μ ov μ' → Run fam0 none cd_X5_closes ER ET 37 0 [some (vR 38 0), some (vI c), some (vI s), some (vI (μ 42 0 ((4 * c) + s)))] (ov.toList ++ []) μ') ∧ ∀ kx, cl_X5_buys.2.2.2.2 σ [vR 38 0, vI c, vI s, vI (w32 (-(μ 42 0 ((4 * c) + s))))] μ kx → thr cd_X5_closes ET (Run fam0 none cd_X5_closes ER ET) 34 0 [some (vR 38 0), some (vI c), some (vI s), some (vI (μ 42 0 ((4 * c) + s)))] μ kx
      rw [show w32 (-(μ 42 0 ((4 * c) + s))) = -(μ 42 0 ((4 * c) + s)) from w32_id (by simp only [in32]; omega)]
      refine ⟨μ, ⟨rfl, show Wk μ ∧ (0 ≤ c ∧ c ≤ 5) ∧ (0 ≤ s ∧ s ≤ 3) ∧ (1 ≤ ((-(μ 42 0 ((4 * c) + s)))) ∧ ((-(μ 42 0 ((4 * c) + s)))) ≤ 500) ∧ μ 42 0 (4 * c + s) + ((-(μ 42 0 ((4 * c) + s)))) ≤ 500 from ⟨hW, by omega, by omega, by omega, by omega⟩⟩, fun ov μ' hq => ?_, fun k hk => hk.elim⟩
      obtain ⟨hov, hmu⟩ : ov = none ∧ μ' = buysF μ c s (-(μ 42 0 ((4 * c) + s))) := hq
      rw [hov, hmu]
      show Run fam0 none cd_X5_closes ER ET 37 0 [some (vR 38 0), some (vI c), some (vI s), some (vI (μ 42 0 ((4 * c) + s)))] [] (buysF μ c s (-(μ 42 0 ((4 * c) + s))))
      refine run_k 1 ?_
      show ER none (buysF μ c s (-(μ 42 0 ((4 * c) + s))))
      exact hER _ _ ⟨rfl, by unfold closeF; first | rw [if_pos (by omega)] | (rw [if_neg (by omega)]; first | rw [if_pos (by omega)] | rw [if_neg (by omega)])⟩
  · refine run_k 5 ?_
    show ∃ σ : Mm, cl_X5_sells.2.2.1 σ [vR 38 0, vI c, vI s, vI (μ 42 0 ((4 * c) + s))] μ ∧ (∀ ov μ', cl_X5_sells.2.2.2.1 σ [vR 38 0, vI c, vI s, vI (μ 42 0 ((4 * c) + s))] μ ov μ' → Run fam0 none cd_X5_closes ER ET 22 0 [some (vR 38 0), some (vI c), some (vI s), some (vI (μ 42 0 ((4 * c) + s)))] (ov.toList ++ []) μ') ∧ ∀ kx, cl_X5_sells.2.2.2.2 σ [vR 38 0, vI c, vI s, vI (μ 42 0 ((4 * c) + s))] μ kx → thr cd_X5_closes ET (Run fam0 none cd_X5_closes ER ET) 19 0 [some (vR 38 0), some (vI c), some (vI s), some (vI (μ 42 0 ((4 * c) + s)))] μ kx
    refine ⟨μ, ⟨rfl, show Wk μ ∧ (0 ≤ c ∧ c ≤ 5) ∧ (0 ≤ s ∧ s ≤ 3) ∧ (1 ≤ (μ 42 0 ((4 * c) + s)) ∧ (μ 42 0 ((4 * c) + s)) ≤ μ 42 0 (4 * c + s)) from ⟨hW, by omega, by omega, by omega⟩⟩, fun ov μ' hq => ?_, fun k hk => hk.elim⟩
    obtain ⟨hov, hmu⟩ : ov = none ∧ μ' = sellsF μ c s (μ 42 0 ((4 * c) + s)) := hq
    rw [hov, hmu]
    show Run fam0 none cd_X5_closes ER ET 22 0 [some (vR 38 0), some (vI c), some (vI s), some (vI (μ 42 0 ((4 * c) + s)))] [] (sellsF μ c s (μ 42 0 ((4 * c) + s)))
    refine run_k 2 ?_
    show ER none (sellsF μ c s (μ 42 0 ((4 * c) + s)))
    exact hER _ _ ⟨rfl, by unfold closeF; first | rw [if_pos (by omega)] | (rw [if_neg (by omega)]; first | rw [if_pos (by omega)] | rw [if_neg (by omega)])⟩
theorem vw_X5_174 : ∀ w ∈ ([.methodLink RX5 174 yX5_buys, .instanceMethod yX5_buys, .selects RX5 yX5_buys yX5_buys, .initialized RX5, .code yX5_buys cX5_buys 6 none] : List Cond), w ∈ wm := wm_ps _ [896, 898, 42, 55, 899] (by decide +kernel)
theorem vw_X5_177 : ∀ w ∈ ([.methodLink RX5 177 yX5_sells, .instanceMethod yX5_sells, .selects RX5 yX5_sells yX5_sells, .initialized RX5, .code yX5_sells cX5_sells 5 none] : List Cond), w ∈ wm := wm_ps _ [908, 910, 44, 55, 911] (by decide +kernel)
set_option maxRecDepth 20000 in
theorem con_X5_closes (l : Launch) (htr : l.stackTraces = false) (σ : Mm) : CON fam0 63 l yX5_closes (Cond.code yX5_closes cX5_closes 4 none :: wm) 6 150 0 (cl_X5_closes.2.2.1 σ) (cl_X5_closes.2.2.2.1 σ) (cl_X5_closes.2.2.2.2 σ) :=
  con_of (cd := cd_X5_closes) (own := RX5) (rk := 0) (sc_of htr (by decide) k_X5_closes_ok (by decide +kernel) co_X5_ok fl_X5_ok (all_cons ⟨RX5, yX5_sells, cX5_sells, 5, none, 5, 126, 3, con_X5_sells l htr, rfl, vw_X5_177, ⟨rfl, by decide, by decide, by decide +kernel⟩, ⟨by decide, by decide⟩, fun σ as μ h => ⟨38, 0, _, h.1, rfl, TX5, 31, rfl⟩⟩ (all_cons ⟨RX5, yX5_buys, cX5_buys, 6, none, 1, 27, 3, con_X5_buys l htr, rfl, vw_X5_174, ⟨rfl, by decide, by decide, by decide +kernel⟩, ⟨by decide, by decide⟩, fun σ as μ h => ⟨38, 0, _, h.1, rfl, TX5, 31, rfl⟩⟩ all_nil)) all_nil all_nil) rfl (by decide +kernel) rfl rfl rfl rfl (fun as μ hs => by rw [hs.1]; exact Nat.le_of_ble_eq_true rfl)
    (fun as μ hs hM hrg => by
      have hs1 := hs.1
      have hmem : ∀ v, v ∈ ([vR 38 0, vI (iaI as 1), vI (iaI as 2)] : List AV) → rg fam0 v := by rw [← hs1]; exact hrg
      have key := run_X5_closes (ER := cl_X5_closes.2.2.2.1 σ as μ) (ET := fun k μ' => cl_X5_closes.2.2.2.2 σ as μ k ∧ μ' = μ) σ μ (iaI as 1) (iaI as 2) hM (hmem (vI (iaI as 1)) (by simp)) (hmem (vI (iaI as 2)) (by simp)) hs.2 (fun ov μ' h => h)
      have e : entL as 4 = [some (vR 38 0), some (vI (iaI as 1)), some (vI (iaI as 2)), none] := by rw [hs1]; rfl
      rw [e]; exact key)
