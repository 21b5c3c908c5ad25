/-! ### PrimeborrowModel.lentFrom -/
def cl_X5_lentFrom : Cl := (3, 0, fun σ as μ => as = [vR 38 0, vI (iaI as 1), vI (iaI as 2)] ∧ (Lk μ), fun σ as μ ov μ' => ov = some (vI (lentF μ (iaI as 1) (iaI as 2))) ∧ μ' = μ, fun σ as μ k => False)
def cd_X5_lentFrom : Cd := mkcd k_X5_lentFrom co_X5 fl_X5 [] [] [] [] 5 1 0
set_option maxHeartbeats 4000000 in
set_option maxRecDepth 20000 in
theorem run_X5_lentFrom {ER : Option AV → Mm → Prop} {ET : Nat → Mm → Prop} (σ μ : Mm) (a s : Int) (hM : MR fam0 μ) (h_a : in32 a) (h_s : in32 s) (hP : Lk μ) (hER : ∀ ov μ', (ov = some (vI (lentF μ a s)) ∧ μ' = μ) → ER ov μ') : Run fam0 none cd_X5_lentFrom ER ET 0 0 [some (vR 38 0), some (vI a), some (vI s), none, none] [] μ := by
  refine run_k 4 ?_
  show Run fam0 none cd_X5_lentFrom ER ET 5 0 [some (vR 38 0), some (vI a), some (vI s), some (vI 0), some (vI 0)] [] μ
  have lp5 : ∀ (fz : Nat) (k : Nat) (x : Int), (μ 38 0 11 - (k : Int)).toNat < fz → ((k : Int) ≤ μ 38 0 11 ∧ x = lnF μ a s k) → Run fam0 none cd_X5_lentFrom ER ET 5 0 [some (vR 38 0), some (vI a), some (vI s), some (vI x), some (vI (k : Int))] [] μ := by
    intro fz
    induction fz with
    | zero => intro k x hf; omega
    | succ fz ih5 =>
      intro k x hf hI
      obtain ⟨hk1, hx2⟩ := hI
      have hx3 := lnF_rng hP a s hk1
      have hk2 := hP.1
      have hk3 := hP.2 k
      refine run_k 4 ?_
      show ((μ 38 0 11) ≤ (k : Int) → Run fam0 none cd_X5_lentFrom ER ET 56 0 [some (vR 38 0), some (vI a), some (vI s), some (vI x), some (vI (k : Int))] [] μ) ∧ ((k : Int) < (μ 38 0 11) → Run fam0 none cd_X5_lentFrom ER ET 14 0 [some (vR 38 0), some (vI a), some (vI s), some (vI x), some (vI (k : Int))] [] μ)
      refine ⟨fun c2 => ?_, fun c2 => ?_⟩
      · refine run_k 2 ?_
        show ER (some (vI x)) μ
        exact hER _ _ ⟨by rw [hx2, show k = (μ 38 0 11).toNat by omega]; rfl, rfl⟩
      · refine run_k 7 ?_
        show (0 ≤ (k : Int) ∧ (k : Int) < 1000) ∧ (((μ 49 0 (k : Int)) ≠ a → Run fam0 none cd_X5_lentFrom ER ET 47 0 [some (vR 38 0), some (vI a), some (vI s), some (vI x), some (vI (k : Int))] [vI x] μ) ∧ ((μ 49 0 (k : Int)) = a → Run fam0 none cd_X5_lentFrom ER ET 26 0 [some (vR 38 0), some (vI a), some (vI s), some (vI x), some (vI (k : Int))] [vI x] μ))
        refine ⟨by omega, ?_⟩
        refine ⟨fun c4 => ?_, fun c4 => ?_⟩
        · refine run_k 5 ?_
          show Run fam0 none cd_X5_lentFrom ER ET 5 0 [some (vR 38 0), some (vI a), some (vI s), some (vI (w32 (x + 0))), some (vI (w32 ((k : Int) + 1)))] [] μ
          rw [show w32 (x + 0) = x + 0 from w32_id (by simp only [in32]; omega)]
          rw [show w32 ((k : Int) + 1) = (k : Int) + 1 from w32_id (by simp only [in32]; omega)]
          exact ih5 (k + 1) (x + 0) (by omega) (⟨by omega, by rw [hx2]; show _ = lnF μ a s k + lnG μ a s k; unfold lnG; first | rw [if_pos (by omega)] | rw [if_neg (by omega)]⟩)
        · refine run_k 6 ?_
          show (0 ≤ (k : Int) ∧ (k : Int) < 1000) ∧ (((μ 48 0 (k : Int)) ≠ s → Run fam0 none cd_X5_lentFrom ER ET 47 0 [some (vR 38 0), some (vI a), some (vI s), some (vI x), some (vI (k : Int))] [vI x] μ) ∧ ((μ 48 0 (k : Int)) = s → Run fam0 none cd_X5_lentFrom ER ET 37 0 [some (vR 38 0), some (vI a), some (vI s), some (vI x), some (vI (k : Int))] [vI x] μ))
          refine ⟨by omega, ?_⟩
          refine ⟨fun c6 => ?_, fun c6 => ?_⟩
          · refine run_k 5 ?_
            show Run fam0 none cd_X5_lentFrom ER ET 5 0 [some (vR 38 0), some (vI a), some (vI s), some (vI (w32 (x + 0))), some (vI (w32 ((k : Int) + 1)))] [] μ
            rw [show w32 (x + 0) = x + 0 from w32_id (by simp only [in32]; omega)]
            rw [show w32 ((k : Int) + 1) = (k : Int) + 1 from w32_id (by simp only [in32]; omega)]
            exact ih5 (k + 1) (x + 0) (by omega) (⟨by omega, by rw [hx2]; show _ = lnF μ a s k + lnG μ a s k; unfold lnG; first | rw [if_pos (by omega)] | rw [if_neg (by omega)]⟩)
          · refine run_k 9 ?_
            show (0 ≤ (k : Int) ∧ (k : Int) < 1000) ∧ (Run fam0 none cd_X5_lentFrom ER ET 5 0 [some (vR 38 0), some (vI a), some (vI s), some (vI (w32 (x + (μ 51 0 (k : Int))))), some (vI (w32 ((k : Int) + 1)))] [] μ)
            rw [show w32 (x + (μ 51 0 (k : Int))) = x + (μ 51 0 (k : Int)) from w32_id (by simp only [in32]; omega)]
            rw [show w32 ((k : Int) + 1) = (k : Int) + 1 from w32_id (by simp only [in32]; omega)]
            refine ⟨by omega, ?_⟩
            exact ih5 (k + 1) (x + (μ 51 0 (k : Int))) (by omega) (⟨by omega, by rw [hx2]; show _ = lnF μ a s k + lnG μ a s k; unfold lnG; first | rw [if_pos (by omega)] | rw [if_neg (by omega)]⟩)
  exact lp5 _ 0 0 (Nat.lt_succ_self _) (⟨by have := hP.1; omega, rfl⟩)
set_option maxRecDepth 20000 in
theorem con_X5_lentFrom (l : Launch) (htr : l.stackTraces = false) (σ : Mm) : CON fam0 63 l yX5_lentFrom (Cond.code yX5_lentFrom cX5_lentFrom 5 (some .int) :: wm) 0 0 0 (cl_X5_lentFrom.2.2.1 σ) (cl_X5_lentFrom.2.2.2.1 σ) (cl_X5_lentFrom.2.2.2.2 σ) :=
  con_of (cd := cd_X5_lentFrom) (own := RX5) (rk := 1) (sc_of htr (by decide) k_X5_lentFrom_ok (by decide +kernel) co_X5_ok fl_X5_ok all_nil all_nil all_nil) rfl (by decide +kernel) rfl rfl rfl rfl (fun as μ hs => by rw [hs.1]; exact Nat.le_of_ble_eq_true rfl)
    (fun as μ hs hM hrg => by
      have hs1 := hs.1
      have hmem : ∀ v, v ∈ ([vR 38 0, vI (iaI as 1), vI (iaI as 2)] : List AV) → rg fam0 v := by rw [← hs1]; exact hrg
      have key := run_X5_lentFrom (ER := cl_X5_lentFrom.2.2.2.1 σ as μ) (ET := fun k μ' => cl_X5_lentFrom.2.2.2.2 σ as μ k ∧ μ' = μ) σ μ (iaI as 1) (iaI as 2) hM (hmem (vI (iaI as 1)) (by simp)) (hmem (vI (iaI as 2)) (by simp)) hs.2 (fun ov μ' h => h)
      have e : entL as 5 = [some (vR 38 0), some (vI (iaI as 1)), some (vI (iaI as 2)), none, none] := by rw [hs1]; rfl
      rw [e]; exact key)
/-! ### PrimeborrowModel.partOf -/
def cl_X5_partOf : Cl := (3, 0, fun σ as μ => as = [vR 38 0, vI (iaI as 1), vI (iaI as 2)] ∧ (Lk μ ∧ Pk μ ∧ (0 ≤ (iaI as 1) ∧ (iaI as 1) ≤ 5) ∧ (0 ≤ (iaI as 2) ∧ (iaI as 2) ≤ 3)), fun σ as μ ov μ' => ov = some (vI (partF μ (iaI as 1) (iaI as 2))) ∧ μ' = μ, fun σ as μ k => False)
def cd_X5_partOf : Cd := mkcd k_X5_partOf co_X5 fl_X5 [(92, cl_X5_lentFrom)] [] [] [] 4 1 0
set_option maxHeartbeats 4000000 in
set_option maxRecDepth 20000 in
theorem run_X5_partOf {ER : Option AV → Mm → Prop} {ET : Nat → Mm → Prop} (σ μ : Mm) (c s : Int) (hM : MR fam0 μ) (h_c : in32 c) (h_s : in32 s) (hP : Lk μ ∧ Pk μ ∧ (0 ≤ c ∧ c ≤ 5) ∧ (0 ≤ s ∧ s ≤ 3)) (hER : ∀ ov μ', (ov = some (vI (partF μ c s)) ∧ μ' = μ) → ER ov μ') : Run fam0 none cd_X5_partOf ER ET 0 0 [some (vR 38 0), some (vI c), some (vI s), none] [] μ := by
  obtain ⟨hLk, hPk, hc, hs⟩ := hP
  have hp := hPk (4 * c + s) (by omega) (by omega)
  have hl := lentF_rng hLk c s
  refine run_k 11 ?_
  show (0 ≤ (w32 ((w32 (4 * c)) + s)) ∧ (w32 ((w32 (4 * c)) + s)) < 24) ∧ (((μ 42 0 (w32 ((w32 (4 * c)) + s))) ≤ 0 → Run fam0 none cd_X5_partOf ER ET 26 0 [some (vR 38 0), some (vI c), some (vI s), some (vI (μ 42 0 (w32 ((w32 (4 * c)) + s))))] [] μ) ∧ (0 < (μ 42 0 (w32 ((w32 (4 * c)) + s))) → Run fam0 none cd_X5_partOf ER ET 15 0 [some (vR 38 0), some (vI c), some (vI s), some (vI (μ 42 0 (w32 ((w32 (4 * c)) + s))))] [] μ))
  rw [show w32 (4 * c) = 4 * c from w32_id (by simp only [in32]; omega)]
  rw [show w32 ((4 * c) + s) = (4 * c) + s from w32_id (by simp only [in32]; omega)]
  refine ⟨by omega, ?_⟩
  refine ⟨fun c1 => ?_, fun c1 => ?_⟩
  · refine run_k 2 ?_
    show ER (some (vI 0)) μ
    exact hER _ _ ⟨by unfold partF; first | rw [if_pos (by omega)] | rw [if_neg (by omega)], rfl⟩
  · refine run_k 5 ?_
    show ∃ σ : Mm, cl_X5_lentFrom.2.2.1 σ [vR 38 0, vI c, vI s] μ ∧ (∀ ov μ', cl_X5_lentFrom.2.2.2.1 σ [vR 38 0, vI c, vI s] μ ov μ' → Run fam0 none cd_X5_partOf ER ET 22 0 [some (vR 38 0), some (vI c), some (vI s), some (vI (μ 42 0 ((4 * c) + s)))] (ov.toList ++ [vI (μ 42 0 ((4 * c) + s))]) μ') ∧ ∀ k, cl_X5_lentFrom.2.2.2.2 σ [vR 38 0, vI c, vI s] μ k → thr cd_X5_partOf ET (Run fam0 none cd_X5_partOf ER ET) 19 0 [some (vR 38 0), some (vI c), some (vI s), some (vI (μ 42 0 ((4 * c) + s)))] μ k
    refine ⟨μ, ⟨rfl, show Lk μ from hLk⟩, fun ov μ' hq => ?_, fun k hk => hk.elim⟩
    obtain ⟨hov, hmu⟩ : ov = some (vI (lentF μ c s)) ∧ μ' = μ := hq
    rw [hov, hmu]
    show Run fam0 none cd_X5_partOf ER ET 22 0 [some (vR 38 0), some (vI c), some (vI s), some (vI (μ 42 0 ((4 * c) + s)))] [vI (lentF μ c s), vI (μ 42 0 ((4 * c) + s))] μ
    refine run_k 3 ?_
    show ER (some (vI (w32 ((μ 42 0 ((4 * c) + s)) - (lentF μ c s))))) μ
    rw [show w32 ((μ 42 0 ((4 * c) + s)) - (lentF μ c s)) = (μ 42 0 ((4 * c) + s)) - (lentF μ c s) from w32_id (by simp only [in32]; omega)]
    exact hER _ _ ⟨by unfold partF; first | rw [if_pos (by omega)] | rw [if_neg (by omega)], rfl⟩
theorem vw_X5_92 : ∀ w ∈ ([.methodLink RX5 92 yX5_lentFrom, .instanceMethod yX5_lentFrom, .selects RX5 yX5_lentFrom yX5_lentFrom, .initialized RX5, .code yX5_lentFrom cX5_lentFrom 5 (some .int)] : List Cond), w ∈ wm := wm_ps _ [853, 855, 34, 55, 856] (by decide +kernel)
set_option maxRecDepth 20000 in
theorem con_X5_partOf (l : Launch) (htr : l.stackTraces = false) (σ : Mm) : CON fam0 63 l yX5_partOf (Cond.code yX5_partOf cX5_partOf 4 (some .int) :: wm) 1 24 0 (cl_X5_partOf.2.2.1 σ) (cl_X5_partOf.2.2.2.1 σ) (cl_X5_partOf.2.2.2.2 σ) :=
  con_of (cd := cd_X5_partOf) (own := RX5) (rk := 1) (sc_of htr (by decide) k_X5_partOf_ok (by decide +kernel) co_X5_ok fl_X5_ok (all_cons ⟨RX5, yX5_lentFrom, cX5_lentFrom, 5, (some .int), 0, 0, 2, con_X5_lentFrom l htr, rfl, vw_X5_92, ⟨rfl, by decide, by decide, by decide +kernel⟩, ⟨by decide, by decide⟩, fun σ as μ h => ⟨38, 0, _, h.1, rfl, TX5, 31, rfl⟩⟩ all_nil) all_nil all_nil) rfl (by decide +kernel) rfl rfl rfl rfl (fun as μ hs => by rw [hs.1]; exact Nat.le_of_ble_eq_true rfl)
    (fun as μ hs hM hrg => by
      have hs1 := hs.1
      have hmem : ∀ v, v ∈ ([vR 38 0, vI (iaI as 1), vI (iaI as 2)] : List AV) → rg fam0 v := by rw [← hs1]; exact hrg
      have key := run_X5_partOf (ER := cl_X5_partOf.2.2.2.1 σ as μ) (ET := fun k μ' => cl_X5_partOf.2.2.2.2 σ as μ k ∧ μ' = μ) σ μ (iaI as 1) (iaI as 2) hM (hmem (vI (iaI as 1)) (by simp)) (hmem (vI (iaI as 2)) (by simp)) hs.2 (fun ov μ' h => h)
      have e : entL as 4 = [some (vR 38 0), some (vI (iaI as 1)), some (vI (iaI as 2)), none] := by rw [hs1]; rfl
      rw [e]; exact key)
/-! ### PrimeborrowModel.nextLender -/
def cl_X5_nextLender : Cl := (3, 0, fun σ as μ => as = [vR 38 0, vI (iaI as 1), vI (iaI as 2)] ∧ ((-1 ≤ (iaI as 1) ∧ (iaI as 1) ≤ 3) ∧ (0 ≤ (iaI as 2) ∧ (iaI as 2) ≤ 3)), fun σ as μ ov μ' => ov = some (vI (nlF μ (iaI as 2) (iaI as 1))) ∧ μ' = μ, fun σ as μ k => False)
def cd_X5_nextLender : Cd := mkcd k_X5_nextLender co_X5 fl_X5 [] [] [] [] 7 1 0
set_option maxHeartbeats 4000000 in
set_option maxRecDepth 20000 in
theorem run_X5_nextLender {ER : Option AV → Mm → Prop} {ET : Nat → Mm → Prop} (σ μ : Mm) (last s : Int) (hM : MR fam0 μ) (h_last : in32 last) (h_s : in32 s) (hP : (-1 ≤ last ∧ last ≤ 3) ∧ (0 ≤ s ∧ s ≤ 3)) (hER : ∀ ov μ', (ov = some (vI (nlF μ s last)) ∧ μ' = μ) → ER ov μ') : Run fam0 none cd_X5_nextLender ER ET 0 0 [some (vR 38 0), some (vI last), some (vI s), none, none, none, none] [] μ := by
  refine run_k 4 ?_
  show Run fam0 none cd_X5_nextLender ER ET 5 0 [some (vR 38 0), some (vI last), some (vI s), some (vI (-1)), some (vI 0), none, none] [] μ
  have lp5 : ∀ (fz : Nat) (k : Nat) (x : Int), (4 - (k : Int)).toNat < fz → ((k : Int) ≤ 4 ∧ x = nlS μ s last k) → Run fam0 none cd_X5_nextLender ER ET 5 0 [some (vR 38 0), some (vI last), some (vI s), some (vI x), some (vI (k : Int)), none, none] [] μ := by
    intro fz
    induction fz with
    | zero => intro k x hf; omega
    | succ fz ih5 =>
      intro k x hf hI
      obtain ⟨hk1, hx2⟩ := hI
      have hx3 := nlS_rng μ s last k
      rw [← hx2] at hx3
      refine run_k 3 ?_
      show (4 ≤ (k : Int) → Run fam0 none cd_X5_nextLender ER ET 110 0 [some (vR 38 0), some (vI last), some (vI s), some (vI x), some (vI (k : Int)), none, none] [] μ) ∧ ((k : Int) < 4 → Run fam0 none cd_X5_nextLender ER ET 11 0 [some (vR 38 0), some (vI last), some (vI s), some (vI x), some (vI (k : Int)), none, none] [] μ)
      refine ⟨fun c2 => ?_, fun c2 => ?_⟩
      · refine run_k 2 ?_
        show ER (some (vI x)) μ
        exact hER _ _ ⟨by rw [hx2, show k = 4 by omega]; rfl, rfl⟩
      · refine run_k 12 ?_
        show (0 ≤ (w32 ((w32 (4 * (k : Int))) + s)) ∧ (w32 ((w32 (4 * (k : Int))) + s)) < 16) ∧ ((last = (-1) → Run fam0 none cd_X5_nextLender ER ET 65 0 [some (vR 38 0), some (vI last), some (vI s), some (vI x), some (vI (k : Int)), some (vI (μ 46 0 (w32 ((w32 (4 * (k : Int))) + s)))), none] [] μ) ∧ (last ≠ (-1) → Run fam0 none cd_X5_nextLender ER ET 29 0 [some (vR 38 0), some (vI last), some (vI s), some (vI x), some (vI (k : Int)), some (vI (μ 46 0 (w32 ((w32 (4 * (k : Int))) + s)))), none] [] μ))
        rw [show w32 (4 * (k : Int)) = 4 * (k : Int) from w32_id (by simp only [in32]; omega)]
        rw [show w32 ((4 * (k : Int)) + s) = (4 * (k : Int)) + s from w32_id (by simp only [in32]; omega)]
        refine ⟨by omega, ?_⟩
        refine ⟨fun c4 => ?_, fun c4 => ?_⟩
        · refine run_k 5 ?_
          show (1 = 0 → Run fam0 none cd_X5_nextLender ER ET 102 0 [some (vR 38 0), some (vI last), some (vI s), some (vI x), some (vI (k : Int)), some (vI (μ 46 0 ((4 * (k : Int)) + s))), some (vI 1)] [] μ) ∧ (1 ≠ 0 → Run fam0 none cd_X5_nextLender ER ET 77 0 [some (vR 38 0), some (vI last), some (vI s), some (vI x), some (vI (k : Int)), some (vI (μ 46 0 ((4 * (k : Int)) + s))), some (vI 1)] [] μ)
          refine ⟨fun c5 => absurd c5 (by decide), fun c5 => ?_⟩
          refine run_k 3 ?_
          show (x = (-1) → Run fam0 none cd_X5_nextLender ER ET 97 0 [some (vR 38 0), some (vI last), some (vI s), some (vI x), some (vI (k : Int)), some (vI (μ 46 0 ((4 * (k : Int)) + s))), some (vI 1)] [] μ) ∧ (x ≠ (-1) → Run fam0 none cd_X5_nextLender ER ET 82 0 [some (vR 38 0), some (vI last), some (vI s), some (vI x), some (vI (k : Int)), some (vI (μ 46 0 ((4 * (k : Int)) + s))), some (vI 1)] [] μ)
          refine ⟨fun c6 => ?_, fun c6 => ?_⟩
          · refine run_k 5 ?_
            show Run fam0 none cd_X5_nextLender ER ET 5 0 [some (vR 38 0), some (vI last), some (vI s), some (vI (k : Int)), some (vI (w32 ((k : Int) + 1))), some (vI (μ 46 0 ((4 * (k : Int)) + s))), some (vI 1)] [] μ
            rw [show w32 ((k : Int) + 1) = (k : Int) + 1 from w32_id (by simp only [in32]; omega)]
            refine run_w (L' := [some (vR 38 0), some (vI last), some (vI s), some (vI (k : Int)), some (vI ((k : Int) + 1)), none, none]) ⟨rfl, rfl, rfl, rfl, rfl, True.intro⟩ ?_
            exact ih5 (k + 1) (k : Int) (by omega) (⟨by omega, by unfold nlS; rw [← hx2]; first | rw [if_pos (by omega)] | rw [if_neg (by omega)]⟩)
          · refine run_k 10 ?_
            show (0 ≤ (w32 ((w32 (4 * x)) + s)) ∧ (w32 ((w32 (4 * x)) + s)) < 16) ∧ (((μ 46 0 (w32 ((w32 (4 * x)) + s))) ≤ (μ 46 0 ((4 * (k : Int)) + s)) → Run fam0 none cd_X5_nextLender ER ET 102 0 [some (vR 38 0), some (vI last), some (vI s), some (vI x), some (vI (k : Int)), some (vI (μ 46 0 ((4 * (k : Int)) + s))), some (vI 1)] [] μ) ∧ ((μ 46 0 ((4 * (k : Int)) + s)) < (μ 46 0 (w32 ((w32 (4 * x)) + s))) → Run fam0 none cd_X5_nextLender ER ET 97 0 [some (vR 38 0), some (vI last), some (vI s), some (vI x), some (vI (k : Int)), some (vI (μ 46 0 ((4 * (k : Int)) + s))), some (vI 1)] [] μ))
            rw [show w32 (4 * x) = 4 * x from w32_id (by simp only [in32]; omega)]
            rw [show w32 ((4 * x) + s) = (4 * x) + s from w32_id (by simp only [in32]; omega)]
            refine ⟨by omega, ?_⟩
            refine ⟨fun c8 => ?_, fun c8 => ?_⟩
            · refine run_k 4 ?_
              show Run fam0 none cd_X5_nextLender ER ET 5 0 [some (vR 38 0), some (vI last), some (vI s), some (vI x), some (vI (w32 ((k : Int) + 1))), some (vI (μ 46 0 ((4 * (k : Int)) + s))), some (vI 1)] [] μ
              rw [show w32 ((k : Int) + 1) = (k : Int) + 1 from w32_id (by simp only [in32]; omega)]
              refine run_w (L' := [some (vR 38 0), some (vI last), some (vI s), some (vI x), some (vI ((k : Int) + 1)), none, none]) ⟨rfl, rfl, rfl, rfl, rfl, True.intro⟩ ?_
              exact ih5 (k + 1) x (by omega) (⟨by omega, by unfold nlS; rw [← hx2]; first | rw [if_pos (by omega)] | rw [if_neg (by omega)]⟩)
            · refine run_k 5 ?_
              show Run fam0 none cd_X5_nextLender ER ET 5 0 [some (vR 38 0), some (vI last), some (vI s), some (vI (k : Int)), some (vI (w32 ((k : Int) + 1))), some (vI (μ 46 0 ((4 * (k : Int)) + s))), some (vI 1)] [] μ
              rw [show w32 ((k : Int) + 1) = (k : Int) + 1 from w32_id (by simp only [in32]; omega)]
              refine run_w (L' := [some (vR 38 0), some (vI last), some (vI s), some (vI (k : Int)), some (vI ((k : Int) + 1)), none, none]) ⟨rfl, rfl, rfl, rfl, rfl, True.intro⟩ ?_
              exact ih5 (k + 1) (k : Int) (by omega) (⟨by omega, by unfold nlS; rw [← hx2]; first | rw [if_pos (by omega)] | rw [if_neg (by omega)]⟩)
        · refine run_k 10 ?_
          show (0 ≤ (w32 ((w32 (4 * last)) + s)) ∧ (w32 ((w32 (4 * last)) + s)) < 16) ∧ (((μ 46 0 (w32 ((w32 (4 * last)) + s))) < (μ 46 0 ((4 * (k : Int)) + s)) → Run fam0 none cd_X5_nextLender ER ET 65 0 [some (vR 38 0), some (vI last), some (vI s), some (vI x), some (vI (k : Int)), some (vI (μ 46 0 ((4 * (k : Int)) + s))), none] [] μ) ∧ ((μ 46 0 ((4 * (k : Int)) + s)) ≤ (μ 46 0 (w32 ((w32 (4 * last)) + s))) → Run fam0 none cd_X5_nextLender ER ET 44 0 [some (vR 38 0), some (vI last), some (vI s), some (vI x), some (vI (k : Int)), some (vI (μ 46 0 ((4 * (k : Int)) + s))), none] [] μ))
          rw [show w32 (4 * last) = 4 * last from w32_id (by simp only [in32]; omega)]
          rw [show w32 ((4 * last) + s) = (4 * last) + s from w32_id (by simp only [in32]; omega)]
          refine ⟨by omega, ?_⟩
          refine ⟨fun c11 => ?_, fun c11 => ?_⟩
          · refine run_k 5 ?_
            show (1 = 0 → Run fam0 none cd_X5_nextLender ER ET 102 0 [some (vR 38 0), some (vI last), some (vI s), some (vI x), some (vI (k : Int)), some (vI (μ 46 0 ((4 * (k : Int)) + s))), some (vI 1)] [] μ) ∧ (1 ≠ 0 → Run fam0 none cd_X5_nextLender ER ET 77 0 [some (vR 38 0), some (vI last), some (vI s), some (vI x), some (vI (k : Int)), some (vI (μ 46 0 ((4 * (k : Int)) + s))), some (vI 1)] [] μ)
            refine ⟨fun c12 => absurd c12 (by decide), fun c12 => ?_⟩
            refine run_k 3 ?_
            show (x = (-1) → Run fam0 none cd_X5_nextLender ER ET 97 0 [some (vR 38 0), some (vI last), some (vI s), some (vI x), some (vI (k : Int)), some (vI (μ 46 0 ((4 * (k : Int)) + s))), some (vI 1)] [] μ) ∧ (x ≠ (-1) → Run fam0 none cd_X5_nextLender ER ET 82 0 [some (vR 38 0), some (vI last), some (vI s), some (vI x), some (vI (k : Int)), some (vI (μ 46 0 ((4 * (k : Int)) + s))), some (vI 1)] [] μ)
            refine ⟨fun c13 => ?_, fun c13 => ?_⟩
            · refine run_k 5 ?_
              show Run fam0 none cd_X5_nextLender ER ET 5 0 [some (vR 38 0), some (vI last), some (vI s), some (vI (k : Int)), some (vI (w32 ((k : Int) + 1))), some (vI (μ 46 0 ((4 * (k : Int)) + s))), some (vI 1)] [] μ
              rw [show w32 ((k : Int) + 1) = (k : Int) + 1 from w32_id (by simp only [in32]; omega)]
              refine run_w (L' := [some (vR 38 0), some (vI last), some (vI s), some (vI (k : Int)), some (vI ((k : Int) + 1)), none, none]) ⟨rfl, rfl, rfl, rfl, rfl, True.intro⟩ ?_
              exact ih5 (k + 1) (k : Int) (by omega) (⟨by omega, by unfold nlS; rw [← hx2]; first | rw [if_pos (by omega)] | rw [if_neg (by omega)]⟩)
            · refine run_k 10 ?_
              show (0 ≤ (w32 ((w32 (4 * x)) + s)) ∧ (w32 ((w32 (4 * x)) + s)) < 16) ∧ (((μ 46 0 (w32 ((w32 (4 * x)) + s))) ≤ (μ 46 0 ((4 * (k : Int)) + s)) → Run fam0 none cd_X5_nextLender ER ET 102 0 [some (vR 38 0), some (vI last), some (vI s), some (vI x), some (vI (k : Int)), some (vI (μ 46 0 ((4 * (k : Int)) + s))), some (vI 1)] [] μ) ∧ ((μ 46 0 ((4 * (k : Int)) + s)) < (μ 46 0 (w32 ((w32 (4 * x)) + s))) → Run fam0 none cd_X5_nextLender ER ET 97 0 [some (vR 38 0), some (vI last), some (vI s), some (vI x), some (vI (k : Int)), some (vI (μ 46 0 ((4 * (k : Int)) + s))), some (vI 1)] [] μ))
              rw [show w32 (4 * x) = 4 * x from w32_id (by simp only [in32]; omega)]
              rw [show w32 ((4 * x) + s) = (4 * x) + s from w32_id (by simp only [in32]; omega)]
              refine ⟨by omega, ?_⟩
              refine ⟨fun c15 => ?_, fun c15 => ?_⟩
              · refine run_k 4 ?_
                show Run fam0 none cd_X5_nextLender ER ET 5 0 [some (vR 38 0), some (vI last), some (vI s), some (vI x), some (vI (w32 ((k : Int) + 1))), some (vI (μ 46 0 ((4 * (k : Int)) + s))), some (vI 1)] [] μ
                rw [show w32 ((k : Int) + 1) = (k : Int) + 1 from w32_id (by simp only [in32]; omega)]
                refine run_w (L' := [some (vR 38 0), some (vI last), some (vI s), some (vI x), some (vI ((k : Int) + 1)), none, none]) ⟨rfl, rfl, rfl, rfl, rfl, True.intro⟩ ?_
                exact ih5 (k + 1) x (by omega) (⟨by omega, by unfold nlS; rw [← hx2]; first | rw [if_pos (by omega)] | rw [if_neg (by omega)]⟩)
              · refine run_k 5 ?_
                show Run fam0 none cd_X5_nextLender ER ET 5 0 [some (vR 38 0), some (vI last), some (vI s), some (vI (k : Int)), some (vI (w32 ((k : Int) + 1))), some (vI (μ 46 0 ((4 * (k : Int)) + s))), some (vI 1)] [] μ
                rw [show w32 ((k : Int) + 1) = (k : Int) + 1 from w32_id (by simp only [in32]; omega)]
                refine run_w (L' := [some (vR 38 0), some (vI last), some (vI s), some (vI (k : Int)), some (vI ((k : Int) + 1)), none, none]) ⟨rfl, rfl, rfl, rfl, rfl, True.intro⟩ ?_
                exact ih5 (k + 1) (k : Int) (by omega) (⟨by omega, by unfold nlS; rw [← hx2]; first | rw [if_pos (by omega)] | rw [if_neg (by omega)]⟩)
          · refine run_k 10 ?_
            show (0 ≤ (w32 ((w32 (4 * last)) + s)) ∧ (w32 ((w32 (4 * last)) + s)) < 16) ∧ (((μ 46 0 ((4 * (k : Int)) + s)) ≠ (μ 46 0 (w32 ((w32 (4 * last)) + s))) → Run fam0 none cd_X5_nextLender ER ET 69 0 [some (vR 38 0), some (vI last), some (vI s), some (vI x), some (vI (k : Int)), some (vI (μ 46 0 ((4 * (k : Int)) + s))), none] [] μ) ∧ ((μ 46 0 ((4 * (k : Int)) + s)) = (μ 46 0 (w32 ((w32 (4 * last)) + s))) → Run fam0 none cd_X5_nextLender ER ET 59 0 [some (vR 38 0), some (vI last), some (vI s), some (vI x), some (vI (k : Int)), some (vI (μ 46 0 ((4 * (k : Int)) + s))), none] [] μ))
            rw [show w32 (4 * last) = 4 * last from w32_id (by simp only [in32]; omega)]
            rw [show w32 ((4 * last) + s) = (4 * last) + s from w32_id (by simp only [in32]; omega)]
            refine ⟨by omega, ?_⟩
            refine ⟨fun c18 => ?_, fun c18 => ?_⟩
            · refine run_k 4 ?_
              show (0 = 0 → Run fam0 none cd_X5_nextLender ER ET 102 0 [some (vR 38 0), some (vI last), some (vI s), some (vI x), some (vI (k : Int)), some (vI (μ 46 0 ((4 * (k : Int)) + s))), some (vI 0)] [] μ) ∧ (0 ≠ 0 → Run fam0 none cd_X5_nextLender ER ET 77 0 [some (vR 38 0), some (vI last), some (vI s), some (vI x), some (vI (k : Int)), some (vI (μ 46 0 ((4 * (k : Int)) + s))), some (vI 0)] [] μ)
              refine ⟨fun c19 => ?_, fun c19 => absurd c19 (by decide)⟩
              refine run_k 4 ?_
              show Run fam0 none cd_X5_nextLender ER ET 5 0 [some (vR 38 0), some (vI last), some (vI s), some (vI x), some (vI (w32 ((k : Int) + 1))), some (vI (μ 46 0 ((4 * (k : Int)) + s))), some (vI 0)] [] μ
              rw [show w32 ((k : Int) + 1) = (k : Int) + 1 from w32_id (by simp only [in32]; omega)]
              refine run_w (L' := [some (vR 38 0), some (vI last), some (vI s), some (vI x), some (vI ((k : Int) + 1)), none, none]) ⟨rfl, rfl, rfl, rfl, rfl, True.intro⟩ ?_
              exact ih5 (k + 1) x (by omega) (⟨by omega, by unfold nlS; rw [← hx2]; first | rw [if_pos (by omega)] | rw [if_neg (by omega)]⟩)
            · refine run_k 3 ?_
              show ((k : Int) ≤ last → Run fam0 none cd_X5_nextLender ER ET 69 0 [some (vR 38 0), some (vI last), some (vI s), some (vI x), some (vI (k : Int)), some (vI (μ 46 0 ((4 * (k : Int)) + s))), none] [] μ) ∧ (last < (k : Int) → Run fam0 none cd_X5_nextLender ER ET 65 0 [some (vR 38 0), some (vI last), some (vI s), some (vI x), some (vI (k : Int)), some (vI (μ 46 0 ((4 * (k : Int)) + s))), none] [] μ)
              refine ⟨fun c21 => ?_, fun c21 => ?_⟩
              · refine run_k 4 ?_
                show (0 = 0 → Run fam0 none cd_X5_nextLender ER ET 102 0 [some (vR 38 0), some (vI last), some (vI s), some (vI x), some (vI (k : Int)), some (vI (μ 46 0 ((4 * (k : Int)) + s))), some (vI 0)] [] μ) ∧ (0 ≠ 0 → Run fam0 none cd_X5_nextLender ER ET 77 0 [some (vR 38 0), some (vI last), some (vI s), some (vI x), some (vI (k : Int)), some (vI (μ 46 0 ((4 * (k : Int)) + s))), some (vI 0)] [] μ)
                refine ⟨fun c22 => ?_, fun c22 => absurd c22 (by decide)⟩
                refine run_k 4 ?_
                show Run fam0 none cd_X5_nextLender ER ET 5 0 [some (vR 38 0), some (vI last), some (vI s), some (vI x), some (vI (w32 ((k : Int) + 1))), some (vI (μ 46 0 ((4 * (k : Int)) + s))), some (vI 0)] [] μ
                rw [show w32 ((k : Int) + 1) = (k : Int) + 1 from w32_id (by simp only [in32]; omega)]
                refine run_w (L' := [some (vR 38 0), some (vI last), some (vI s), some (vI x), some (vI ((k : Int) + 1)), none, none]) ⟨rfl, rfl, rfl, rfl, rfl, True.intro⟩ ?_
                exact ih5 (k + 1) x (by omega) (⟨by omega, by unfold nlS; rw [← hx2]; first | rw [if_pos (by omega)] | rw [if_neg (by omega)]⟩)
              · refine run_k 5 ?_
                show (1 = 0 → Run fam0 none cd_X5_nextLender ER ET 102 0 [some (vR 38 0), some (vI last), some (vI s), some (vI x), some (vI (k : Int)), some (vI (μ 46 0 ((4 * (k : Int)) + s))), some (vI 1)] [] μ) ∧ (1 ≠ 0 → Run fam0 none cd_X5_nextLender ER ET 77 0 [some (vR 38 0), some (vI last), some (vI s), some (vI x), some (vI (k : Int)), some (vI (μ 46 0 ((4 * (k : Int)) + s))), some (vI 1)] [] μ)
                refine ⟨fun c24 => absurd c24 (by decide), fun c24 => ?_⟩
                refine run_k 3 ?_
                show (x = (-1) → Run fam0 none cd_X5_nextLender ER ET 97 0 [some (vR 38 0), some (vI last), some (vI s), some (vI x), some (vI (k : Int)), some (vI (μ 46 0 ((4 * (k : Int)) + s))), some (vI 1)] [] μ) ∧ (x ≠ (-1) → Run fam0 none cd_X5_nextLender ER ET 82 0 [some (vR 38 0), some (vI last), some (vI s), some (vI x), some (vI (k : Int)), some (vI (μ 46 0 ((4 * (k : Int)) + s))), some (vI 1)] [] μ)
                refine ⟨fun c25 => ?_, fun c25 => ?_⟩
                · refine run_k 5 ?_
                  show Run fam0 none cd_X5_nextLender ER ET 5 0 [some (vR 38 0), some (vI last), some (vI s), some (vI (k : Int)), some (vI (w32 ((k : Int) + 1))), some (vI (μ 46 0 ((4 * (k : Int)) + s))), some (vI 1)] [] μ
                  rw [show w32 ((k : Int) + 1) = (k : Int) + 1 from w32_id (by simp only [in32]; omega)]
                  refine run_w (L' := [some (vR 38 0), some (vI last), some (vI s), some (vI (k : Int)), some (vI ((k : Int) + 1)), none, none]) ⟨rfl, rfl, rfl, rfl, rfl, True.intro⟩ ?_
                  exact ih5 (k + 1) (k : Int) (by omega) (⟨by omega, by unfold nlS; rw [← hx2]; first | rw [if_pos (by omega)] | rw [if_neg (by omega)]⟩)
                · refine run_k 10 ?_
                  show (0 ≤ (w32 ((w32 (4 * x)) + s)) ∧ (w32 ((w32 (4 * x)) + s)) < 16) ∧ (((μ 46 0 (w32 ((w32 (4 * x)) + s))) ≤ (μ 46 0 ((4 * (k : Int)) + s)) → Run fam0 none cd_X5_nextLender ER ET 102 0 [some (vR 38 0), some (vI last), some (vI s), some (vI x), some (vI (k : Int)), some (vI (μ 46 0 ((4 * (k : Int)) + s))), some (vI 1)] [] μ) ∧ ((μ 46 0 ((4 * (k : Int)) + s)) < (μ 46 0 (w32 ((w32 (4 * x)) + s))) → Run fam0 none cd_X5_nextLender ER ET 97 0 [some (vR 38 0), some (vI last), some (vI s), some (vI x), some (vI (k : Int)), some (vI (μ 46 0 ((4 * (k : Int)) + s))), some (vI 1)] [] μ))
                  rw [show w32 (4 * x) = 4 * x from w32_id (by simp only [in32]; omega)]
                  rw [show w32 ((4 * x) + s) = (4 * x) + s from w32_id (by simp only [in32]; omega)]
                  refine ⟨by omega, ?_⟩
                  refine ⟨fun c27 => ?_, fun c27 => ?_⟩
                  · refine run_k 4 ?_
                    show Run fam0 none cd_X5_nextLender ER ET 5 0 [some (vR 38 0), some (vI last), some (vI s), some (vI x), some (vI (w32 ((k : Int) + 1))), some (vI (μ 46 0 ((4 * (k : Int)) + s))), some (vI 1)] [] μ
                    rw [show w32 ((k : Int) + 1) = (k : Int) + 1 from w32_id (by simp only [in32]; omega)]
                    refine run_w (L' := [some (vR 38 0), some (vI last), some (vI s), some (vI x), some (vI ((k : Int) + 1)), none, none]) ⟨rfl, rfl, rfl, rfl, rfl, True.intro⟩ ?_
                    exact ih5 (k + 1) x (by omega) (⟨by omega, by unfold nlS; rw [← hx2]; first | rw [if_pos (by omega)] | rw [if_neg (by omega)]⟩)
                  · refine run_k 5 ?_
                    show Run fam0 none cd_X5_nextLender ER ET 5 0 [some (vR 38 0), some (vI last), some (vI s), some (vI (k : Int)), some (vI (w32 ((k : Int) + 1))), some (vI (μ 46 0 ((4 * (k : Int)) + s))), some (vI 1)] [] μ
                    rw [show w32 ((k : Int) + 1) = (k : Int) + 1 from w32_id (by simp only [in32]; omega)]
                    refine run_w (L' := [some (vR 38 0), some (vI last), some (vI s), some (vI (k : Int)), some (vI ((k : Int) + 1)), none, none]) ⟨rfl, rfl, rfl, rfl, rfl, True.intro⟩ ?_
                    exact ih5 (k + 1) (k : Int) (by omega) (⟨by omega, by unfold nlS; rw [← hx2]; first | rw [if_pos (by omega)] | rw [if_neg (by omega)]⟩)
  exact lp5 _ 0 (-1) (Nat.lt_succ_self _) (⟨by omega, rfl⟩)
set_option maxRecDepth 20000 in
theorem con_X5_nextLender (l : Launch) (htr : l.stackTraces = false) (σ : Mm) : CON fam0 63 l yX5_nextLender (Cond.code yX5_nextLender cX5_nextLender 7 (some .int) :: wm) 0 0 0 (cl_X5_nextLender.2.2.1 σ) (cl_X5_nextLender.2.2.2.1 σ) (cl_X5_nextLender.2.2.2.2 σ) :=
  con_of (cd := cd_X5_nextLender) (own := RX5) (rk := 1) (sc_of htr (by decide) k_X5_nextLender_ok (by decide +kernel) co_X5_ok fl_X5_ok all_nil all_nil all_nil) rfl (by decide +kernel) rfl rfl rfl rfl (fun as μ hs => by rw [hs.1]; exact Nat.le_of_ble_eq_true rfl)
    (fun as μ hs hM hrg => by
      have hs1 := hs.1
      have hmem : ∀ v, v ∈ ([vR 38 0, vI (iaI as 1), vI (iaI as 2)] : List AV) → rg fam0 v := by rw [← hs1]; exact hrg
      have key := run_X5_nextLender (ER := cl_X5_nextLender.2.2.2.1 σ as μ) (ET := fun k μ' => cl_X5_nextLender.2.2.2.2 σ as μ k ∧ μ' = μ) σ μ (iaI as 1) (iaI as 2) hM (hmem (vI (iaI as 1)) (by simp)) (hmem (vI (iaI as 2)) (by simp)) hs.2 (fun ov μ' h => h)
      have e : entL as 7 = [some (vR 38 0), some (vI (iaI as 1)), some (vI (iaI as 2)), none, none, none, none] := by rw [hs1]; rfl
      rw [e]; exact key)
/-! ### PrimeborrowModel.behind -/
def cl_X5_behind : Cl := (3, 0, fun σ as μ => as = [vR 38 0, vI (iaI as 1), vI (iaI as 2)] ∧ (((0 ≤ (iaI as 1) ∧ (iaI as 1) ≤ 5) ∨ (10 ≤ (iaI as 1) ∧ (iaI as 1) ≤ 13)) ∧ (0 ≤ (iaI as 2) ∧ (iaI as 2) ≤ 3)), fun σ as μ ov μ' => ov = some (vI (behF μ (iaI as 2) (iaI as 1))) ∧ μ' = μ, fun σ as μ k => False)
def cd_X5_behind : Cd := mkcd k_X5_behind co_X5 fl_X5 [(99, cl_X5_nextLender)] [] [] [] 4 1 0
set_option maxHeartbeats 4000000 in
set_option maxRecDepth 20000 in
theorem run_X5_behind {ER : Option AV → Mm → Prop} {ET : Nat → Mm → Prop} (σ μ : Mm) (src s : Int) (hM : MR fam0 μ) (h_src : in32 src) (h_s : in32 s) (hP : ((0 ≤ src ∧ src ≤ 5) ∨ (10 ≤ src ∧ src ≤ 13)) ∧ (0 ≤ s ∧ s ≤ 3)) (hER : ∀ ov μ', (ov = some (vI (behF μ s src)) ∧ μ' = μ) → ER ov μ') : Run fam0 none cd_X5_behind ER ET 0 0 [some (vR 38 0), some (vI src), some (vI s), none] [] μ := by
  have hn1 := nlS_rng μ s (-1) 4
  change -1 ≤ nlF μ s (-1) ∧ nlF μ s (-1) < 4 at hn1
  have hn2 := nlS_rng μ s (src - 10) 4
  change -1 ≤ nlF μ s (src - 10) ∧ nlF μ s (src - 10) < 4 at hn2
  refine run_k 3 ?_
  show (5 ≤ src → Run fam0 none cd_X5_behind ER ET 9 0 [some (vR 38 0), some (vI src), some (vI s), none] [] μ) ∧ (src < 5 → Run fam0 none cd_X5_behind ER ET 5 0 [some (vR 38 0), some (vI src), some (vI s), none] [] μ)
  refine ⟨fun c1 => ?_, fun c1 => ?_⟩
  · refine run_k 4 ?_
    show (10 ≤ src → Run fam0 none cd_X5_behind ER ET 20 0 [some (vR 38 0), some (vI src), some (vI s), none] [vR 38 0] μ) ∧ (src < 10 → Run fam0 none cd_X5_behind ER ET 16 0 [some (vR 38 0), some (vI src), some (vI s), none] [vR 38 0] μ)
    refine ⟨fun c2 => ?_, fun c2 => ?_⟩
    · refine run_k 5 ?_
      show ∃ σ : Mm, cl_X5_nextLender.2.2.1 σ [vR 38 0, vI (w32 (src - 10)), vI s] μ ∧ (∀ ov μ', cl_X5_nextLender.2.2.2.1 σ [vR 38 0, vI (w32 (src - 10)), vI s] μ ov μ' → Run fam0 none cd_X5_behind ER ET 28 0 [some (vR 38 0), some (vI src), some (vI s), none] (ov.toList ++ []) μ') ∧ ∀ k, cl_X5_nextLender.2.2.2.2 σ [vR 38 0, vI (w32 (src - 10)), vI s] μ k → thr cd_X5_behind ET (Run fam0 none cd_X5_behind ER ET) 25 0 [some (vR 38 0), some (vI src), some (vI s), none] μ k
      rw [show w32 (src - 10) = src - 10 from w32_id (by simp only [in32]; omega)]
      refine ⟨μ, ⟨rfl, show (-1 ≤ ((src - 10)) ∧ ((src - 10)) ≤ 3) ∧ (0 ≤ s ∧ s ≤ 3) from ⟨by omega, by omega⟩⟩, fun ov μ' hq => ?_, fun k hk => hk.elim⟩
      obtain ⟨hov, hmu⟩ : ov = some (vI (nlF μ s (src - 10))) ∧ μ' = μ := hq
      rw [hov, hmu]
      show Run fam0 none cd_X5_behind ER ET 28 0 [some (vR 38 0), some (vI src), some (vI s), none] [vI (nlF μ s (src - 10))] μ
      refine run_k 4 ?_
      show ((nlF μ s (src - 10)) ≠ (-1) → Run fam0 none cd_X5_behind ER ET 38 0 [some (vR 38 0), some (vI src), some (vI s), some (vI (nlF μ s (src - 10)))] [] μ) ∧ ((nlF μ s (src - 10)) = (-1) → Run fam0 none cd_X5_behind ER ET 34 0 [some (vR 38 0), some (vI src), some (vI s), some (vI (nlF μ s (src - 10)))] [] μ)
      refine ⟨fun c4 => ?_, fun c4 => ?_⟩
      · refine run_k 4 ?_
        show ER (some (vI (w32 (10 + (nlF μ s (src - 10)))))) μ
        rw [show w32 (10 + (nlF μ s (src - 10))) = 10 + (nlF μ s (src - 10)) from w32_id (by simp only [in32]; omega)]
        exact hER _ _ ⟨by unfold behF; first | rw [if_pos (by omega)] | (rw [if_neg (by omega)]; (first | rw [show (if src < 10 then (-1 : Int) else src - 10) = -1 from if_pos (by omega)] | rw [show (if src < 10 then (-1 : Int) else src - 10) = src - 10 from if_neg (by omega)]); (first | rw [if_pos (by omega)] | rw [if_neg (by omega)])), rfl⟩
      · refine run_k 3 ?_
        show ER (some (vI (-1))) μ
        exact hER _ _ ⟨by unfold behF; first | rw [if_pos (by omega)] | (rw [if_neg (by omega)]; (first | rw [show (if src < 10 then (-1 : Int) else src - 10) = -1 from if_pos (by omega)] | rw [show (if src < 10 then (-1 : Int) else src - 10) = src - 10 from if_neg (by omega)]); (first | rw [if_pos (by omega)] | rw [if_neg (by omega)])), rfl⟩
    · refine run_k 4 ?_
      show ∃ σ : Mm, cl_X5_nextLender.2.2.1 σ [vR 38 0, vI (-1), vI s] μ ∧ (∀ ov μ', cl_X5_nextLender.2.2.2.1 σ [vR 38 0, vI (-1), vI s] μ ov μ' → Run fam0 none cd_X5_behind ER ET 28 0 [some (vR 38 0), some (vI src), some (vI s), none] (ov.toList ++ []) μ') ∧ ∀ k, cl_X5_nextLender.2.2.2.2 σ [vR 38 0, vI (-1), vI s] μ k → thr cd_X5_behind ET (Run fam0 none cd_X5_behind ER ET) 25 0 [some (vR 38 0), some (vI src), some (vI s), none] μ k
      refine ⟨μ, ⟨rfl, show (-1 ≤ ((-1)) ∧ ((-1)) ≤ 3) ∧ (0 ≤ s ∧ s ≤ 3) from ⟨by omega, by omega⟩⟩, fun ov μ' hq => ?_, fun k hk => hk.elim⟩
      obtain ⟨hov, hmu⟩ : ov = some (vI (nlF μ s (-1))) ∧ μ' = μ := hq
      rw [hov, hmu]
      show Run fam0 none cd_X5_behind ER ET 28 0 [some (vR 38 0), some (vI src), some (vI s), none] [vI (nlF μ s (-1))] μ
      refine run_k 4 ?_
      show ((nlF μ s (-1)) ≠ (-1) → Run fam0 none cd_X5_behind ER ET 38 0 [some (vR 38 0), some (vI src), some (vI s), some (vI (nlF μ s (-1)))] [] μ) ∧ ((nlF μ s (-1)) = (-1) → Run fam0 none cd_X5_behind ER ET 34 0 [some (vR 38 0), some (vI src), some (vI s), some (vI (nlF μ s (-1)))] [] μ)
      refine ⟨fun c8 => ?_, fun c8 => ?_⟩
      · refine run_k 4 ?_
        show ER (some (vI (w32 (10 + (nlF μ s (-1)))))) μ
        rw [show w32 (10 + (nlF μ s (-1))) = 10 + (nlF μ s (-1)) from w32_id (by simp only [in32]; omega)]
        exact hER _ _ ⟨by unfold behF; first | rw [if_pos (by omega)] | (rw [if_neg (by omega)]; (first | rw [show (if src < 10 then (-1 : Int) else src - 10) = -1 from if_pos (by omega)] | rw [show (if src < 10 then (-1 : Int) else src - 10) = src - 10 from if_neg (by omega)]); (first | rw [if_pos (by omega)] | rw [if_neg (by omega)])), rfl⟩
      · refine run_k 3 ?_
        show ER (some (vI (-1))) μ
        exact hER _ _ ⟨by unfold behF; first | rw [if_pos (by omega)] | (rw [if_neg (by omega)]; (first | rw [show (if src < 10 then (-1 : Int) else src - 10) = -1 from if_pos (by omega)] | rw [show (if src < 10 then (-1 : Int) else src - 10) = src - 10 from if_neg (by omega)]); (first | rw [if_pos (by omega)] | rw [if_neg (by omega)])), rfl⟩
  · refine run_k 4 ?_
    show ER (some (vI (w32 (src + 1)))) μ
    rw [show w32 (src + 1) = src + 1 from w32_id (by simp only [in32]; omega)]
    exact hER _ _ ⟨by unfold behF; first | rw [if_pos (by omega)] | (rw [if_neg (by omega)]; (first | rw [show (if src < 10 then (-1 : Int) else src - 10) = -1 from if_pos (by omega)] | rw [show (if src < 10 then (-1 : Int) else src - 10) = src - 10 from if_neg (by omega)]); (first | rw [if_pos (by omega)] | rw [if_neg (by omega)])), rfl⟩
theorem vw_X5_99 : ∀ w ∈ ([.methodLink RX5 99 yX5_nextLender, .instanceMethod yX5_nextLender, .selects RX5 yX5_nextLender yX5_nextLender, .initialized RX5, .code yX5_nextLender cX5_nextLender 7 (some .int)] : List Cond), w ∈ wm := wm_ps _ [886, 888, 41, 55, 889] (by decide +kernel)
set_option maxRecDepth 20000 in
theorem con_X5_behind (l : Launch) (htr : l.stackTraces = false) (σ : Mm) : CON fam0 63 l yX5_behind (Cond.code yX5_behind cX5_behind 4 (some .int) :: wm) 1 26 0 (cl_X5_behind.2.2.1 σ) (cl_X5_behind.2.2.2.1 σ) (cl_X5_behind.2.2.2.2 σ) :=
  con_of (cd := cd_X5_behind) (own := RX5) (rk := 1) (sc_of htr (by decide) k_X5_behind_ok (by decide +kernel) co_X5_ok fl_X5_ok (all_cons ⟨RX5, yX5_nextLender, cX5_nextLender, 7, (some .int), 0, 0, 2, con_X5_nextLender l htr, rfl, vw_X5_99, ⟨rfl, by decide, by decide, by decide +kernel⟩, ⟨by decide, by decide⟩, fun σ as μ h => ⟨38, 0, _, h.1, rfl, TX5, 31, rfl⟩⟩ all_nil) all_nil all_nil) rfl (by decide +kernel) rfl rfl rfl rfl (fun as μ hs => by rw [hs.1]; exact Nat.le_of_ble_eq_true rfl)
    (fun as μ hs hM hrg => by
      have hs1 := hs.1
      have hmem : ∀ v, v ∈ ([vR 38 0, vI (iaI as 1), vI (iaI as 2)] : List AV) → rg fam0 v := by rw [← hs1]; exact hrg
      have key := run_X5_behind (ER := cl_X5_behind.2.2.2.1 σ as μ) (ET := fun k μ' => cl_X5_behind.2.2.2.2 σ as μ k ∧ μ' = μ) σ μ (iaI as 1) (iaI as 2) hM (hmem (vI (iaI as 1)) (by simp)) (hmem (vI (iaI as 2)) (by simp)) hs.2 (fun ov μ' h => h)
      have e : entL as 4 = [some (vR 38 0), some (vI (iaI as 1)), some (vI (iaI as 2)), none] := by rw [hs1]; rfl
      rw [e]; exact key)
/-! ### PrimeborrowModel.has -/
def cl_X5_has : Cl := (5, 0, fun σ as μ => as = [vR 38 0, vI (iaI as 1), vI (iaI as 2), vI (iaI as 3), vI (iaI as 4)] ∧ (Lk μ ∧ Pk μ ∧ ((0 ≤ (iaI as 1) ∧ (iaI as 1) ≤ 5) ∨ (10 ≤ (iaI as 1) ∧ (iaI as 1) ≤ 13)) ∧ (0 ≤ (iaI as 3) ∧ (iaI as 3) ≤ 3)), fun σ as μ ov μ' => ov = some (vI (hasF μ (iaI as 1) (iaI as 2) (iaI as 3) (iaI as 4))) ∧ μ' = μ, fun σ as μ k => False)
def cd_X5_has : Cd := mkcd k_X5_has co_X5 fl_X5 [(96, cl_X5_partOf)] [] [] [] 5 1 0
set_option maxHeartbeats 4000000 in
set_option maxRecDepth 20000 in
theorem run_X5_has {ER : Option AV → Mm → Prop} {ET : Nat → Mm → Prop} (σ μ : Mm) (src b s w : Int) (hM : MR fam0 μ) (h_src : in32 src) (h_b : in32 b) (h_s : in32 s) (h_w : in32 w) (hP : Lk μ ∧ Pk μ ∧ ((0 ≤ src ∧ src ≤ 5) ∨ (10 ≤ src ∧ src ≤ 13)) ∧ (0 ≤ s ∧ s ≤ 3)) (hER : ∀ ov μ', (ov = some (vI (hasF μ src b s w)) ∧ μ' = μ) → ER ov μ') : Run fam0 none cd_X5_has ER ET 0 0 [some (vR 38 0), some (vI src), some (vI b), some (vI s), some (vI w)] [] μ := by
  obtain ⟨hLk, hPk, hsrc, hs⟩ := hP
  refine run_k 3 ?_
  show (src = w → Run fam0 none cd_X5_has ER ET 11 0 [some (vR 38 0), some (vI src), some (vI b), some (vI s), some (vI w)] [] μ) ∧ (src ≠ w → Run fam0 none cd_X5_has ER ET 6 0 [some (vR 38 0), some (vI src), some (vI b), some (vI s), some (vI w)] [] μ)
  refine ⟨fun c1 => ?_, fun c1 => ?_⟩
  · refine run_k 2 ?_
    show ER (some (vI 0)) μ
    exact hER _ _ ⟨by unfold hasF; first | rw [if_pos (by omega)] | (rw [if_neg (by omega)]; first | rw [if_pos (by omega)] | (rw [if_neg (by omega)]; first | rw [if_pos (by omega)] | rw [if_neg (by omega)])), rfl⟩
  · refine run_k 3 ?_
    show (src ≠ b → Run fam0 none cd_X5_has ER ET 13 0 [some (vR 38 0), some (vI src), some (vI b), some (vI s), some (vI w)] [] μ) ∧ (src = b → Run fam0 none cd_X5_has ER ET 11 0 [some (vR 38 0), some (vI src), some (vI b), some (vI s), some (vI w)] [] μ)
    refine ⟨fun c3 => ?_, fun c3 => ?_⟩
    · refine run_k 3 ?_
      show (src < 10 → Run fam0 none cd_X5_has ER ET 35 0 [some (vR 38 0), some (vI src), some (vI b), some (vI s), some (vI w)] [] μ) ∧ (10 ≤ src → Run fam0 none cd_X5_has ER ET 19 0 [some (vR 38 0), some (vI src), some (vI b), some (vI s), some (vI w)] [] μ)
      refine ⟨fun c4 => ?_, fun c4 => ?_⟩
      · refine run_k 5 ?_
        show (0 ≤ src ∧ src < 6) ∧ (((μ 43 0 src) = 0 → Run fam0 none cd_X5_has ER ET 53 0 [some (vR 38 0), some (vI src), some (vI b), some (vI s), some (vI w)] [] μ) ∧ ((μ 43 0 src) ≠ 0 → Run fam0 none cd_X5_has ER ET 44 0 [some (vR 38 0), some (vI src), some (vI b), some (vI s), some (vI w)] [] μ))
        refine ⟨by omega, ?_⟩
        refine ⟨fun c5 => ?_, fun c5 => ?_⟩
        · refine run_k 2 ?_
          show ER (some (vI 0)) μ
          exact hER _ _ ⟨by unfold hasF; first | rw [if_pos (by omega)] | (rw [if_neg (by omega)]; first | rw [if_pos (by omega)] | (rw [if_neg (by omega)]; first | rw [if_pos (by omega)] | rw [if_neg (by omega)])), rfl⟩
        · refine run_k 4 ?_
          show ∃ σ : Mm, cl_X5_partOf.2.2.1 σ [vR 38 0, vI src, vI s] μ ∧ (∀ ov μ', cl_X5_partOf.2.2.2.1 σ [vR 38 0, vI src, vI s] μ ov μ' → Run fam0 none cd_X5_has ER ET 50 0 [some (vR 38 0), some (vI src), some (vI b), some (vI s), some (vI w)] (ov.toList ++ []) μ') ∧ ∀ k, cl_X5_partOf.2.2.2.2 σ [vR 38 0, vI src, vI s] μ k → thr cd_X5_has ET (Run fam0 none cd_X5_has ER ET) 47 0 [some (vR 38 0), some (vI src), some (vI b), some (vI s), some (vI w)] μ k
          refine ⟨μ, ⟨rfl, show Lk μ ∧ Pk μ ∧ (0 ≤ src ∧ src ≤ 5) ∧ (0 ≤ s ∧ s ≤ 3) from ⟨hLk, hPk, by omega, by omega⟩⟩, fun ov μ' hq => ?_, fun k hk => hk.elim⟩
          obtain ⟨hov, hmu⟩ : ov = some (vI (partF μ src s)) ∧ μ' = μ := hq
          rw [hov, hmu]
          show Run fam0 none cd_X5_has ER ET 50 0 [some (vR 38 0), some (vI src), some (vI b), some (vI s), some (vI w)] [vI (partF μ src s)] μ
          refine run_k 2 ?_
          show ER (some (vI (partF μ src s))) μ
          exact hER _ _ ⟨by unfold hasF; first | rw [if_pos (by omega)] | (rw [if_neg (by omega)]; first | rw [if_pos (by omega)] | (rw [if_neg (by omega)]; first | rw [if_pos (by omega)] | rw [if_neg (by omega)])), rfl⟩
      · refine run_k 12 ?_
        show (0 ≤ (w32 ((w32 (4 * (w32 (src - 10)))) + s)) ∧ (w32 ((w32 (4 * (w32 (src - 10)))) + s)) < 16) ∧ (ER (some (vI (μ 45 0 (w32 ((w32 (4 * (w32 (src - 10)))) + s))))) μ)
        rw [show w32 (src - 10) = src - 10 from w32_id (by simp only [in32]; omega)]
        rw [show w32 (4 * (src - 10)) = 4 * (src - 10) from w32_id (by simp only [in32]; omega)]
        rw [show w32 ((4 * (src - 10)) + s) = (4 * (src - 10)) + s from w32_id (by simp only [in32]; omega)]
        refine ⟨by omega, ?_⟩
        exact hER _ _ ⟨by unfold hasF; first | rw [if_pos (by omega)] | (rw [if_neg (by omega)]; first | rw [if_pos (by omega)] | (rw [if_neg (by omega)]; first | rw [if_pos (by omega)] | rw [if_neg (by omega)])), rfl⟩
    · refine run_k 2 ?_
      show ER (some (vI 0)) μ
      exact hER _ _ ⟨by unfold hasF; first | rw [if_pos (by omega)] | (rw [if_neg (by omega)]; first | rw [if_pos (by omega)] | (rw [if_neg (by omega)]; first | rw [if_pos (by omega)] | rw [if_neg (by omega)])), rfl⟩
theorem vw_X5_96 : ∀ w ∈ ([.methodLink RX5 96 yX5_partOf, .instanceMethod yX5_partOf, .selects RX5 yX5_partOf yX5_partOf, .initialized RX5, .code yX5_partOf cX5_partOf 4 (some .int)] : List Cond), w ∈ wm := wm_ps _ [878, 880, 39, 55, 881] (by decide +kernel)
set_option maxRecDepth 20000 in
theorem con_X5_has (l : Launch) (htr : l.stackTraces = false) (σ : Mm) : CON fam0 63 l yX5_has (Cond.code yX5_has cX5_has 5 (some .int) :: wm) 2 47 0 (cl_X5_has.2.2.1 σ) (cl_X5_has.2.2.2.1 σ) (cl_X5_has.2.2.2.2 σ) :=
  con_of (cd := cd_X5_has) (own := RX5) (rk := 1) (sc_of htr (by decide) k_X5_has_ok (by decide +kernel) co_X5_ok fl_X5_ok (all_cons ⟨RX5, yX5_partOf, cX5_partOf, 4, (some .int), 1, 24, 2, con_X5_partOf l htr, rfl, vw_X5_96, ⟨rfl, by decide, by decide, by decide +kernel⟩, ⟨by decide, by decide⟩, fun σ as μ h => ⟨38, 0, _, h.1, rfl, TX5, 31, rfl⟩⟩ all_nil) all_nil all_nil) rfl (by decide +kernel) rfl rfl rfl rfl (fun as μ hs => by rw [hs.1]; exact Nat.le_of_ble_eq_true rfl)
    (fun as μ hs hM hrg => by
      have hs1 := hs.1
      have hmem : ∀ v, v ∈ ([vR 38 0, vI (iaI as 1), vI (iaI as 2), vI (iaI as 3), vI (iaI as 4)] : List AV) → rg fam0 v := by rw [← hs1]; exact hrg
      have key := run_X5_has (ER := cl_X5_has.2.2.2.1 σ as μ) (ET := fun k μ' => cl_X5_has.2.2.2.2 σ as μ k ∧ μ' = μ) σ μ (iaI as 1) (iaI as 2) (iaI as 3) (iaI as 4) hM (hmem (vI (iaI as 1)) (by simp)) (hmem (vI (iaI as 2)) (by simp)) (hmem (vI (iaI as 3)) (by simp)) (hmem (vI (iaI as 4)) (by simp)) hs.2 (fun ov μ' h => h)
      have e : entL as 5 = [some (vR 38 0), some (vI (iaI as 1)), some (vI (iaI as 2)), some (vI (iaI as 3)), some (vI (iaI as 4))] := by rw [hs1]; rfl
      rw [e]; exact key)
