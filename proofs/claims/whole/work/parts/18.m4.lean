/-! ===== how much can be borrowed; borrowing ===== -/
/-! ### PrimeborrowModel.canBorrow -/
def cl_X5_canBorrow : Cl := (3, 0, fun σ as μ => as = [vR 38 0, vI (iaI as 1), vI (iaI as 2)] ∧ (Lk μ ∧ Pk μ ∧ Gk μ ∧ (0 ≤ (iaI as 2) ∧ (iaI as 2) ≤ 3)), fun σ as μ ov μ' => ov = some (vI (canF μ (iaI as 1) (iaI as 2))) ∧ μ' = μ, fun σ as μ k => False)
def cd_X5_canBorrow : Cd := mkcd k_X5_canBorrow co_X5 fl_X5 [(102, cl_X5_has), (106, cl_X5_behind)] [] [] [] 7 1 0
set_option maxHeartbeats 4000000 in
set_option maxRecDepth 20000 in
theorem run_X5_canBorrow {ER : Option AV → Mm → Prop} {ET : Nat → Mm → Prop} (σ μ : Mm) (b s : Int) (hM : MR fam0 μ) (h_b : in32 b) (h_s : in32 s) (hP : Lk μ ∧ Pk μ ∧ Gk μ ∧ (0 ≤ s ∧ s ≤ 3)) (hER : ∀ ov μ', (ov = some (vI (canF μ b s)) ∧ μ' = μ) → ER ov μ') : Run fam0 none cd_X5_canBorrow ER ET 0 0 [some (vR 38 0), some (vI b), some (vI s), none, none, none, none] [] μ := by
  obtain ⟨hLk, hPk, hGk, hs⟩ := hP
  have hl0 := hLk.1
  refine run_k 9 ?_
  show Run fam0 none cd_X5_canBorrow ER ET 15 0 [some (vR 38 0), some (vI b), some (vI s), some (vI 0), some (vI (w32 (1000 - (μ 38 0 11)))), some (vI 0), none] [] μ
  rw [show w32 (1000 - (μ 38 0 11)) = 1000 - (μ 38 0 11) from w32_id (by simp only [in32]; omega)]
  have lp15 : ∀ (fz : Nat) (l : List Int) (left n x : Int), l.length < fz → (x = hdL l ∧ (∃ pre, srcs μ s = pre ++ l) ∧ canL μ b s l left n = canF μ b s ∧ (0 ≤ left ∧ left ≤ 1000) ∧ (l.length : Int) ≤ 10 ∧ -(1000000 * (10 - (l.length : Int))) ≤ n ∧ n ≤ 1000000 * (10 - (l.length : Int))) → Run fam0 none cd_X5_canBorrow ER ET 15 0 [some (vR 38 0), some (vI b), some (vI s), some (vI n), some (vI left), some (vI x), none] [] μ := by
    intro fz
    induction fz with
    | zero => intro l left n x hf; omega
    | succ fz ih15 =>
      intro l left n x hf hI
      obtain ⟨hx, hpre, hcan, hleft, hln, hn1, hn2⟩ := hI
      refine run_k 3 ?_
      show (x = (-1) → Run fam0 none cd_X5_canBorrow ER ET 69 0 [some (vR 38 0), some (vI b), some (vI s), some (vI n), some (vI left), some (vI x), none] [] μ) ∧ (x ≠ (-1) → Run fam0 none cd_X5_canBorrow ER ET 21 0 [some (vR 38 0), some (vI b), some (vI s), some (vI n), some (vI left), some (vI x), none] [] μ)
      refine ⟨fun c2 => ?_, fun c2 => ?_⟩
      · refine run_k 2 ?_
        show ER (some (vI n)) μ
        exact hER _ _ ⟨by first | (have hnil := hd_nil hpre hx (by omega); rw [hnil] at hcan; exact congrArg (fun z => some (vI z)) hcan) | (rw [canL, if_neg (by omega)] at hcan; exact congrArg (fun z => some (vI z)) hcan), rfl⟩
      · obtain ⟨l', hl'⟩ := hd_cons (μ := μ) (s := s) hx (by omega)
        subst hl'
        obtain ⟨pre, hpre⟩ := hpre
        have hpre0 := hpre
        obtain ⟨hbeh, hxr⟩ := beh_next hpre
        have hpre2 : ∃ pre, srcs μ s = pre ++ l' := ⟨pre ++ [x], by rw [hpre]; simp⟩
        have hpre := hpre2
        have hlen : (x :: l').length = l'.length + 1 := rfl
        rw [hlen] at hf
        have hhr := hasF_rng hLk hPk hGk hxr hs b (-1)
        refine run_k 2 ?_
        show (left ≤ 0 → Run fam0 none cd_X5_canBorrow ER ET 69 0 [some (vR 38 0), some (vI b), some (vI s), some (vI n), some (vI left), some (vI x), none] [] μ) ∧ (0 < left → Run fam0 none cd_X5_canBorrow ER ET 26 0 [some (vR 38 0), some (vI b), some (vI s), some (vI n), some (vI left), some (vI x), none] [] μ)
        refine ⟨fun c4 => ?_, fun c4 => ?_⟩
        · refine run_k 2 ?_
          show ER (some (vI n)) μ
          exact hER _ _ ⟨by first | (have hnil := hd_nil hpre hx (by omega); rw [hnil] at hcan; exact congrArg (fun z => some (vI z)) hcan) | (rw [canL, if_neg (by omega)] at hcan; exact congrArg (fun z => some (vI z)) hcan), rfl⟩
        · refine run_k 6 ?_
          show ∃ σ : Mm, cl_X5_has.2.2.1 σ [vR 38 0, vI x, vI b, vI s, vI (-1)] μ ∧ (∀ ov μ', cl_X5_has.2.2.2.1 σ [vR 38 0, vI x, vI b, vI s, vI (-1)] μ ov μ' → Run fam0 none cd_X5_canBorrow ER ET 35 0 [some (vR 38 0), some (vI b), some (vI s), some (vI n), some (vI left), some (vI x), none] (ov.toList ++ []) μ') ∧ ∀ kx, cl_X5_has.2.2.2.2 σ [vR 38 0, vI x, vI b, vI s, vI (-1)] μ kx → thr cd_X5_canBorrow ET (Run fam0 none cd_X5_canBorrow ER ET) 32 0 [some (vR 38 0), some (vI b), some (vI s), some (vI n), some (vI left), some (vI x), none] μ kx
          refine ⟨μ, ⟨rfl, show Lk μ ∧ Pk μ ∧ ((0 ≤ x ∧ x ≤ 5) ∨ (10 ≤ x ∧ x ≤ 13)) ∧ (0 ≤ s ∧ s ≤ 3) from ⟨hLk, hPk, by omega, by omega⟩⟩, fun ov μ' hq => ?_, fun k hk => hk.elim⟩
          obtain ⟨hov, hmu⟩ : ov = some (vI (hasF μ x b s (-1))) ∧ μ' = μ := hq
          rw [hov, hmu]
          show Run fam0 none cd_X5_canBorrow ER ET 35 0 [some (vR 38 0), some (vI b), some (vI s), some (vI n), some (vI left), some (vI x), none] [vI (hasF μ x b s (-1))] μ
          refine run_k 8 ?_
          show ((hasF μ x b s (-1)) ≤ 0 → Run fam0 none cd_X5_canBorrow ER ET 53 0 [some (vR 38 0), some (vI b), some (vI s), some (vI (w32 (n + (hasF μ x b s (-1))))), some (vI left), some (vI x), some (vI (hasF μ x b s (-1)))] [vI left] μ) ∧ (0 < (hasF μ x b s (-1)) → Run fam0 none cd_X5_canBorrow ER ET 49 0 [some (vR 38 0), some (vI b), some (vI s), some (vI (w32 (n + (hasF μ x b s (-1))))), some (vI left), some (vI x), some (vI (hasF μ x b s (-1)))] [vI left] μ)
          rw [show w32 (n + (hasF μ x b s (-1))) = n + (hasF μ x b s (-1)) from w32_id (by simp only [in32]; omega)]
          refine ⟨fun c7 => ?_, fun c7 => ?_⟩
          · refine run_k 7 ?_
            show ∃ σ : Mm, cl_X5_behind.2.2.1 σ [vR 38 0, vI x, vI s] μ ∧ (∀ ov μ', cl_X5_behind.2.2.2.1 σ [vR 38 0, vI x, vI s] μ ov μ' → Run fam0 none cd_X5_canBorrow ER ET 64 0 [some (vR 38 0), some (vI b), some (vI s), some (vI (n + (hasF μ x b s (-1)))), some (vI (w32 (left - 0))), some (vI x), some (vI (hasF μ x b s (-1)))] (ov.toList ++ []) μ') ∧ ∀ kx, cl_X5_behind.2.2.2.2 σ [vR 38 0, vI x, vI s] μ kx → thr cd_X5_canBorrow ET (Run fam0 none cd_X5_canBorrow ER ET) 61 0 [some (vR 38 0), some (vI b), some (vI s), some (vI (n + (hasF μ x b s (-1)))), some (vI (w32 (left - 0))), some (vI x), some (vI (hasF μ x b s (-1)))] μ kx
            rw [show w32 (left - 0) = left - 0 from w32_id (by simp only [in32]; omega)]
            refine ⟨μ, ⟨rfl, show ((0 ≤ x ∧ x ≤ 5) ∨ (10 ≤ x ∧ x ≤ 13)) ∧ (0 ≤ s ∧ s ≤ 3) from ⟨by omega, by omega⟩⟩, fun ov μ' hq => ?_, fun k hk => hk.elim⟩
            obtain ⟨hov, hmu⟩ : ov = some (vI (behF μ s x)) ∧ μ' = μ := hq
            rw [hov, hmu]
            show Run fam0 none cd_X5_canBorrow ER ET 64 0 [some (vR 38 0), some (vI b), some (vI s), some (vI (n + (hasF μ x b s (-1)))), some (vI (left - 0)), some (vI x), some (vI (hasF μ x b s (-1)))] [vI (behF μ s x)] μ
            refine run_k 2 ?_
            show Run fam0 none cd_X5_canBorrow ER ET 15 0 [some (vR 38 0), some (vI b), some (vI s), some (vI (n + (hasF μ x b s (-1)))), some (vI (left - 0)), some (vI (behF μ s x)), some (vI (hasF μ x b s (-1)))] [] μ
            refine run_w (L' := [some (vR 38 0), some (vI b), some (vI s), some (vI (n + (hasF μ x b s (-1)))), some (vI (left - 0)), some (vI (behF μ s x)), none]) ⟨rfl, rfl, rfl, rfl, rfl, rfl, True.intro⟩ ?_
            exact ih15 l' (left - 0) (n + (hasF μ x b s (-1))) (behF μ s x) (by omega) (⟨hbeh, hpre, by have hc2 := hcan; rw [canL, if_pos (by omega)] at hc2; first | (rw [if_pos (by omega)] at hc2; exact hc2) | (rw [if_neg (by omega)] at hc2; rw [Int.sub_zero]; exact hc2), by omega, by omega, by omega, by omega⟩)
          · refine run_k 8 ?_
            show ∃ σ : Mm, cl_X5_behind.2.2.1 σ [vR 38 0, vI x, vI s] μ ∧ (∀ ov μ', cl_X5_behind.2.2.2.1 σ [vR 38 0, vI x, vI s] μ ov μ' → Run fam0 none cd_X5_canBorrow ER ET 64 0 [some (vR 38 0), some (vI b), some (vI s), some (vI (n + (hasF μ x b s (-1)))), some (vI (w32 (left - 1))), some (vI x), some (vI (hasF μ x b s (-1)))] (ov.toList ++ []) μ') ∧ ∀ kx, cl_X5_behind.2.2.2.2 σ [vR 38 0, vI x, vI s] μ kx → thr cd_X5_canBorrow ET (Run fam0 none cd_X5_canBorrow ER ET) 61 0 [some (vR 38 0), some (vI b), some (vI s), some (vI (n + (hasF μ x b s (-1)))), some (vI (w32 (left - 1))), some (vI x), some (vI (hasF μ x b s (-1)))] μ kx
            rw [show w32 (left - 1) = left - 1 from w32_id (by simp only [in32]; omega)]
            refine ⟨μ, ⟨rfl, show ((0 ≤ x ∧ x ≤ 5) ∨ (10 ≤ x ∧ x ≤ 13)) ∧ (0 ≤ s ∧ s ≤ 3) from ⟨by omega, by omega⟩⟩, fun ov μ' hq => ?_, fun k hk => hk.elim⟩
            obtain ⟨hov, hmu⟩ : ov = some (vI (behF μ s x)) ∧ μ' = μ := hq
            rw [hov, hmu]
            show Run fam0 none cd_X5_canBorrow ER ET 64 0 [some (vR 38 0), some (vI b), some (vI s), some (vI (n + (hasF μ x b s (-1)))), some (vI (left - 1)), some (vI x), some (vI (hasF μ x b s (-1)))] [vI (behF μ s x)] μ
            refine run_k 2 ?_
            show Run fam0 none cd_X5_canBorrow ER ET 15 0 [some (vR 38 0), some (vI b), some (vI s), some (vI (n + (hasF μ x b s (-1)))), some (vI (left - 1)), some (vI (behF μ s x)), some (vI (hasF μ x b s (-1)))] [] μ
            refine run_w (L' := [some (vR 38 0), some (vI b), some (vI s), some (vI (n + (hasF μ x b s (-1)))), some (vI (left - 1)), some (vI (behF μ s x)), none]) ⟨rfl, rfl, rfl, rfl, rfl, rfl, True.intro⟩ ?_
            exact ih15 l' (left - 1) (n + (hasF μ x b s (-1))) (behF μ s x) (by omega) (⟨hbeh, hpre, by have hc2 := hcan; rw [canL, if_pos (by omega)] at hc2; first | (rw [if_pos (by omega)] at hc2; exact hc2) | (rw [if_neg (by omega)] at hc2; rw [Int.sub_zero]; exact hc2), by omega, by omega, by omega, by omega⟩)
  exact lp15 _ (srcs μ s) (1000 - (μ 38 0 11)) 0 0 (Nat.lt_succ_self _) (⟨rfl, ⟨[], rfl⟩, rfl, by omega, by rw [srcs_len]; decide, by rw [srcs_len]; decide, by rw [srcs_len]; decide⟩)
theorem vw_X5_106 : ∀ w ∈ ([.methodLink RX5 106 yX5_behind, .instanceMethod yX5_behind, .selects RX5 yX5_behind yX5_behind, .initialized RX5, .code yX5_behind cX5_behind 4 (some .int)] : List Cond), w ∈ wm := wm_ps _ [882, 884, 40, 55, 885] (by decide +kernel)
theorem vw_X5_102 : ∀ w ∈ ([.methodLink RX5 102 yX5_has, .instanceMethod yX5_has, .selects RX5 yX5_has yX5_has, .initialized RX5, .code yX5_has cX5_has 5 (some .int)] : List Cond), w ∈ wm := wm_ps _ [874, 876, 38, 55, 877] (by decide +kernel)
set_option maxRecDepth 20000 in
theorem con_X5_canBorrow (l : Launch) (htr : l.stackTraces = false) (σ : Mm) : CON fam0 63 l yX5_canBorrow (Cond.code yX5_canBorrow cX5_canBorrow 7 (some .int) :: wm) 3 71 0 (cl_X5_canBorrow.2.2.1 σ) (cl_X5_canBorrow.2.2.2.1 σ) (cl_X5_canBorrow.2.2.2.2 σ) :=
  con_of (cd := cd_X5_canBorrow) (own := RX5) (rk := 1) (sc_of htr (by decide) k_X5_canBorrow_ok (by decide +kernel) co_X5_ok fl_X5_ok (all_cons ⟨RX5, yX5_has, cX5_has, 5, (some .int), 2, 47, 4, con_X5_has l htr, rfl, vw_X5_102, ⟨rfl, by decide, by decide, by decide +kernel⟩, ⟨by decide, by decide⟩, fun σ as μ h => ⟨38, 0, _, h.1, rfl, TX5, 31, rfl⟩⟩ (all_cons ⟨RX5, yX5_behind, cX5_behind, 4, (some .int), 1, 26, 2, con_X5_behind l htr, rfl, vw_X5_106, ⟨rfl, by decide, by decide, by decide +kernel⟩, ⟨by decide, by decide⟩, fun σ as μ h => ⟨38, 0, _, h.1, rfl, TX5, 31, rfl⟩⟩ all_nil)) all_nil all_nil) rfl (by decide +kernel) rfl rfl rfl rfl (fun as μ hs => by rw [hs.1]; exact Nat.le_of_ble_eq_true rfl)
    (fun as μ hs hM hrg => by
      have hs1 := hs.1
      have hmem : ∀ v, v ∈ ([vR 38 0, vI (iaI as 1), vI (iaI as 2)] : List AV) → rg fam0 v := by rw [← hs1]; exact hrg
      have key := run_X5_canBorrow (ER := cl_X5_canBorrow.2.2.2.1 σ as μ) (ET := fun k μ' => cl_X5_canBorrow.2.2.2.2 σ as μ k ∧ μ' = μ) σ μ (iaI as 1) (iaI as 2) hM (hmem (vI (iaI as 1)) (by simp)) (hmem (vI (iaI as 2)) (by simp)) hs.2 (fun ov μ' h => h)
      have e : entL as 7 = [some (vR 38 0), some (vI (iaI as 1)), some (vI (iaI as 2)), none, none, none, none] := by rw [hs1]; rfl
      rw [e]; exact key)
/-! ### PrimeborrowModel.borrow -/
def cl_X5_borrow : Cl := (5, 0, fun σ as μ => as = [vR 38 0, vI (iaI as 1), vI (iaI as 2), vI (iaI as 3), vI (iaI as 4)] ∧ (Lk μ ∧ Pk μ ∧ Gk μ ∧ (0 ≤ (iaI as 1) ∧ (iaI as 1) ≤ 5) ∧ (0 ≤ (iaI as 2) ∧ (iaI as 2) ≤ 3) ∧ (0 ≤ (iaI as 3) ∧ (iaI as 3) ≤ 500)), fun σ as μ ov μ' => ov = some (vI ((iaI as 3) - (borF μ (iaI as 1) (iaI as 2) (iaI as 3) (iaI as 4)).2)) ∧ μ' = (borF μ (iaI as 1) (iaI as 2) (iaI as 3) (iaI as 4)).1, fun σ as μ k => False)
def cd_X5_borrow : Cd := mkcd k_X5_borrow co_X5 fl_X5 [(102, cl_X5_has), (106, cl_X5_behind)] [] [] [] 9 1 0
set_option maxHeartbeats 4000000 in
set_option maxRecDepth 20000 in
theorem run_X5_borrow {ER : Option AV → Mm → Prop} {ET : Nat → Mm → Prop} (σ μ : Mm) (b s want w : Int) (hM : MR fam0 μ) (h_b : in32 b) (h_s : in32 s) (h_want : in32 want) (h_w : in32 w) (hP : Lk μ ∧ Pk μ ∧ Gk μ ∧ (0 ≤ b ∧ b ≤ 5) ∧ (0 ≤ s ∧ s ≤ 3) ∧ (0 ≤ want ∧ want ≤ 500)) (hER : ∀ ov μ', (ov = some (vI (want - (borF μ b s want w).2)) ∧ μ' = (borF μ b s want w).1) → ER ov μ') : Run fam0 none cd_X5_borrow ER ET 0 0 [some (vR 38 0), some (vI b), some (vI s), some (vI want), some (vI w), none, none, none, none] [] μ := by
  obtain ⟨hLk, hPk, hGk, hb, hs, hw⟩ := hP
  refine run_k 4 ?_
  show Run fam0 none cd_X5_borrow ER ET 6 0 [some (vR 38 0), some (vI b), some (vI s), some (vI want), some (vI w), some (vI want), some (vI 0), none, none] [] μ
  have lp6 : ∀ (fz : Nat) (l : List Int) (M : Mm) (rest x : Int), l.length < fz → (x = hdL l ∧ (∃ pre, srcs M s = pre ++ l) ∧ borL b s w l M rest = borF μ b s want w ∧ (0 ≤ rest ∧ rest ≤ want) ∧ Lk M ∧ Pk M ∧ Gk M) → Run fam0 none cd_X5_borrow ER ET 6 0 [some (vR 38 0), some (vI b), some (vI s), some (vI want), some (vI w), some (vI rest), some (vI x), none, none] [] M := by
    intro fz
    induction fz with
    | zero => intro l M rest x hf; omega
    | succ fz ih6 =>
      intro l M rest x hf hI
      obtain ⟨hx, hpre, hbor, hrest, hLk, hPk, hGk⟩ := hI
      have hl0 := hLk.1
      refine run_k 3 ?_
      show (x = (-1) → Run fam0 none cd_X5_borrow ER ET 188 0 [some (vR 38 0), some (vI b), some (vI s), some (vI want), some (vI w), some (vI rest), some (vI x), none, none] [] M) ∧ (x ≠ (-1) → Run fam0 none cd_X5_borrow ER ET 12 0 [some (vR 38 0), some (vI b), some (vI s), some (vI want), some (vI w), some (vI rest), some (vI x), none, none] [] M)
      refine ⟨fun c2 => ?_, fun c2 => ?_⟩
      · refine run_k 4 ?_
        show ER (some (vI (w32 (want - rest)))) M
        rw [show w32 (want - rest) = want - rest from w32_id (by simp only [in32]; omega)]
        have hres : (M, rest) = borF μ b s want w := by first | (rw [← hbor, hd_nil hpre hx (by omega)]; rfl) | (rw [← hbor, borL, if_neg (by omega)])
        exact hER _ _ ⟨by rw [← hres], by rw [← hres]⟩
      · obtain ⟨l', hl'⟩ := hd_cons (μ := μ) (s := s) hx (by omega)
        subst hl'
        obtain ⟨pre, hpre⟩ := hpre
        have hpre0 := hpre
        obtain ⟨hbeh, hxr⟩ := beh_next hpre
        have hpre2 : ∃ pre, srcs M s = pre ++ l' := ⟨pre ++ [x], by rw [hpre]; simp⟩
        have hpre := hpre2
        have hlen : (x :: l').length = l'.length + 1 := rfl
        rw [hlen] at hf
        have hhr := hasF_rng hLk hPk hGk hxr hs b w
        have hgp := hGk (4 * (x - 10) + s)
        have hmi := minI_le (hasF M x b s w) rest
        refine run_k 2 ?_
        show (rest ≤ 0 → Run fam0 none cd_X5_borrow ER ET 188 0 [some (vR 38 0), some (vI b), some (vI s), some (vI want), some (vI w), some (vI rest), some (vI x), none, none] [] M) ∧ (0 < rest → Run fam0 none cd_X5_borrow ER ET 17 0 [some (vR 38 0), some (vI b), some (vI s), some (vI want), some (vI w), some (vI rest), some (vI x), none, none] [] M)
        refine ⟨fun c4 => ?_, fun c4 => ?_⟩
        · refine run_k 4 ?_
          show ER (some (vI (w32 (want - rest)))) M
          rw [show w32 (want - rest) = want - rest from w32_id (by simp only [in32]; omega)]
          have hres : (M, rest) = borF μ b s want w := by first | (rw [← hbor, hd_nil hpre hx (by omega)]; rfl) | (rw [← hbor, borL, if_neg (by omega)])
          exact hER _ _ ⟨by rw [← hres], by rw [← hres]⟩
        · refine run_k 4 ?_
          show (1000 ≤ (M 38 0 11) → Run fam0 none cd_X5_borrow ER ET 188 0 [some (vR 38 0), some (vI b), some (vI s), some (vI want), some (vI w), some (vI rest), some (vI x), none, none] [] M) ∧ ((M 38 0 11) < 1000 → Run fam0 none cd_X5_borrow ER ET 27 0 [some (vR 38 0), some (vI b), some (vI s), some (vI want), some (vI w), some (vI rest), some (vI x), none, none] [] M)
          refine ⟨fun c6 => ?_, fun c6 => ?_⟩
          · refine run_k 4 ?_
            show ER (some (vI (w32 (want - rest)))) M
            rw [show w32 (want - rest) = want - rest from w32_id (by simp only [in32]; omega)]
            have hres : (M, rest) = borF μ b s want w := by first | (rw [← hbor, hd_nil hpre hx (by omega)]; rfl) | (rw [← hbor, borL, if_neg (by omega)])
            exact hER _ _ ⟨by rw [← hres], by rw [← hres]⟩
          · refine run_k 6 ?_
            show ∃ σ : Mm, cl_X5_has.2.2.1 σ [vR 38 0, vI x, vI b, vI s, vI w] M ∧ (∀ ov μ', cl_X5_has.2.2.2.1 σ [vR 38 0, vI x, vI b, vI s, vI w] M ov μ' → Run fam0 none cd_X5_borrow ER ET 37 0 [some (vR 38 0), some (vI b), some (vI s), some (vI want), some (vI w), some (vI rest), some (vI x), none, none] (ov.toList ++ []) μ') ∧ ∀ kx, cl_X5_has.2.2.2.2 σ [vR 38 0, vI x, vI b, vI s, vI w] M kx → thr cd_X5_borrow ET (Run fam0 none cd_X5_borrow ER ET) 34 0 [some (vR 38 0), some (vI b), some (vI s), some (vI want), some (vI w), some (vI rest), some (vI x), none, none] M kx
            refine ⟨μ, ⟨rfl, show Lk M ∧ Pk M ∧ ((0 ≤ x ∧ x ≤ 5) ∨ (10 ≤ x ∧ x ≤ 13)) ∧ (0 ≤ s ∧ s ≤ 3) from ⟨hLk, hPk, by omega, by omega⟩⟩, fun ov μ' hq => ?_, fun k hk => hk.elim⟩
            obtain ⟨hov, hmu⟩ : ov = some (vI (hasF M x b s w)) ∧ μ' = M := hq
            rw [hov, hmu]
            show Run fam0 none cd_X5_borrow ER ET 37 0 [some (vR 38 0), some (vI b), some (vI s), some (vI want), some (vI w), some (vI rest), some (vI x), none, none] [vI (hasF M x b s w)] M
            refine run_k 4 ?_
            show ((hasF M x b s w) ≤ rest → Run fam0 none cd_X5_borrow ER ET 51 0 [some (vR 38 0), some (vI b), some (vI s), some (vI want), some (vI w), some (vI rest), some (vI x), some (vI (hasF M x b s w)), none] [] M) ∧ (rest < (hasF M x b s w) → Run fam0 none cd_X5_borrow ER ET 46 0 [some (vR 38 0), some (vI b), some (vI s), some (vI want), some (vI w), some (vI rest), some (vI x), some (vI (hasF M x b s w)), none] [] M)
            have jn43 : Run fam0 none cd_X5_borrow ER ET 53 0 [some (vR 38 0), some (vI b), some (vI s), some (vI want), some (vI w), some (vI rest), some (vI x), some (vI (hasF M x b s w)), none] [vI (minI (hasF M x b s w) rest)] M := by
              refine run_k 3 ?_
              show ((minI (hasF M x b s w) rest) ≤ 0 → Run fam0 none cd_X5_borrow ER ET 176 0 [some (vR 38 0), some (vI b), some (vI s), some (vI want), some (vI w), some (vI rest), some (vI x), some (vI (minI (hasF M x b s w) rest)), none] [] M) ∧ (0 < (minI (hasF M x b s w) rest) → Run fam0 none cd_X5_borrow ER ET 60 0 [some (vR 38 0), some (vI b), some (vI s), some (vI want), some (vI w), some (vI rest), some (vI x), some (vI (minI (hasF M x b s w) rest)), none] [] M)
              refine ⟨fun c10 => ?_, fun c10 => ?_⟩
              · refine run_k 4 ?_
                show ∃ σ : Mm, cl_X5_behind.2.2.1 σ [vR 38 0, vI x, vI s] M ∧ (∀ ov μ', cl_X5_behind.2.2.2.1 σ [vR 38 0, vI x, vI s] M ov μ' → Run fam0 none cd_X5_borrow ER ET 183 0 [some (vR 38 0), some (vI b), some (vI s), some (vI want), some (vI w), some (vI rest), some (vI x), some (vI (minI (hasF M x b s w) rest)), none] (ov.toList ++ []) μ') ∧ ∀ kx, cl_X5_behind.2.2.2.2 σ [vR 38 0, vI x, vI s] M kx → thr cd_X5_borrow ET (Run fam0 none cd_X5_borrow ER ET) 180 0 [some (vR 38 0), some (vI b), some (vI s), some (vI want), some (vI w), some (vI rest), some (vI x), some (vI (minI (hasF M x b s w) rest)), none] M kx
                refine ⟨μ, ⟨rfl, show ((0 ≤ x ∧ x ≤ 5) ∨ (10 ≤ x ∧ x ≤ 13)) ∧ (0 ≤ s ∧ s ≤ 3) from ⟨by omega, by omega⟩⟩, fun ov μ' hq => ?_, fun k hk => hk.elim⟩
                obtain ⟨hov, hmu⟩ : ov = some (vI (behF M s x)) ∧ μ' = M := hq
                rw [hov, hmu]
                show Run fam0 none cd_X5_borrow ER ET 183 0 [some (vR 38 0), some (vI b), some (vI s), some (vI want), some (vI w), some (vI rest), some (vI x), some (vI (minI (hasF M x b s w) rest)), none] [vI (behF M s x)] M
                refine run_k 2 ?_
                show Run fam0 none cd_X5_borrow ER ET 6 0 [some (vR 38 0), some (vI b), some (vI s), some (vI want), some (vI w), some (vI rest), some (vI (behF M s x)), some (vI (minI (hasF M x b s w) rest)), none] [] M
                refine run_w (L' := [some (vR 38 0), some (vI b), some (vI s), some (vI want), some (vI w), some (vI rest), some (vI (behF M s x)), none, none]) ⟨rfl, rfl, rfl, rfl, rfl, rfl, rfl, True.intro⟩ ?_
                exact ih6 l' M rest (behF M s x) (by omega) (by
                    have hb2 := hbor
                    rw [borL, if_pos ⟨by omega, by omega⟩, if_neg (by omega)] at hb2
                    exact ⟨hbeh, hpre, hb2, by omega, hLk, hPk, hGk⟩)
              · refine run_k 34 ?_
                show (0 ≤ (M 38 0 11) ∧ (M 38 0 11) < 1000) ∧ ((0 ≤ (M 38 0 11) ∧ (M 38 0 11) < 1000) ∧ ((0 ≤ (M 38 0 11) ∧ (M 38 0 11) < 1000) ∧ ((0 ≤ (M 38 0 11) ∧ (M 38 0 11) < 1000) ∧ ((0 ≤ (w32 (x - 10)) → Run fam0 none cd_X5_borrow ER ET 126 0 [some (vR 38 0), some (vI b), some (vI s), some (vI want), some (vI w), some (vI rest), some (vI x), some (vI (minI (hasF M x b s w) rest)), some (vI (w32 (x - 10)))] [vI (M 38 0 11), vR 52 0] (st (st (st (st M 48 0 (M 38 0 11) s) 49 0 (M 38 0 11) x) 50 0 (M 38 0 11) b) 51 0 (M 38 0 11) (minI (hasF M x b s w) rest))) ∧ ((w32 (x - 10)) < 0 → Run fam0 none cd_X5_borrow ER ET 122 0 [some (vR 38 0), some (vI b), some (vI s), some (vI want), some (vI w), some (vI rest), some (vI x), some (vI (minI (hasF M x b s w) rest)), some (vI (w32 (x - 10)))] [vI (M 38 0 11), vR 52 0] (st (st (st (st M 48 0 (M 38 0 11) s) 49 0 (M 38 0 11) x) 50 0 (M 38 0 11) b) 51 0 (M 38 0 11) (minI (hasF M x b s w) rest)))))))
                rw [show w32 (x - 10) = x - 10 from w32_id (by simp only [in32]; omega)]
                refine ⟨by omega, ?_⟩
                refine ⟨by omega, ?_⟩
                refine ⟨by omega, ?_⟩
                refine ⟨by omega, ?_⟩
                refine ⟨fun c13 => ?_, fun c13 => ?_⟩
                · refine run_k 11 ?_
                  show (0 ≤ (w32 ((w32 (4 * (x - 10))) + s)) ∧ (w32 ((w32 (4 * (x - 10))) + s)) < 16) ∧ ((0 ≤ (M 38 0 11) ∧ (M 38 0 11) < 1000) ∧ (((x - 10) < 0 → Run fam0 none cd_X5_borrow ER ET 159 0 [some (vR 38 0), some (vI b), some (vI s), some (vI want), some (vI w), some (vI rest), some (vI x), some (vI (minI (hasF M x b s w) rest)), some (vI (x - 10))] [] (st (st (st (st (st M 48 0 (M 38 0 11) s) 49 0 (M 38 0 11) x) 50 0 (M 38 0 11) b) 51 0 (M 38 0 11) (minI (hasF M x b s w) rest)) 52 0 (M 38 0 11) (M 46 0 (w32 ((w32 (4 * (x - 10))) + s))))) ∧ (0 ≤ (x - 10) → Run fam0 none cd_X5_borrow ER ET 143 0 [some (vR 38 0), some (vI b), some (vI s), some (vI want), some (vI w), some (vI rest), some (vI x), some (vI (minI (hasF M x b s w) rest)), some (vI (x - 10))] [] (st (st (st (st (st M 48 0 (M 38 0 11) s) 49 0 (M 38 0 11) x) 50 0 (M 38 0 11) b) 51 0 (M 38 0 11) (minI (hasF M x b s w) rest)) 52 0 (M 38 0 11) (M 46 0 (w32 ((w32 (4 * (x - 10))) + s)))))))
                  rw [show w32 (4 * (x - 10)) = 4 * (x - 10) from w32_id (by simp only [in32]; omega)]
                  rw [show w32 ((4 * (x - 10)) + s) = (4 * (x - 10)) + s from w32_id (by simp only [in32]; omega)]
                  refine ⟨by omega, ?_⟩
                  refine ⟨by omega, ?_⟩
                  refine ⟨fun c14 => absurd c14 (by omega), fun c14 => ?_⟩
                  refine run_k 26 ?_
                  show (0 ≤ (w32 ((w32 (4 * (x - 10))) + s)) ∧ (w32 ((w32 (4 * (x - 10))) + s)) < 16) ∧ ((0 ≤ (w32 ((w32 (4 * (x - 10))) + s)) ∧ (w32 ((w32 (4 * (x - 10))) + s)) < 16) ∧ (∃ σ : Mm, cl_X5_behind.2.2.1 σ [vR 38 0, vI x, vI s] (st (st (st (st (st (st (st M 48 0 (M 38 0 11) s) 49 0 (M 38 0 11) x) 50 0 (M 38 0 11) b) 51 0 (M 38 0 11) (minI (hasF M x b s w) rest)) 52 0 (M 38 0 11) (M 46 0 ((4 * (x - 10)) + s))) 45 0 (w32 ((w32 (4 * (x - 10))) + s)) (w32 ((M 45 0 (w32 ((w32 (4 * (x - 10))) + s))) - (minI (hasF M x b s w) rest)))) 38 0 11 (w32 ((M 38 0 11) + 1))) ∧ (∀ ov μ', cl_X5_behind.2.2.2.1 σ [vR 38 0, vI x, vI s] (st (st (st (st (st (st (st M 48 0 (M 38 0 11) s) 49 0 (M 38 0 11) x) 50 0 (M 38 0 11) b) 51 0 (M 38 0 11) (minI (hasF M x b s w) rest)) 52 0 (M 38 0 11) (M 46 0 ((4 * (x - 10)) + s))) 45 0 (w32 ((w32 (4 * (x - 10))) + s)) (w32 ((M 45 0 (w32 ((w32 (4 * (x - 10))) + s))) - (minI (hasF M x b s w) rest)))) 38 0 11 (w32 ((M 38 0 11) + 1))) ov μ' → Run fam0 none cd_X5_borrow ER ET 183 0 [some (vR 38 0), some (vI b), some (vI s), some (vI want), some (vI w), some (vI (w32 (rest - (minI (hasF M x b s w) rest)))), some (vI x), some (vI (minI (hasF M x b s w) rest)), some (vI (x - 10))] (ov.toList ++ []) μ') ∧ ∀ kx, cl_X5_behind.2.2.2.2 σ [vR 38 0, vI x, vI s] (st (st (st (st (st (st (st M 48 0 (M 38 0 11) s) 49 0 (M 38 0 11) x) 50 0 (M 38 0 11) b) 51 0 (M 38 0 11) (minI (hasF M x b s w) rest)) 52 0 (M 38 0 11) (M 46 0 ((4 * (x - 10)) + s))) 45 0 (w32 ((w32 (4 * (x - 10))) + s)) (w32 ((M 45 0 (w32 ((w32 (4 * (x - 10))) + s))) - (minI (hasF M x b s w) rest)))) 38 0 11 (w32 ((M 38 0 11) + 1))) kx → thr cd_X5_borrow ET (Run fam0 none cd_X5_borrow ER ET) 180 0 [some (vR 38 0), some (vI b), some (vI s), some (vI want), some (vI w), some (vI (w32 (rest - (minI (hasF M x b s w) rest)))), some (vI x), some (vI (minI (hasF M x b s w) rest)), some (vI (x - 10))] (st (st (st (st (st (st (st M 48 0 (M 38 0 11) s) 49 0 (M 38 0 11) x) 50 0 (M 38 0 11) b) 51 0 (M 38 0 11) (minI (hasF M x b s w) rest)) 52 0 (M 38 0 11) (M 46 0 ((4 * (x - 10)) + s))) 45 0 (w32 ((w32 (4 * (x - 10))) + s)) (w32 ((M 45 0 (w32 ((w32 (4 * (x - 10))) + s))) - (minI (hasF M x b s w) rest)))) 38 0 11 (w32 ((M 38 0 11) + 1))) kx))
                  rw [show w32 (4 * (x - 10)) = 4 * (x - 10) from w32_id (by simp only [in32]; omega)]
                  rw [show w32 ((4 * (x - 10)) + s) = (4 * (x - 10)) + s from w32_id (by simp only [in32]; omega)]
                  rw [show w32 ((M 45 0 ((4 * (x - 10)) + s)) - (minI (hasF M x b s w) rest)) = (M 45 0 ((4 * (x - 10)) + s)) - (minI (hasF M x b s w) rest) from w32_id (by simp only [in32]; omega)]
                  rw [show w32 ((M 38 0 11) + 1) = (M 38 0 11) + 1 from w32_id (by simp only [in32]; omega)]
                  rw [show w32 (rest - (minI (hasF M x b s w) rest)) = rest - (minI (hasF M x b s w) rest) from w32_id (by simp only [in32]; omega)]
                  refine ⟨by omega, ?_⟩
                  refine ⟨by omega, ?_⟩
                  refine ⟨μ, ⟨rfl, show ((0 ≤ x ∧ x ≤ 5) ∨ (10 ≤ x ∧ x ≤ 13)) ∧ (0 ≤ s ∧ s ≤ 3) from ⟨by omega, by omega⟩⟩, fun ov μ' hq => ?_, fun k hk => hk.elim⟩
                  obtain ⟨hov, hmu⟩ : ov = some (vI (behF (st (st (st (st (st (st (st M 48 0 (M 38 0 11) s) 49 0 (M 38 0 11) x) 50 0 (M 38 0 11) b) 51 0 (M 38 0 11) (minI (hasF M x b s w) rest)) 52 0 (M 38 0 11) (M 46 0 ((4 * (x - 10)) + s))) 45 0 ((4 * (x - 10)) + s) ((M 45 0 ((4 * (x - 10)) + s)) - (minI (hasF M x b s w) rest))) 38 0 11 ((M 38 0 11) + 1)) s x)) ∧ μ' = st (st (st (st (st (st (st M 48 0 (M 38 0 11) s) 49 0 (M 38 0 11) x) 50 0 (M 38 0 11) b) 51 0 (M 38 0 11) (minI (hasF M x b s w) rest)) 52 0 (M 38 0 11) (M 46 0 ((4 * (x - 10)) + s))) 45 0 ((4 * (x - 10)) + s) ((M 45 0 ((4 * (x - 10)) + s)) - (minI (hasF M x b s w) rest))) 38 0 11 ((M 38 0 11) + 1) := hq
                  rw [hov, hmu]
                  show Run fam0 none cd_X5_borrow ER ET 183 0 [some (vR 38 0), some (vI b), some (vI s), some (vI want), some (vI w), some (vI (rest - (minI (hasF M x b s w) rest))), some (vI x), some (vI (minI (hasF M x b s w) rest)), some (vI (x - 10))] [vI (behF (st (st (st (st (st (st (st M 48 0 (M 38 0 11) s) 49 0 (M 38 0 11) x) 50 0 (M 38 0 11) b) 51 0 (M 38 0 11) (minI (hasF M x b s w) rest)) 52 0 (M 38 0 11) (M 46 0 ((4 * (x - 10)) + s))) 45 0 ((4 * (x - 10)) + s) ((M 45 0 ((4 * (x - 10)) + s)) - (minI (hasF M x b s w) rest))) 38 0 11 ((M 38 0 11) + 1)) s x)] (st (st (st (st (st (st (st M 48 0 (M 38 0 11) s) 49 0 (M 38 0 11) x) 50 0 (M 38 0 11) b) 51 0 (M 38 0 11) (minI (hasF M x b s w) rest)) 52 0 (M 38 0 11) (M 46 0 ((4 * (x - 10)) + s))) 45 0 ((4 * (x - 10)) + s) ((M 45 0 ((4 * (x - 10)) + s)) - (minI (hasF M x b s w) rest))) 38 0 11 ((M 38 0 11) + 1))
                  refine run_k 2 ?_
                  show Run fam0 none cd_X5_borrow ER ET 6 0 [some (vR 38 0), some (vI b), some (vI s), some (vI want), some (vI w), some (vI (rest - (minI (hasF M x b s w) rest))), some (vI (behF (st (st (st (st (st (st (st M 48 0 (M 38 0 11) s) 49 0 (M 38 0 11) x) 50 0 (M 38 0 11) b) 51 0 (M 38 0 11) (minI (hasF M x b s w) rest)) 52 0 (M 38 0 11) (M 46 0 ((4 * (x - 10)) + s))) 45 0 ((4 * (x - 10)) + s) ((M 45 0 ((4 * (x - 10)) + s)) - (minI (hasF M x b s w) rest))) 38 0 11 ((M 38 0 11) + 1)) s x)), some (vI (minI (hasF M x b s w) rest)), some (vI (x - 10))] [] (st (st (st (st (st (st (st M 48 0 (M 38 0 11) s) 49 0 (M 38 0 11) x) 50 0 (M 38 0 11) b) 51 0 (M 38 0 11) (minI (hasF M x b s w) rest)) 52 0 (M 38 0 11) (M 46 0 ((4 * (x - 10)) + s))) 45 0 ((4 * (x - 10)) + s) ((M 45 0 ((4 * (x - 10)) + s)) - (minI (hasF M x b s w) rest))) 38 0 11 ((M 38 0 11) + 1))
                  refine run_w (L' := [some (vR 38 0), some (vI b), some (vI s), some (vI want), some (vI w), some (vI (rest - (minI (hasF M x b s w) rest))), some (vI (behF (st (st (st (st (st (st (st M 48 0 (M 38 0 11) s) 49 0 (M 38 0 11) x) 50 0 (M 38 0 11) b) 51 0 (M 38 0 11) (minI (hasF M x b s w) rest)) 52 0 (M 38 0 11) (M 46 0 ((4 * (x - 10)) + s))) 45 0 ((4 * (x - 10)) + s) ((M 45 0 ((4 * (x - 10)) + s)) - (minI (hasF M x b s w) rest))) 38 0 11 ((M 38 0 11) + 1)) s x)), none, none]) ⟨rfl, rfl, rfl, rfl, rfl, rfl, rfl, True.intro⟩ ?_
                  exact ih6 l' (st (st (st (st (st (st (st M 48 0 (M 38 0 11) s) 49 0 (M 38 0 11) x) 50 0 (M 38 0 11) b) 51 0 (M 38 0 11) (minI (hasF M x b s w) rest)) 52 0 (M 38 0 11) (M 46 0 ((4 * (x - 10)) + s))) 45 0 ((4 * (x - 10)) + s) ((M 45 0 ((4 * (x - 10)) + s)) - (minI (hasF M x b s w) rest))) 38 0 11 ((M 38 0 11) + 1)) (rest - (minI (hasF M x b s w) rest)) (behF (st (st (st (st (st (st (st M 48 0 (M 38 0 11) s) 49 0 (M 38 0 11) x) 50 0 (M 38 0 11) b) 51 0 (M 38 0 11) (minI (hasF M x b s w) rest)) 52 0 (M 38 0 11) (M 46 0 ((4 * (x - 10)) + s))) 45 0 ((4 * (x - 10)) + s) ((M 45 0 ((4 * (x - 10)) + s)) - (minI (hasF M x b s w) rest))) 38 0 11 ((M 38 0 11) + 1)) s x) (by omega) (by
                      have hmk : st (st (st (st (st (st (st M 48 0 (M 38 0 11) s) 49 0 (M 38 0 11) x) 50 0 (M 38 0 11) b) 51 0 (M 38 0 11) (minI (hasF M x b s w) rest)) 52 0 (M 38 0 11) (M 46 0 ((4 * (x - 10)) + s))) 45 0 ((4 * (x - 10)) + s) ((M 45 0 ((4 * (x - 10)) + s)) - (minI (hasF M x b s w) rest))) 38 0 11 ((M 38 0 11) + 1) = mkLn M s x b (minI (hasF M x b s w) rest) := by first | simp only [mkLn, if_pos (show x < 10 by omega)] | simp only [mkLn, if_neg (show ¬ x < 10 by omega)]
                      obtain ⟨hok1, hok2⟩ := mkLn_ok hLk hGk (by omega) hxr hb hs (own := (minI (hasF M x b s w) rest)) ⟨by omega, by omega⟩ (fun q => by have := hhr.2.2 q; omega)
                      have hb2 := hbor
                      rw [borL, if_pos ⟨by omega, by omega⟩, if_pos (by omega)] at hb2
                      rw [hmk]
                      exact ⟨(beh_next (by rw [mkLn_srcs]; exact hpre0)).1, by rw [mkLn_srcs]; exact hpre, hb2, by omega, hok1, mkLn_Pk hPk _ _ _ _, hok2⟩)
                · refine run_k 5 ?_
                  show (0 ≤ (M 38 0 11) ∧ (M 38 0 11) < 1000) ∧ (((x - 10) < 0 → Run fam0 none cd_X5_borrow ER ET 159 0 [some (vR 38 0), some (vI b), some (vI s), some (vI want), some (vI w), some (vI rest), some (vI x), some (vI (minI (hasF M x b s w) rest)), some (vI (x - 10))] [] (st (st (st (st (st M 48 0 (M 38 0 11) s) 49 0 (M 38 0 11) x) 50 0 (M 38 0 11) b) 51 0 (M 38 0 11) (minI (hasF M x b s w) rest)) 52 0 (M 38 0 11) 0)) ∧ (0 ≤ (x - 10) → Run fam0 none cd_X5_borrow ER ET 143 0 [some (vR 38 0), some (vI b), some (vI s), some (vI want), some (vI w), some (vI rest), some (vI x), some (vI (minI (hasF M x b s w) rest)), some (vI (x - 10))] [] (st (st (st (st (st M 48 0 (M 38 0 11) s) 49 0 (M 38 0 11) x) 50 0 (M 38 0 11) b) 51 0 (M 38 0 11) (minI (hasF M x b s w) rest)) 52 0 (M 38 0 11) 0)))
                  refine ⟨by omega, ?_⟩
                  refine ⟨fun c17 => ?_, fun c17 => absurd c17 (by omega)⟩
                  refine run_k 14 ?_
                  show ∃ σ : Mm, cl_X5_behind.2.2.1 σ [vR 38 0, vI x, vI s] (st (st (st (st (st (st M 48 0 (M 38 0 11) s) 49 0 (M 38 0 11) x) 50 0 (M 38 0 11) b) 51 0 (M 38 0 11) (minI (hasF M x b s w) rest)) 52 0 (M 38 0 11) 0) 38 0 11 (w32 ((M 38 0 11) + 1))) ∧ (∀ ov μ', cl_X5_behind.2.2.2.1 σ [vR 38 0, vI x, vI s] (st (st (st (st (st (st M 48 0 (M 38 0 11) s) 49 0 (M 38 0 11) x) 50 0 (M 38 0 11) b) 51 0 (M 38 0 11) (minI (hasF M x b s w) rest)) 52 0 (M 38 0 11) 0) 38 0 11 (w32 ((M 38 0 11) + 1))) ov μ' → Run fam0 none cd_X5_borrow ER ET 183 0 [some (vR 38 0), some (vI b), some (vI s), some (vI want), some (vI w), some (vI (w32 (rest - (minI (hasF M x b s w) rest)))), some (vI x), some (vI (minI (hasF M x b s w) rest)), some (vI (x - 10))] (ov.toList ++ []) μ') ∧ ∀ kx, cl_X5_behind.2.2.2.2 σ [vR 38 0, vI x, vI s] (st (st (st (st (st (st M 48 0 (M 38 0 11) s) 49 0 (M 38 0 11) x) 50 0 (M 38 0 11) b) 51 0 (M 38 0 11) (minI (hasF M x b s w) rest)) 52 0 (M 38 0 11) 0) 38 0 11 (w32 ((M 38 0 11) + 1))) kx → thr cd_X5_borrow ET (Run fam0 none cd_X5_borrow ER ET) 180 0 [some (vR 38 0), some (vI b), some (vI s), some (vI want), some (vI w), some (vI (w32 (rest - (minI (hasF M x b s w) rest)))), some (vI x), some (vI (minI (hasF M x b s w) rest)), some (vI (x - 10))] (st (st (st (st (st (st M 48 0 (M 38 0 11) s) 49 0 (M 38 0 11) x) 50 0 (M 38 0 11) b) 51 0 (M 38 0 11) (minI (hasF M x b s w) rest)) 52 0 (M 38 0 11) 0) 38 0 11 (w32 ((M 38 0 11) + 1))) kx
                  rw [show w32 ((M 38 0 11) + 1) = (M 38 0 11) + 1 from w32_id (by simp only [in32]; omega)]
                  rw [show w32 (rest - (minI (hasF M x b s w) rest)) = rest - (minI (hasF M x b s w) rest) from w32_id (by simp only [in32]; omega)]
                  refine ⟨μ, ⟨rfl, show ((0 ≤ x ∧ x ≤ 5) ∨ (10 ≤ x ∧ x ≤ 13)) ∧ (0 ≤ s ∧ s ≤ 3) from ⟨by omega, by omega⟩⟩, fun ov μ' hq => ?_, fun k hk => hk.elim⟩
                  obtain ⟨hov, hmu⟩ : ov = some (vI (behF (st (st (st (st (st (st M 48 0 (M 38 0 11) s) 49 0 (M 38 0 11) x) 50 0 (M 38 0 11) b) 51 0 (M 38 0 11) (minI (hasF M x b s w) rest)) 52 0 (M 38 0 11) 0) 38 0 11 ((M 38 0 11) + 1)) s x)) ∧ μ' = st (st (st (st (st (st M 48 0 (M 38 0 11) s) 49 0 (M 38 0 11) x) 50 0 (M 38 0 11) b) 51 0 (M 38 0 11) (minI (hasF M x b s w) rest)) 52 0 (M 38 0 11) 0) 38 0 11 ((M 38 0 11) + 1) := hq
                  rw [hov, hmu]
                  show Run fam0 none cd_X5_borrow ER ET 183 0 [some (vR 38 0), some (vI b), some (vI s), some (vI want), some (vI w), some (vI (rest - (minI (hasF M x b s w) rest))), some (vI x), some (vI (minI (hasF M x b s w) rest)), some (vI (x - 10))] [vI (behF (st (st (st (st (st (st M 48 0 (M 38 0 11) s) 49 0 (M 38 0 11) x) 50 0 (M 38 0 11) b) 51 0 (M 38 0 11) (minI (hasF M x b s w) rest)) 52 0 (M 38 0 11) 0) 38 0 11 ((M 38 0 11) + 1)) s x)] (st (st (st (st (st (st M 48 0 (M 38 0 11) s) 49 0 (M 38 0 11) x) 50 0 (M 38 0 11) b) 51 0 (M 38 0 11) (minI (hasF M x b s w) rest)) 52 0 (M 38 0 11) 0) 38 0 11 ((M 38 0 11) + 1))
                  refine run_k 2 ?_
                  show Run fam0 none cd_X5_borrow ER ET 6 0 [some (vR 38 0), some (vI b), some (vI s), some (vI want), some (vI w), some (vI (rest - (minI (hasF M x b s w) rest))), some (vI (behF (st (st (st (st (st (st M 48 0 (M 38 0 11) s) 49 0 (M 38 0 11) x) 50 0 (M 38 0 11) b) 51 0 (M 38 0 11) (minI (hasF M x b s w) rest)) 52 0 (M 38 0 11) 0) 38 0 11 ((M 38 0 11) + 1)) s x)), some (vI (minI (hasF M x b s w) rest)), some (vI (x - 10))] [] (st (st (st (st (st (st M 48 0 (M 38 0 11) s) 49 0 (M 38 0 11) x) 50 0 (M 38 0 11) b) 51 0 (M 38 0 11) (minI (hasF M x b s w) rest)) 52 0 (M 38 0 11) 0) 38 0 11 ((M 38 0 11) + 1))
                  refine run_w (L' := [some (vR 38 0), some (vI b), some (vI s), some (vI want), some (vI w), some (vI (rest - (minI (hasF M x b s w) rest))), some (vI (behF (st (st (st (st (st (st M 48 0 (M 38 0 11) s) 49 0 (M 38 0 11) x) 50 0 (M 38 0 11) b) 51 0 (M 38 0 11) (minI (hasF M x b s w) rest)) 52 0 (M 38 0 11) 0) 38 0 11 ((M 38 0 11) + 1)) s x)), none, none]) ⟨rfl, rfl, rfl, rfl, rfl, rfl, rfl, True.intro⟩ ?_
                  exact ih6 l' (st (st (st (st (st (st M 48 0 (M 38 0 11) s) 49 0 (M 38 0 11) x) 50 0 (M 38 0 11) b) 51 0 (M 38 0 11) (minI (hasF M x b s w) rest)) 52 0 (M 38 0 11) 0) 38 0 11 ((M 38 0 11) + 1)) (rest - (minI (hasF M x b s w) rest)) (behF (st (st (st (st (st (st M 48 0 (M 38 0 11) s) 49 0 (M 38 0 11) x) 50 0 (M 38 0 11) b) 51 0 (M 38 0 11) (minI (hasF M x b s w) rest)) 52 0 (M 38 0 11) 0) 38 0 11 ((M 38 0 11) + 1)) s x) (by omega) (by
                      have hmk : st (st (st (st (st (st M 48 0 (M 38 0 11) s) 49 0 (M 38 0 11) x) 50 0 (M 38 0 11) b) 51 0 (M 38 0 11) (minI (hasF M x b s w) rest)) 52 0 (M 38 0 11) 0) 38 0 11 ((M 38 0 11) + 1) = mkLn M s x b (minI (hasF M x b s w) rest) := by first | simp only [mkLn, if_pos (show x < 10 by omega)] | simp only [mkLn, if_neg (show ¬ x < 10 by omega)]
                      obtain ⟨hok1, hok2⟩ := mkLn_ok hLk hGk (by omega) hxr hb hs (own := (minI (hasF M x b s w) rest)) ⟨by omega, by omega⟩ (fun q => by have := hhr.2.2 q; omega)
                      have hb2 := hbor
                      rw [borL, if_pos ⟨by omega, by omega⟩, if_pos (by omega)] at hb2
                      rw [hmk]
                      exact ⟨(beh_next (by rw [mkLn_srcs]; exact hpre0)).1, by rw [mkLn_srcs]; exact hpre, hb2, by omega, hok1, mkLn_Pk hPk _ _ _ _, hok2⟩)
            refine ⟨fun c9 => ?_, fun c9 => ?_⟩
            · refine run_k 1 ?_
              show Run fam0 none cd_X5_borrow ER ET 53 0 [some (vR 38 0), some (vI b), some (vI s), some (vI want), some (vI w), some (vI rest), some (vI x), some (vI (hasF M x b s w)), none] [vI (hasF M x b s w)] M
              rw [show (minI (hasF M x b s w) rest) = (hasF M x b s w) from by unfold minI; first | rw [if_pos (by omega)] | rw [if_neg (by omega)]] at jn43
              exact jn43
            · refine run_k 2 ?_
              show Run fam0 none cd_X5_borrow ER ET 53 0 [some (vR 38 0), some (vI b), some (vI s), some (vI want), some (vI w), some (vI rest), some (vI x), some (vI (hasF M x b s w)), none] [vI rest] M
              rw [show (minI (hasF M x b s w) rest) = rest from by unfold minI; first | rw [if_pos (by omega)] | rw [if_neg (by omega)]] at jn43
              exact jn43
  exact lp6 _ (srcs μ s) μ want 0 (Nat.lt_succ_self _) (⟨rfl, ⟨[], rfl⟩, rfl, by omega, hLk, hPk, hGk⟩)
set_option maxRecDepth 20000 in
theorem con_X5_borrow (l : Launch) (htr : l.stackTraces = false) (σ : Mm) : CON fam0 63 l yX5_borrow (Cond.code yX5_borrow cX5_borrow 9 (some .int) :: wm) 3 71 0 (cl_X5_borrow.2.2.1 σ) (cl_X5_borrow.2.2.2.1 σ) (cl_X5_borrow.2.2.2.2 σ) :=
  con_of (cd := cd_X5_borrow) (own := RX5) (rk := 1) (sc_of htr (by decide) k_X5_borrow_ok (by decide +kernel) co_X5_ok fl_X5_ok (all_cons ⟨RX5, yX5_has, cX5_has, 5, (some .int), 2, 47, 4, con_X5_has l htr, rfl, vw_X5_102, ⟨rfl, by decide, by decide, by decide +kernel⟩, ⟨by decide, by decide⟩, fun σ as μ h => ⟨38, 0, _, h.1, rfl, TX5, 31, rfl⟩⟩ (all_cons ⟨RX5, yX5_behind, cX5_behind, 4, (some .int), 1, 26, 2, con_X5_behind l htr, rfl, vw_X5_106, ⟨rfl, by decide, by decide, by decide +kernel⟩, ⟨by decide, by decide⟩, fun σ as μ h => ⟨38, 0, _, h.1, rfl, TX5, 31, rfl⟩⟩ all_nil)) all_nil all_nil) rfl (by decide +kernel) rfl rfl rfl rfl (fun as μ hs => by rw [hs.1]; exact Nat.le_of_ble_eq_true rfl)
    (fun as μ hs hM hrg => by
      have hs1 := hs.1
      have hmem : ∀ v, v ∈ ([vR 38 0, vI (iaI as 1), vI (iaI as 2), vI (iaI as 3), vI (iaI as 4)] : List AV) → rg fam0 v := by rw [← hs1]; exact hrg
      have key := run_X5_borrow (ER := cl_X5_borrow.2.2.2.1 σ as μ) (ET := fun k μ' => cl_X5_borrow.2.2.2.2 σ as μ k ∧ μ' = μ) σ μ (iaI as 1) (iaI as 2) (iaI as 3) (iaI as 4) hM (hmem (vI (iaI as 1)) (by simp)) (hmem (vI (iaI as 2)) (by simp)) (hmem (vI (iaI as 3)) (by simp)) (hmem (vI (iaI as 4)) (by simp)) hs.2 (fun ov μ' h => h)
      have e : entL as 9 = [some (vR 38 0), some (vI (iaI as 1)), some (vI (iaI as 2)), some (vI (iaI as 3)), some (vI (iaI as 4)), none, none, none, none] := by rw [hs1]; rfl
      rw [e]; exact key)
