/-! ===== the class: rows of loans, locates, recalls; shares by name and hand -/
/-! ### Primeborrow$Loans.add -/
def cl_X1_add : Cl := (6, 0, fun σ as μ => as = [vR 15 0, vI (iaI as 1), vI (iaI as 2), vI (iaI as 3), vI (iaI as 4), vI (iaI as 5)] ∧ (0 ≤ μ 15 0 5 ∧ μ 15 0 5 < 1000), fun σ as μ ov μ' => ov = none ∧ μ' = st (st (st (st (st (st μ 16 0 (μ 15 0 5) (iaI as 1)) 17 0 (μ 15 0 5) (iaI as 2)) 18 0 (μ 15 0 5) (iaI as 3)) 19 0 (μ 15 0 5) (iaI as 4)) 20 0 (μ 15 0 5) (iaI as 5)) 15 0 5 ((μ 15 0 5) + 1), fun σ as μ k => False)
def cd_X1_add : Cd := mkcd k_X1_add co_X1 fl_X1 [] [] [] [] 6 0 0
set_option maxHeartbeats 4000000 in
set_option maxRecDepth 20000 in
theorem run_X1_add {ER : Option AV → Mm → Prop} {ET : Nat → Mm → Prop} (σ μ : Mm) (a b c d e : Int) (hM : MR fam0 μ) (h_a : in32 a) (h_b : in32 b) (h_c : in32 c) (h_d : in32 d) (h_e : in32 e) (hP : 0 ≤ μ 15 0 5 ∧ μ 15 0 5 < 1000) (hER : ∀ ov μ', (ov = none ∧ μ' = st (st (st (st (st (st μ 16 0 (μ 15 0 5) a) 17 0 (μ 15 0 5) b) 18 0 (μ 15 0 5) c) 19 0 (μ 15 0 5) d) 20 0 (μ 15 0 5) e) 15 0 5 ((μ 15 0 5) + 1)) → ER ov μ') : Run fam0 none cd_X1_add ER ET 0 0 [some (vR 15 0), some (vI a), some (vI b), some (vI c), some (vI d), some (vI e)] [] μ := by
  refine run_k 4 ?_
  show ((μ 15 0 5) < 1000 → Run fam0 none cd_X1_add ER ET 11 0 [some (vR 15 0), some (vI a), some (vI b), some (vI c), some (vI d), some (vI e)] [] μ) ∧ (1000 ≤ (μ 15 0 5) → Run fam0 none cd_X1_add ER ET 10 0 [some (vR 15 0), some (vI a), some (vI b), some (vI c), some (vI d), some (vI e)] [] μ)
  refine ⟨fun c1 => ?_, fun c1 => ?_⟩
  · refine run_k 37 ?_
    show (0 ≤ (μ 15 0 5) ∧ (μ 15 0 5) < 1000) ∧ ((0 ≤ (μ 15 0 5) ∧ (μ 15 0 5) < 1000) ∧ ((0 ≤ (μ 15 0 5) ∧ (μ 15 0 5) < 1000) ∧ ((0 ≤ (μ 15 0 5) ∧ (μ 15 0 5) < 1000) ∧ ((0 ≤ (μ 15 0 5) ∧ (μ 15 0 5) < 1000) ∧ (ER none (st (st (st (st (st (st μ 16 0 (μ 15 0 5) a) 17 0 (μ 15 0 5) b) 18 0 (μ 15 0 5) c) 19 0 (μ 15 0 5) d) 20 0 (μ 15 0 5) e) 15 0 5 (w32 ((μ 15 0 5) + 1))))))))
    rw [show w32 ((μ 15 0 5) + 1) = (μ 15 0 5) + 1 from w32_id (by simp only [in32]; omega)]
    refine ⟨by omega, ?_⟩
    refine ⟨by omega, ?_⟩
    refine ⟨by omega, ?_⟩
    refine ⟨by omega, ?_⟩
    refine ⟨by omega, ?_⟩
    first | (exfalso; omega) | exact hER _ _ ⟨rfl, rfl⟩
  · refine run_k 1 ?_
    show ER none μ
    first | (exfalso; omega) | exact hER _ _ ⟨rfl, rfl⟩
set_option maxRecDepth 20000 in
theorem con_X1_add (l : Launch) (htr : l.stackTraces = false) (σ : Mm) : CON fam0 63 l yX1_add (Cond.code yX1_add cX1_add 6 none :: wm) 0 0 0 (cl_X1_add.2.2.1 σ) (cl_X1_add.2.2.2.1 σ) (cl_X1_add.2.2.2.2 σ) :=
  con_of (cd := cd_X1_add) (own := RX1) (rk := 0) (sc_of htr (by decide) k_X1_add_ok (by decide +kernel) co_X1_ok fl_X1_ok all_nil all_nil all_nil) rfl (by decide +kernel) rfl rfl rfl rfl (fun as μ hs => by rw [hs.1]; exact Nat.le_of_ble_eq_true rfl)
    (fun as μ hs hM hrg => by
      have hs1 := hs.1
      have hmem : ∀ v, v ∈ ([vR 15 0, vI (iaI as 1), vI (iaI as 2), vI (iaI as 3), vI (iaI as 4), vI (iaI as 5)] : List AV) → rg fam0 v := by rw [← hs1]; exact hrg
      have key := run_X1_add (ER := cl_X1_add.2.2.2.1 σ as μ) (ET := fun k μ' => cl_X1_add.2.2.2.2 σ as μ k ∧ μ' = μ) σ μ (iaI as 1) (iaI as 2) (iaI as 3) (iaI as 4) (iaI as 5) hM (hmem (vI (iaI as 1)) (by simp)) (hmem (vI (iaI as 2)) (by simp)) (hmem (vI (iaI as 3)) (by simp)) (hmem (vI (iaI as 4)) (by simp)) (hmem (vI (iaI as 5)) (by simp)) hs.2 (fun ov μ' h => h)
      have e : entL as 6 = [some (vR 15 0), some (vI (iaI as 1)), some (vI (iaI as 2)), some (vI (iaI as 3)), some (vI (iaI as 4)), some (vI (iaI as 5))] := by rw [hs1]; rfl
      rw [e]; exact key)
/-! ### Primeborrow$Locates.add -/
def cl_X2_add : Cl := (5, 0, fun σ as μ => as = [vR 21 0, vI (iaI as 1), vI (iaI as 2), vI (iaI as 3), vI (iaI as 4)] ∧ (0 ≤ μ 21 0 5 ∧ μ 21 0 5 < 60), fun σ as μ ov μ' => ov = none ∧ μ' = st (st (st (st (st μ 22 0 (μ 21 0 5) (iaI as 1)) 23 0 (μ 21 0 5) (iaI as 2)) 24 0 (μ 21 0 5) (iaI as 3)) 25 0 (μ 21 0 5) (iaI as 4)) 21 0 5 ((μ 21 0 5) + 1), fun σ as μ k => False)
def cd_X2_add : Cd := mkcd k_X2_add co_X2 fl_X2 [] [] [] [] 5 0 0
set_option maxHeartbeats 4000000 in
set_option maxRecDepth 20000 in
theorem run_X2_add {ER : Option AV → Mm → Prop} {ET : Nat → Mm → Prop} (σ μ : Mm) (a b c d : Int) (hM : MR fam0 μ) (h_a : in32 a) (h_b : in32 b) (h_c : in32 c) (h_d : in32 d) (hP : 0 ≤ μ 21 0 5 ∧ μ 21 0 5 < 60) (hER : ∀ ov μ', (ov = none ∧ μ' = st (st (st (st (st μ 22 0 (μ 21 0 5) a) 23 0 (μ 21 0 5) b) 24 0 (μ 21 0 5) c) 25 0 (μ 21 0 5) d) 21 0 5 ((μ 21 0 5) + 1)) → ER ov μ') : Run fam0 none cd_X2_add ER ET 0 0 [some (vR 21 0), some (vI a), some (vI b), some (vI c), some (vI d)] [] μ := by
  refine run_k 4 ?_
  show ((μ 21 0 5) < 60 → Run fam0 none cd_X2_add ER ET 10 0 [some (vR 21 0), some (vI a), some (vI b), some (vI c), some (vI d)] [] μ) ∧ (60 ≤ (μ 21 0 5) → Run fam0 none cd_X2_add ER ET 9 0 [some (vR 21 0), some (vI a), some (vI b), some (vI c), some (vI d)] [] μ)
  refine ⟨fun c1 => ?_, fun c1 => ?_⟩
  · refine run_k 31 ?_
    show (0 ≤ (μ 21 0 5) ∧ (μ 21 0 5) < 60) ∧ ((0 ≤ (μ 21 0 5) ∧ (μ 21 0 5) < 60) ∧ ((0 ≤ (μ 21 0 5) ∧ (μ 21 0 5) < 60) ∧ ((0 ≤ (μ 21 0 5) ∧ (μ 21 0 5) < 60) ∧ (ER none (st (st (st (st (st μ 22 0 (μ 21 0 5) a) 23 0 (μ 21 0 5) b) 24 0 (μ 21 0 5) c) 25 0 (μ 21 0 5) d) 21 0 5 (w32 ((μ 21 0 5) + 1)))))))
    rw [show w32 ((μ 21 0 5) + 1) = (μ 21 0 5) + 1 from w32_id (by simp only [in32]; omega)]
    refine ⟨by omega, ?_⟩
    refine ⟨by omega, ?_⟩
    refine ⟨by omega, ?_⟩
    refine ⟨by omega, ?_⟩
    first | (exfalso; omega) | exact hER _ _ ⟨rfl, rfl⟩
  · refine run_k 1 ?_
    show ER none μ
    first | (exfalso; omega) | exact hER _ _ ⟨rfl, rfl⟩
set_option maxRecDepth 20000 in
theorem con_X2_add (l : Launch) (htr : l.stackTraces = false) (σ : Mm) : CON fam0 63 l yX2_add (Cond.code yX2_add cX2_add 5 none :: wm) 0 0 0 (cl_X2_add.2.2.1 σ) (cl_X2_add.2.2.2.1 σ) (cl_X2_add.2.2.2.2 σ) :=
  con_of (cd := cd_X2_add) (own := RX2) (rk := 0) (sc_of htr (by decide) k_X2_add_ok (by decide +kernel) co_X2_ok fl_X2_ok all_nil all_nil all_nil) rfl (by decide +kernel) rfl rfl rfl rfl (fun as μ hs => by rw [hs.1]; exact Nat.le_of_ble_eq_true rfl)
    (fun as μ hs hM hrg => by
      have hs1 := hs.1
      have hmem : ∀ v, v ∈ ([vR 21 0, vI (iaI as 1), vI (iaI as 2), vI (iaI as 3), vI (iaI as 4)] : List AV) → rg fam0 v := by rw [← hs1]; exact hrg
      have key := run_X2_add (ER := cl_X2_add.2.2.2.1 σ as μ) (ET := fun k μ' => cl_X2_add.2.2.2.2 σ as μ k ∧ μ' = μ) σ μ (iaI as 1) (iaI as 2) (iaI as 3) (iaI as 4) hM (hmem (vI (iaI as 1)) (by simp)) (hmem (vI (iaI as 2)) (by simp)) (hmem (vI (iaI as 3)) (by simp)) (hmem (vI (iaI as 4)) (by simp)) hs.2 (fun ov μ' h => h)
      have e : entL as 5 = [some (vR 21 0), some (vI (iaI as 1)), some (vI (iaI as 2)), some (vI (iaI as 3)), some (vI (iaI as 4))] := by rw [hs1]; rfl
      rw [e]; exact key)
/-! ### Primeborrow$Recalls.add -/
def cl_X3_add : Cl := (5, 0, fun σ as μ => as = [vR 27 0, vI (iaI as 1), vI (iaI as 2), vI (iaI as 3), vI (iaI as 4)] ∧ (0 ≤ μ 27 0 5 ∧ μ 27 0 5 < 40), fun σ as μ ov μ' => ov = none ∧ μ' = st (st (st (st (st μ 28 0 (μ 27 0 5) (iaI as 1)) 29 0 (μ 27 0 5) (iaI as 2)) 30 0 (μ 27 0 5) (iaI as 3)) 31 0 (μ 27 0 5) (iaI as 4)) 27 0 5 ((μ 27 0 5) + 1), fun σ as μ k => False)
def cd_X3_add : Cd := mkcd k_X3_add co_X3 fl_X3 [] [] [] [] 5 0 0
set_option maxHeartbeats 4000000 in
set_option maxRecDepth 20000 in
theorem run_X3_add {ER : Option AV → Mm → Prop} {ET : Nat → Mm → Prop} (σ μ : Mm) (a b c d : Int) (hM : MR fam0 μ) (h_a : in32 a) (h_b : in32 b) (h_c : in32 c) (h_d : in32 d) (hP : 0 ≤ μ 27 0 5 ∧ μ 27 0 5 < 40) (hER : ∀ ov μ', (ov = none ∧ μ' = st (st (st (st (st μ 28 0 (μ 27 0 5) a) 29 0 (μ 27 0 5) b) 30 0 (μ 27 0 5) c) 31 0 (μ 27 0 5) d) 27 0 5 ((μ 27 0 5) + 1)) → ER ov μ') : Run fam0 none cd_X3_add ER ET 0 0 [some (vR 27 0), some (vI a), some (vI b), some (vI c), some (vI d)] [] μ := by
  refine run_k 4 ?_
  show ((μ 27 0 5) < 40 → Run fam0 none cd_X3_add ER ET 10 0 [some (vR 27 0), some (vI a), some (vI b), some (vI c), some (vI d)] [] μ) ∧ (40 ≤ (μ 27 0 5) → Run fam0 none cd_X3_add ER ET 9 0 [some (vR 27 0), some (vI a), some (vI b), some (vI c), some (vI d)] [] μ)
  refine ⟨fun c1 => ?_, fun c1 => ?_⟩
  · refine run_k 31 ?_
    show (0 ≤ (μ 27 0 5) ∧ (μ 27 0 5) < 40) ∧ ((0 ≤ (μ 27 0 5) ∧ (μ 27 0 5) < 40) ∧ ((0 ≤ (μ 27 0 5) ∧ (μ 27 0 5) < 40) ∧ ((0 ≤ (μ 27 0 5) ∧ (μ 27 0 5) < 40) ∧ (ER none (st (st (st (st (st μ 28 0 (μ 27 0 5) a) 29 0 (μ 27 0 5) b) 30 0 (μ 27 0 5) c) 31 0 (μ 27 0 5) d) 27 0 5 (w32 ((μ 27 0 5) + 1)))))))
    rw [show w32 ((μ 27 0 5) + 1) = (μ 27 0 5) + 1 from w32_id (by simp only [in32]; omega)]
    refine ⟨by omega, ?_⟩
    refine ⟨by omega, ?_⟩
    refine ⟨by omega, ?_⟩
    refine ⟨by omega, ?_⟩
    first | (exfalso; omega) | exact hER _ _ ⟨rfl, rfl⟩
  · refine run_k 1 ?_
    show ER none μ
    first | (exfalso; omega) | exact hER _ _ ⟨rfl, rfl⟩
set_option maxRecDepth 20000 in
theorem con_X3_add (l : Launch) (htr : l.stackTraces = false) (σ : Mm) : CON fam0 63 l yX3_add (Cond.code yX3_add cX3_add 5 none :: wm) 0 0 0 (cl_X3_add.2.2.1 σ) (cl_X3_add.2.2.2.1 σ) (cl_X3_add.2.2.2.2 σ) :=
  con_of (cd := cd_X3_add) (own := RX3) (rk := 0) (sc_of htr (by decide) k_X3_add_ok (by decide +kernel) co_X3_ok fl_X3_ok all_nil all_nil all_nil) rfl (by decide +kernel) rfl rfl rfl rfl (fun as μ hs => by rw [hs.1]; exact Nat.le_of_ble_eq_true rfl)
    (fun as μ hs hM hrg => by
      have hs1 := hs.1
      have hmem : ∀ v, v ∈ ([vR 27 0, vI (iaI as 1), vI (iaI as 2), vI (iaI as 3), vI (iaI as 4)] : List AV) → rg fam0 v := by rw [← hs1]; exact hrg
      have key := run_X3_add (ER := cl_X3_add.2.2.2.1 σ as μ) (ET := fun k μ' => cl_X3_add.2.2.2.2 σ as μ k ∧ μ' = μ) σ μ (iaI as 1) (iaI as 2) (iaI as 3) (iaI as 4) hM (hmem (vI (iaI as 1)) (by simp)) (hmem (vI (iaI as 2)) (by simp)) (hmem (vI (iaI as 3)) (by simp)) (hmem (vI (iaI as 4)) (by simp)) hs.2 (fun ov μ' h => h)
      have e : entL as 5 = [some (vR 27 0), some (vI (iaI as 1)), some (vI (iaI as 2)), some (vI (iaI as 3)), some (vI (iaI as 4))] := by rw [hs1]; rfl
      rw [e]; exact key)
/-! ### Primeborrow$Loans.open -/
def cl_X1_open : Cl := (1, 0, fun σ as μ => as = [vR 15 0] ∧ (0 ≤ μ 15 0 5 ∧ μ 15 0 5 ≤ 1000), fun σ as μ ov μ' => ov = some (vI (opF (al μ) (μ 15 0 5).toNat)) ∧ μ' = μ, fun σ as μ k => False)
def cd_X1_open : Cd := mkcd k_X1_open co_X1 fl_X1 [] [] [] [] 3 1 0
set_option maxHeartbeats 4000000 in
set_option maxRecDepth 20000 in
theorem run_X1_open {ER : Option AV → Mm → Prop} {ET : Nat → Mm → Prop} (σ μ : Mm) (hM : MR fam0 μ)  (hP : 0 ≤ μ 15 0 5 ∧ μ 15 0 5 ≤ 1000) (hER : ∀ ov μ', (ov = some (vI (opF (al μ) (μ 15 0 5).toNat)) ∧ μ' = μ) → ER ov μ') : Run fam0 none cd_X1_open ER ET 0 0 [some (vR 15 0), none, none] [] μ := by
  refine run_k 4 ?_
  show Run fam0 none cd_X1_open ER ET 4 0 [some (vR 15 0), some (vI 0), some (vI 0)] [] μ
  have lp4 : ∀ (fz : Nat) (k : Nat) (x : Int), (μ 15 0 5 - (k : Int)).toNat < fz → ((k : Int) ≤ μ 15 0 5 ∧ x = opF (al μ) k) → Run fam0 none cd_X1_open ER ET 4 0 [some (vR 15 0), some (vI x), some (vI (k : Int))] [] μ := by
    intro fz
    induction fz with
    | zero => intro k x hf; omega
    | succ fz ih4 =>
      intro k x hf hI
      obtain ⟨hk1, hx2⟩ := hI
      have hx4 := opF_rng (al μ) k
      have r48 := al_r48 μ k
      have r50 := al_r50 μ k
      have r51 := al_r51 μ k
      have r52 := al_r52 μ k
      have r53 := al_r52 μ x
      refine run_k 4 ?_
      show ((μ 15 0 5) ≤ (k : Int) → Run fam0 none cd_X1_open ER ET 30 0 [some (vR 15 0), some (vI x), some (vI (k : Int))] [] μ) ∧ ((k : Int) < (μ 15 0 5) → Run fam0 none cd_X1_open ER ET 12 0 [some (vR 15 0), some (vI x), some (vI (k : Int))] [] μ)
      refine ⟨fun c2 => ?_, fun c2 => ?_⟩
      · refine run_k 2 ?_
        show ER (some (vI x)) μ
        exact hER _ _ ⟨by rw [hx2, show k = (μ 15 0 5).toNat by omega], rfl⟩
      · refine run_k 5 ?_
        show (0 ≤ (k : Int) ∧ (k : Int) < 1000) ∧ (((μ 19 0 (k : Int)) ≤ 0 → Run fam0 none cd_X1_open ER ET 24 0 [some (vR 15 0), some (vI x), some (vI (k : Int))] [] μ) ∧ (0 < (μ 19 0 (k : Int)) → Run fam0 none cd_X1_open ER ET 21 0 [some (vR 15 0), some (vI x), some (vI (k : Int))] [] μ))
        refine ⟨by omega, ?_⟩
        refine ⟨fun c4 => ?_, fun c4 => ?_⟩
        · refine run_k 2 ?_
          show Run fam0 none cd_X1_open ER ET 4 0 [some (vR 15 0), some (vI x), some (vI (w32 ((k : Int) + 1)))] [] μ
          rw [show w32 ((k : Int) + 1) = (k : Int) + 1 from w32_id (by simp only [in32]; omega)]
          exact ih4 (k + 1) x (by omega) (⟨by omega, by rw [hx2]; show _ = opF (al μ) k + opG (al μ) k; unfold opG; first | rw [if_pos (by omega)] | (rw [if_neg (by omega)]; omega)⟩)
        · refine run_k 3 ?_
          show Run fam0 none cd_X1_open ER ET 4 0 [some (vR 15 0), some (vI (w32 (x + 1))), some (vI (w32 ((k : Int) + 1)))] [] μ
          rw [show w32 (x + 1) = x + 1 from w32_id (by simp only [in32]; omega)]
          rw [show w32 ((k : Int) + 1) = (k : Int) + 1 from w32_id (by simp only [in32]; omega)]
          exact ih4 (k + 1) (x + 1) (by omega) (⟨by omega, by rw [hx2]; show _ = opF (al μ) k + opG (al μ) k; unfold opG; first | rw [if_pos (by omega)] | (rw [if_neg (by omega)]; omega)⟩)
  exact lp4 _ 0 0 (Nat.lt_succ_self _) (⟨by omega, rfl⟩)
set_option maxRecDepth 20000 in
theorem con_X1_open (l : Launch) (htr : l.stackTraces = false) (σ : Mm) : CON fam0 63 l yX1_open (Cond.code yX1_open cX1_open 3 (some .int) :: wm) 0 0 0 (cl_X1_open.2.2.1 σ) (cl_X1_open.2.2.2.1 σ) (cl_X1_open.2.2.2.2 σ) :=
  con_of (cd := cd_X1_open) (own := RX1) (rk := 1) (sc_of htr (by decide) k_X1_open_ok (by decide +kernel) co_X1_ok fl_X1_ok all_nil all_nil all_nil) rfl (by decide +kernel) rfl rfl rfl rfl (fun as μ hs => by rw [hs.1]; exact Nat.le_of_ble_eq_true rfl)
    (fun as μ hs hM hrg => by
      have hs1 := hs.1
      have hmem : ∀ v, v ∈ ([vR 15 0] : List AV) → rg fam0 v := by rw [← hs1]; exact hrg
      have key := run_X1_open (ER := cl_X1_open.2.2.2.1 σ as μ) (ET := fun k μ' => cl_X1_open.2.2.2.2 σ as μ k ∧ μ' = μ) σ μ  hM  hs.2 (fun ov μ' h => h)
      have e : entL as 3 = [some (vR 15 0), none, none] := by rw [hs1]; rfl
      rw [e]; exact key)
/-! ### Primeborrow$Loans.firstBack -/
def cl_X1_firstBack : Cl := (3, 0, fun σ as μ => as = [vR 15 0, vI (iaI as 1), vI (iaI as 2)] ∧ (0 ≤ μ 15 0 5 ∧ μ 15 0 5 ≤ 1000), fun σ as μ ov μ' => ov = some (vI (bstF (al μ) (iaI as 1) (iaI as 2) (μ 15 0 5).toNat)) ∧ μ' = μ, fun σ as μ k => False)
def cd_X1_firstBack : Cd := mkcd k_X1_firstBack co_X1 fl_X1 [] [] [] [] 5 1 0
set_option maxHeartbeats 4000000 in
set_option maxRecDepth 20000 in
theorem run_X1_firstBack {ER : Option AV → Mm → Prop} {ET : Nat → Mm → Prop} (σ μ : Mm) (c s : Int) (hM : MR fam0 μ) (h_c : in32 c) (h_s : in32 s) (hP : 0 ≤ μ 15 0 5 ∧ μ 15 0 5 ≤ 1000) (hER : ∀ ov μ', (ov = some (vI (bstF (al μ) c s (μ 15 0 5).toNat)) ∧ μ' = μ) → ER ov μ') : Run fam0 none cd_X1_firstBack ER ET 0 0 [some (vR 15 0), some (vI c), some (vI s), none, none] [] μ := by
  refine run_k 4 ?_
  show Run fam0 none cd_X1_firstBack ER ET 5 0 [some (vR 15 0), some (vI c), some (vI s), some (vI (-1)), some (vI 0)] [] μ
  have lp5 : ∀ (fz : Nat) (k : Nat) (x : Int), (μ 15 0 5 - (k : Int)).toNat < fz → ((k : Int) ≤ μ 15 0 5 ∧ x = bstF (al μ) c s k) → Run fam0 none cd_X1_firstBack ER ET 5 0 [some (vR 15 0), some (vI c), some (vI s), some (vI x), some (vI (k : Int))] [] μ := by
    intro fz
    induction fz with
    | zero => intro k x hf; omega
    | succ fz ih5 =>
      intro k x hf hI
      obtain ⟨hk1, hx2⟩ := hI
      have hx3 := bst_rng (al μ) c s k
      rw [← hx2] at hx3
      have r48 := al_r48 μ k
      have r50 := al_r50 μ k
      have r51 := al_r51 μ k
      have r52 := al_r52 μ k
      have r53 := al_r52 μ x
      refine run_k 4 ?_
      show ((μ 15 0 5) ≤ (k : Int) → Run fam0 none cd_X1_firstBack ER ET 76 0 [some (vR 15 0), some (vI c), some (vI s), some (vI x), some (vI (k : Int))] [] μ) ∧ ((k : Int) < (μ 15 0 5) → Run fam0 none cd_X1_firstBack ER ET 14 0 [some (vR 15 0), some (vI c), some (vI s), some (vI x), some (vI (k : Int))] [] μ)
      refine ⟨fun c2 => ?_, fun c2 => ?_⟩
      · refine run_k 2 ?_
        show ER (some (vI x)) μ
        exact hER _ _ ⟨by rw [hx2, show k = (μ 15 0 5).toNat by omega], rfl⟩
      · refine run_k 5 ?_
        show (0 ≤ (k : Int) ∧ (k : Int) < 1000) ∧ (((μ 19 0 (k : Int)) ≤ 0 → Run fam0 none cd_X1_firstBack ER ET 70 0 [some (vR 15 0), some (vI c), some (vI s), some (vI x), some (vI (k : Int))] [] μ) ∧ (0 < (μ 19 0 (k : Int)) → Run fam0 none cd_X1_firstBack ER ET 24 0 [some (vR 15 0), some (vI c), some (vI s), some (vI x), some (vI (k : Int))] [] μ))
        refine ⟨by omega, ?_⟩
        refine ⟨fun c4 => ?_, fun c4 => ?_⟩
        · refine run_k 2 ?_
          show Run fam0 none cd_X1_firstBack ER ET 5 0 [some (vR 15 0), some (vI c), some (vI s), some (vI x), some (vI (w32 ((k : Int) + 1)))] [] μ
          rw [show w32 ((k : Int) + 1) = (k : Int) + 1 from w32_id (by simp only [in32]; omega)]
          exact ih5 (k + 1) x (by omega) (⟨by omega, by unfold bstF; rw [← hx2]; first | rw [if_pos (by omega)] | rw [if_neg (by omega)]⟩)
        · refine run_k 6 ?_
          show (0 ≤ (k : Int) ∧ (k : Int) < 1000) ∧ (((μ 18 0 (k : Int)) ≠ c → Run fam0 none cd_X1_firstBack ER ET 70 0 [some (vR 15 0), some (vI c), some (vI s), some (vI x), some (vI (k : Int))] [] μ) ∧ ((μ 18 0 (k : Int)) = c → Run fam0 none cd_X1_firstBack ER ET 35 0 [some (vR 15 0), some (vI c), some (vI s), some (vI x), some (vI (k : Int))] [] μ))
          refine ⟨by omega, ?_⟩
          refine ⟨fun c6 => ?_, fun c6 => ?_⟩
          · refine run_k 2 ?_
            show Run fam0 none cd_X1_firstBack ER ET 5 0 [some (vR 15 0), some (vI c), some (vI s), some (vI x), some (vI (w32 ((k : Int) + 1)))] [] μ
            rw [show w32 ((k : Int) + 1) = (k : Int) + 1 from w32_id (by simp only [in32]; omega)]
            exact ih5 (k + 1) x (by omega) (⟨by omega, by unfold bstF; rw [← hx2]; first | rw [if_pos (by omega)] | rw [if_neg (by omega)]⟩)
          · refine run_k 6 ?_
            show (0 ≤ (k : Int) ∧ (k : Int) < 1000) ∧ (((μ 16 0 (k : Int)) ≠ s → Run fam0 none cd_X1_firstBack ER ET 70 0 [some (vR 15 0), some (vI c), some (vI s), some (vI x), some (vI (k : Int))] [] μ) ∧ ((μ 16 0 (k : Int)) = s → Run fam0 none cd_X1_firstBack ER ET 46 0 [some (vR 15 0), some (vI c), some (vI s), some (vI x), some (vI (k : Int))] [] μ))
            refine ⟨by omega, ?_⟩
            refine ⟨fun c8 => ?_, fun c8 => ?_⟩
            · refine run_k 2 ?_
              show Run fam0 none cd_X1_firstBack ER ET 5 0 [some (vR 15 0), some (vI c), some (vI s), some (vI x), some (vI (w32 ((k : Int) + 1)))] [] μ
              rw [show w32 ((k : Int) + 1) = (k : Int) + 1 from w32_id (by simp only [in32]; omega)]
              exact ih5 (k + 1) x (by omega) (⟨by omega, by unfold bstF; rw [← hx2]; first | rw [if_pos (by omega)] | rw [if_neg (by omega)]⟩)
            · refine run_k 3 ?_
              show (x = (-1) → Run fam0 none cd_X1_firstBack ER ET 67 0 [some (vR 15 0), some (vI c), some (vI s), some (vI x), some (vI (k : Int))] [] μ) ∧ (x ≠ (-1) → Run fam0 none cd_X1_firstBack ER ET 51 0 [some (vR 15 0), some (vI c), some (vI s), some (vI x), some (vI (k : Int))] [] μ)
              refine ⟨fun c10 => ?_, fun c10 => ?_⟩
              · refine run_k 4 ?_
                show Run fam0 none cd_X1_firstBack ER ET 5 0 [some (vR 15 0), some (vI c), some (vI s), some (vI (k : Int)), some (vI (w32 ((k : Int) + 1)))] [] μ
                rw [show w32 ((k : Int) + 1) = (k : Int) + 1 from w32_id (by simp only [in32]; omega)]
                exact ih5 (k + 1) (k : Int) (by omega) (⟨by omega, by unfold bstF; rw [← hx2]; first | rw [if_pos (by omega)] | rw [if_neg (by omega)]⟩)
              · refine run_k 9 ?_
                show (0 ≤ (k : Int) ∧ (k : Int) < 1000) ∧ ((0 ≤ x ∧ x < 1000) ∧ (((μ 20 0 (k : Int)) < (μ 20 0 x) → Run fam0 none cd_X1_firstBack ER ET 70 0 [some (vR 15 0), some (vI c), some (vI s), some (vI x), some (vI (k : Int))] [] μ) ∧ ((μ 20 0 x) ≤ (μ 20 0 (k : Int)) → Run fam0 none cd_X1_firstBack ER ET 67 0 [some (vR 15 0), some (vI c), some (vI s), some (vI x), some (vI (k : Int))] [] μ)))
                refine ⟨by omega, ?_⟩
                refine ⟨by omega, ?_⟩
                refine ⟨fun c12 => ?_, fun c12 => ?_⟩
                · refine run_k 2 ?_
                  show Run fam0 none cd_X1_firstBack ER ET 5 0 [some (vR 15 0), some (vI c), some (vI s), some (vI x), some (vI (w32 ((k : Int) + 1)))] [] μ
                  rw [show w32 ((k : Int) + 1) = (k : Int) + 1 from w32_id (by simp only [in32]; omega)]
                  exact ih5 (k + 1) x (by omega) (⟨by omega, by unfold bstF; rw [← hx2]; first | rw [if_pos (by omega)] | rw [if_neg (by omega)]⟩)
                · refine run_k 4 ?_
                  show Run fam0 none cd_X1_firstBack ER ET 5 0 [some (vR 15 0), some (vI c), some (vI s), some (vI (k : Int)), some (vI (w32 ((k : Int) + 1)))] [] μ
                  rw [show w32 ((k : Int) + 1) = (k : Int) + 1 from w32_id (by simp only [in32]; omega)]
                  exact ih5 (k + 1) (k : Int) (by omega) (⟨by omega, by unfold bstF; rw [← hx2]; first | rw [if_pos (by omega)] | rw [if_neg (by omega)]⟩)
  exact lp5 _ 0 (-1) (Nat.lt_succ_self _) (⟨by omega, rfl⟩)
set_option maxRecDepth 20000 in
theorem con_X1_firstBack (l : Launch) (htr : l.stackTraces = false) (σ : Mm) : CON fam0 63 l yX1_firstBack (Cond.code yX1_firstBack cX1_firstBack 5 (some .int) :: wm) 0 0 0 (cl_X1_firstBack.2.2.1 σ) (cl_X1_firstBack.2.2.2.1 σ) (cl_X1_firstBack.2.2.2.2 σ) :=
  con_of (cd := cd_X1_firstBack) (own := RX1) (rk := 1) (sc_of htr (by decide) k_X1_firstBack_ok (by decide +kernel) co_X1_ok fl_X1_ok all_nil all_nil all_nil) rfl (by decide +kernel) rfl rfl rfl rfl (fun as μ hs => by rw [hs.1]; exact Nat.le_of_ble_eq_true rfl)
    (fun as μ hs hM hrg => by
      have hs1 := hs.1
      have hmem : ∀ v, v ∈ ([vR 15 0, vI (iaI as 1), vI (iaI as 2)] : List AV) → rg fam0 v := by rw [← hs1]; exact hrg
      have key := run_X1_firstBack (ER := cl_X1_firstBack.2.2.2.1 σ as μ) (ET := fun k μ' => cl_X1_firstBack.2.2.2.2 σ as μ k ∧ μ' = μ) σ μ (iaI as 1) (iaI as 2) hM (hmem (vI (iaI as 1)) (by simp)) (hmem (vI (iaI as 2)) (by simp)) hs.2 (fun ov μ' h => h)
      have e : entL as 5 = [some (vR 15 0), some (vI (iaI as 1)), some (vI (iaI as 2)), none, none] := by rw [hs1]; rfl
      rw [e]; exact key)
/-! ### Primeborrow$Recalls.metSoFar -/
def cl_X3_metSoFar : Cl := (1, 0, fun σ as μ => as = [vR 27 0] ∧ (0 ≤ μ 27 0 5 ∧ μ 27 0 5 ≤ 40), fun σ as μ ov μ' => ov = some (vI (mtF μ)) ∧ μ' = μ, fun σ as μ k => False)
def cd_X3_metSoFar : Cd := mkcd k_X3_metSoFar co_X3 fl_X3 [] [] [] [] 3 1 0
set_option maxHeartbeats 4000000 in
set_option maxRecDepth 20000 in
theorem run_X3_metSoFar {ER : Option AV → Mm → Prop} {ET : Nat → Mm → Prop} (σ μ : Mm) (hM : MR fam0 μ)  (hP : 0 ≤ μ 27 0 5 ∧ μ 27 0 5 ≤ 40) (hER : ∀ ov μ', (ov = some (vI (mtF μ)) ∧ μ' = μ) → ER ov μ') : Run fam0 none cd_X3_metSoFar ER ET 0 0 [some (vR 27 0), none, none] [] μ := by
  refine run_k 4 ?_
  show Run fam0 none cd_X3_metSoFar ER ET 4 0 [some (vR 27 0), some (vI 0), some (vI 0)] [] μ
  have lp4 : ∀ (fz : Nat) (k : Nat) (x : Int), (μ 27 0 5 - (k : Int)).toNat < fz → ((k : Int) ≤ μ 27 0 5 ∧ x = sm (fun k => if μ 32 0 (k : Int) ≠ 0 then 1 else 0) k) → Run fam0 none cd_X3_metSoFar ER ET 4 0 [some (vR 27 0), some (vI x), some (vI (k : Int))] [] μ := by
    intro fz
    induction fz with
    | zero => intro k x hf; omega
    | succ fz ih4 =>
      intro k x hf hI
      obtain ⟨hk1, hx2⟩ := hI
      have hx4 := sm_le (g := fun k => if μ 32 0 (k : Int) ≠ 0 then (1 : Int) else 0) (c := 1) (n := k) (fun k _ => by split <;> omega)
      rw [← hx2] at hx4
      refine run_k 4 ?_
      show ((μ 27 0 5) ≤ (k : Int) → Run fam0 none cd_X3_metSoFar ER ET 30 0 [some (vR 27 0), some (vI x), some (vI (k : Int))] [] μ) ∧ ((k : Int) < (μ 27 0 5) → Run fam0 none cd_X3_metSoFar ER ET 12 0 [some (vR 27 0), some (vI x), some (vI (k : Int))] [] μ)
      refine ⟨fun c2 => ?_, fun c2 => ?_⟩
      · refine run_k 2 ?_
        show ER (some (vI x)) μ
        exact hER _ _ ⟨by rw [hx2, show k = (μ 27 0 5).toNat by omega]; rfl, rfl⟩
      · refine run_k 5 ?_
        show (0 ≤ (k : Int) ∧ (k : Int) < 40) ∧ (((μ 32 0 (k : Int)) = 0 → Run fam0 none cd_X3_metSoFar ER ET 24 0 [some (vR 27 0), some (vI x), some (vI (k : Int))] [] μ) ∧ ((μ 32 0 (k : Int)) ≠ 0 → Run fam0 none cd_X3_metSoFar ER ET 21 0 [some (vR 27 0), some (vI x), some (vI (k : Int))] [] μ))
        refine ⟨by omega, ?_⟩
        refine ⟨fun c4 => ?_, fun c4 => ?_⟩
        · refine run_k 2 ?_
          show Run fam0 none cd_X3_metSoFar ER ET 4 0 [some (vR 27 0), some (vI x), some (vI (w32 ((k : Int) + 1)))] [] μ
          rw [show w32 ((k : Int) + 1) = (k : Int) + 1 from w32_id (by simp only [in32]; omega)]
          exact ih4 (k + 1) x (by omega) (⟨by omega, by rw [hx2]; show _ = sm (fun k => if μ 32 0 (k : Int) ≠ 0 then (1 : Int) else 0) k + (if μ 32 0 (k : Int) ≠ 0 then (1 : Int) else 0); first | rw [if_pos (by omega)] | (rw [if_neg (by omega)]; omega)⟩)
        · refine run_k 3 ?_
          show Run fam0 none cd_X3_metSoFar ER ET 4 0 [some (vR 27 0), some (vI (w32 (x + 1))), some (vI (w32 ((k : Int) + 1)))] [] μ
          rw [show w32 (x + 1) = x + 1 from w32_id (by simp only [in32]; omega)]
          rw [show w32 ((k : Int) + 1) = (k : Int) + 1 from w32_id (by simp only [in32]; omega)]
          exact ih4 (k + 1) (x + 1) (by omega) (⟨by omega, by rw [hx2]; show _ = sm (fun k => if μ 32 0 (k : Int) ≠ 0 then (1 : Int) else 0) k + (if μ 32 0 (k : Int) ≠ 0 then (1 : Int) else 0); first | rw [if_pos (by omega)] | (rw [if_neg (by omega)]; omega)⟩)
  exact lp4 _ 0 0 (Nat.lt_succ_self _) (⟨by omega, rfl⟩)
set_option maxRecDepth 20000 in
theorem con_X3_metSoFar (l : Launch) (htr : l.stackTraces = false) (σ : Mm) : CON fam0 63 l yX3_metSoFar (Cond.code yX3_metSoFar cX3_metSoFar 3 (some .int) :: wm) 0 0 0 (cl_X3_metSoFar.2.2.1 σ) (cl_X3_metSoFar.2.2.2.1 σ) (cl_X3_metSoFar.2.2.2.2 σ) :=
  con_of (cd := cd_X3_metSoFar) (own := RX3) (rk := 1) (sc_of htr (by decide) k_X3_metSoFar_ok (by decide +kernel) co_X3_ok fl_X3_ok all_nil all_nil all_nil) rfl (by decide +kernel) rfl rfl rfl rfl (fun as μ hs => by rw [hs.1]; exact Nat.le_of_ble_eq_true rfl)
    (fun as μ hs hM hrg => by
      have hs1 := hs.1
      have hmem : ∀ v, v ∈ ([vR 27 0] : List AV) → rg fam0 v := by rw [← hs1]; exact hrg
      have key := run_X3_metSoFar (ER := cl_X3_metSoFar.2.2.2.1 σ as μ) (ET := fun k μ' => cl_X3_metSoFar.2.2.2.2 σ as μ k ∧ μ' = μ) σ μ  hM  hs.2 (fun ov μ' h => h)
      have e : entL as 3 = [some (vR 27 0), none, none] := by rw [hs1]; rfl
      rw [e]; exact key)
theorem sm_rest {g g' : Nat → Int} {k : Nat} : ∀ {n : Nat}, k ≤ n → (∀ i, k ≤ i → i < n → g' i = g i) → sm g' n - sm g' k = sm g n - sm g k
  | 0, hk, _ => by
    have : k = 0 := by omega
    subst this
    rfl
  | n + 1, hk, h => by
    by_cases q : k = n + 1
    · subst q; omega
    · have ih := sm_rest (g := g) (g' := g') (k := k) (n := n) (by omega) (fun i h1 h2 => h i h1 (by omega))
      have h1 := h n (by omega) (by omega)
      show (sm g' n + g' n) - _ = (sm g n + g n) - _
      omega
theorem sm_ge {g : Nat → Int} {i : Nat} : ∀ {n : Nat}, (∀ k, k < n → 0 ≤ g k) → i < n → g i ≤ sm g n
  | 0, _, h => absurd h (Nat.not_lt_zero _)
  | n + 1, hg, h => by
    have h0 : 0 ≤ sm g n := by
      have : ∀ m, m ≤ n → 0 ≤ sm g m := by
        intro m
        induction m with
        | zero => intro _; exact Int.le_refl 0
        | succ m ih => intro q; have := ih (by omega); have := hg m (by omega); show 0 ≤ sm g m + g m; omega
      exact this n (Nat.le_refl n)
    have h1 := hg n (by omega)
    show g i ≤ sm g n + g n
    by_cases q : i = n
    · rw [q]; omega
    · have := sm_ge (g := g) (i := i) (n := n) (fun k hk => hg k (by omega)) (by omega)
      omega
/-- shares that are there to be handed over -/
def pA (g o : Int) : Int → Int → Bool := fun h y => decide (h = g) && (decide (g = 0) || decide (y = o))
def nb (P : Int → Int → Bool) : Prop := ∀ x y : Int, P 0 x = P 0 y
theorem nb_O : nb pO := fun _ _ => rfl
theorem nb_H {h c : Int} (hh : h ≠ 0) : nb (pH h c) := fun x y => by
  unfold pH
  rw [decide_eq_false (show ¬ (0 : Int) = h by omega)]
  rfl
theorem cnP_cg {μ M : Mm} {s : Int} {P : Int → Int → Bool} {n : Nat} (h : ∀ i : Nat, i < n → M 37 s i = μ 37 s i ∧ M 35 s i = μ 35 s i) : cnP M s P n = cnP μ s P n := sm_cg (fun k hk => by rw [(h k hk).1, (h k hk).2])
theorem cnP_s {μ : Mm} {s : Int} {P : Int → Int → Bool} {k : Nat} : cnP μ s P (k + 1) = cnP μ s P k + (if P (μ 37 s k) (μ 35 s k) = true then 1 else 0) := rfl
def HOi (μ M : Mm) (s o g t n left : Int) (k : Nat) : Prop := (∀ (f : Nat) (r j : Int), (f ≠ 35 ∧ f ≠ 37 ∨ r ≠ s) → M f r j = μ f r j) ∧ (∀ i : Int, (k : Int) ≤ i → M 37 s i = μ 37 s i ∧ M 35 s i = μ 35 s i) ∧ n - left = cnP μ s (pA g o) k ∧ ∀ P : Int → Int → Bool, nb P → cnP M s P k = cnP μ s P k + (if P t o = true then n - left else 0) - (if P g o = true then n - left else 0)
theorem hoi_0 (μ : Mm) (s o g t n : Int) : HOi μ μ s o g t n n 0 := ⟨fun _ _ _ _ => rfl, fun _ _ => ⟨rfl, rfl⟩, by show n - n = 0; omega, fun P _ => by
  show (0 : Int) = 0 + _ - _
  split <;> split <;> omega⟩
theorem hoi_no {μ M : Mm} {s o g t n left : Int} {k : Nat} (h : HOi μ M s o g t n left k) (hn : ¬ (M 37 s k = g ∧ (g = 0 ∨ M 35 s k = o))) : HOi μ M s o g t n left (k + 1) := by
  obtain ⟨h1, h2, h3, h4⟩ := h
  have e := h2 k (Int.le_refl _)
  rw [e.1, e.2] at hn
  refine ⟨h1, fun i hi => h2 i (by omega), ?_, fun P hP => ?_⟩
  · rw [cnP_s, h3, if_neg]
    · omega
    · unfold pA
      simp only [Bool.and_eq_true, Bool.or_eq_true, decide_eq_true_eq]
      exact hn
  · rw [cnP_s, cnP_s, h4 P hP, e.1, e.2]
    omega
theorem hoi_mv {μ M : Mm} {s o g t n left : Int} {k : Nat} (h : HOi μ M s o g t n left k) (hn : M 37 s k = g ∧ (g = 0 ∨ M 35 s k = o)) : HOi μ (st (st M 35 s k o) 37 s k t) s o g t n (left - 1) (k + 1) := by
  obtain ⟨h1, h2, h3, h4⟩ := h
  have e := h2 k (Int.le_refl _)
  rw [e.1, e.2] at hn
  refine ⟨fun f r j q => ?_, fun i hi => ?_, ?_, fun P hP => ?_⟩
  · rw [← h1 f r j q]
    unfold st
    rw [if_neg (by omega), if_neg (by omega)]
  · rw [st_i (by omega), st_i (by omega), st_i (by omega), st_i (by omega)]
    exact h2 i (by omega)
  · rw [cnP_s, if_pos]
    · omega
    · unfold pA
      simp only [Bool.and_eq_true, Bool.or_eq_true, decide_eq_true_eq]
      exact hn
  · rw [cnP_s, cnP_s, cnP_cg (μ := M) (fun i hi => by rw [st_i (by omega), st_i (by omega), st_i (by omega), st_i (by omega)]; exact ⟨rfl, rfl⟩), h4 P hP]
    have e1 : st (st M 35 s k o) 37 s k t 37 s k = t := st_s
    have e2 : st (st M 35 s k o) 37 s k t 35 s k = o := by rw [st_o (by decide)]; exact st_s
    rw [e1, e2]
    have e3 : P (μ 37 s k) (μ 35 s k) = P g o := by
      rcases hn with ⟨q1, q2 | q2⟩
      · rw [q1, q2]; exact hP _ _
      · rw [q1, q2]
    rw [e3]
    by_cases c1 : P t o = true <;> by_cases c2 : P g o = true <;> simp only [c1, c2, if_true, if_false, Bool.false_eq_true] <;> omega
/-- what a handing over does -/
def HO (μ M : Mm) (s o g t n : Int) : Prop := (∀ (f : Nat) (r j : Int), (f ≠ 35 ∧ f ≠ 37 ∨ r ≠ s) → M f r j = μ f r j) ∧ ∀ P : Int → Int → Bool, nb P → cnP M s P 3000 = cnP μ s P 3000 + (if P t o = true then n else 0) - (if P g o = true then n else 0)
theorem hoi_e {μ M : Mm} {s o g t n left : Int} {k : Nat} (h : HOi μ M s o g t n left k) (hk : k ≤ 3000) (hl : 0 ≤ left) (he : 3000 ≤ k ∨ left ≤ 0) (hn : n ≤ cnP μ s (pA g o) 3000) : HO μ M s o g t n := by
  obtain ⟨h1, h2, h3, h4⟩ := h
  have hl0 : left = 0 := by
    rcases he with q | q
    · have : k = 3000 := by omega
      subst this
      omega
    · omega
  subst hl0
  refine ⟨h1, fun P hP => ?_⟩
  have e := sm_rest (g := fun i : Nat => if P (μ 37 s i) (μ 35 s i) = true then (1 : Int) else 0) (g' := fun i : Nat => if P (M 37 s i) (M 35 s i) = true then (1 : Int) else 0) hk (fun i h5 _ => by
    rw [(h2 i (by omega)).1, (h2 i (by omega)).2])
  have e4 := h4 P hP
  rw [Int.sub_zero] at e4
  unfold cnP at *
  omega
theorem cn_rng (μ : Mm) (s : Int) (P : Int → Int → Bool) (n : Nat) : 0 ≤ cnP μ s P n ∧ cnP μ s P n ≤ n := by
  have := sm_le (g := fun k : Nat => if P (μ 37 s k) (μ 35 s k) = true then (1 : Int) else 0) (c := 1) (n := n) (fun k _ => by split <;> omega)
  unfold cnP
  omega
/-! ### Primeborrow$Hands.handOver -/
def cl_X0_handOver : Cl := (6, 0, fun σ as μ => as = [vR 33 0, vI (iaI as 1), vI (iaI as 2), vI (iaI as 3), vI (iaI as 4), vI (iaI as 5)] ∧ ((0 ≤ (iaI as 1) ∧ (iaI as 1) ≤ 3) ∧ 0 ≤ (iaI as 5) ∧ (iaI as 5) ≤ cnP μ (iaI as 1) (pA (iaI as 3) (iaI as 2)) 3000), fun σ as μ ov μ' => ov = none ∧ HO μ μ' (iaI as 1) (iaI as 2) (iaI as 3) (iaI as 4) (iaI as 5), fun σ as μ k => False)
def cd_X0_handOver : Cd := mkcd k_X0_handOver co_X0 fl_X0 [] [] [] [] 8 0 0
set_option maxHeartbeats 4000000 in
set_option maxRecDepth 20000 in
theorem run_X0_handOver {ER : Option AV → Mm → Prop} {ET : Nat → Mm → Prop} (σ μ : Mm) (s o g t n : Int) (hM : MR fam0 μ) (h_s : in32 s) (h_o : in32 o) (h_g : in32 g) (h_t : in32 t) (h_n : in32 n) (hP : (0 ≤ s ∧ s ≤ 3) ∧ 0 ≤ n ∧ n ≤ cnP μ s (pA g o) 3000) (hER : ∀ ov μ', (ov = none ∧ HO μ μ' s o g t n) → ER ov μ') : Run fam0 none cd_X0_handOver ER ET 0 0 [some (vR 33 0), some (vI s), some (vI o), some (vI g), some (vI t), some (vI n), none, none] [] μ := by
  have hcr := cn_rng μ s (pA g o) 3000
  refine run_k 4 ?_
  show Run fam0 none cd_X0_handOver ER ET 7 0 [some (vR 33 0), some (vI s), some (vI o), some (vI g), some (vI t), some (vI n), some (vI n), some (vI 0)] [] μ
  have lp7 : ∀ (fz : Nat) (k : Nat) (M : Mm) (left : Int), (3000 - k) < fz → (k ≤ 3000 ∧ (0 ≤ left ∧ left ≤ n) ∧ HOi μ M s o g t n left k) → Run fam0 none cd_X0_handOver ER ET 7 0 [some (vR 33 0), some (vI s), some (vI o), some (vI g), some (vI t), some (vI n), some (vI left), some (vI (k : Int))] [] M := by
    intro fz
    induction fz with
    | zero => intro k M left hf; omega
    | succ fz ih7 =>
      intro k M left hf hI
      obtain ⟨hk1, hlf, hho⟩ := hI
      refine run_k 3 ?_
      show (3000 ≤ (k : Int) → Run fam0 none cd_X0_handOver ER ET 80 0 [some (vR 33 0), some (vI s), some (vI o), some (vI g), some (vI t), some (vI n), some (vI left), some (vI (k : Int))] [] M) ∧ ((k : Int) < 3000 → Run fam0 none cd_X0_handOver ER ET 15 0 [some (vR 33 0), some (vI s), some (vI o), some (vI g), some (vI t), some (vI n), some (vI left), some (vI (k : Int))] [] M)
      refine ⟨fun c2 => ?_, fun c2 => ?_⟩
      · refine run_k 1 ?_
        show ER none M
        exact hER _ _ ⟨rfl, hoi_e hho hk1 (by omega) (by omega) hP.2.2⟩
      · refine run_k 2 ?_
        show (left ≤ 0 → Run fam0 none cd_X0_handOver ER ET 80 0 [some (vR 33 0), some (vI s), some (vI o), some (vI g), some (vI t), some (vI n), some (vI left), some (vI (k : Int))] [] M) ∧ (0 < left → Run fam0 none cd_X0_handOver ER ET 20 0 [some (vR 33 0), some (vI s), some (vI o), some (vI g), some (vI t), some (vI n), some (vI left), some (vI (k : Int))] [] M)
        refine ⟨fun c4 => ?_, fun c4 => ?_⟩
        · refine run_k 1 ?_
          show ER none M
          exact hER _ _ ⟨rfl, hoi_e hho hk1 (by omega) (by omega) hP.2.2⟩
        · refine run_k 8 ?_
          show (0 ≤ s ∧ s < 4) ∧ ((0 ≤ (k : Int) ∧ (k : Int) < 3000) ∧ (((M 37 s (k : Int)) ≠ g → Run fam0 none cd_X0_handOver ER ET 74 0 [some (vR 33 0), some (vI s), some (vI o), some (vI g), some (vI t), some (vI n), some (vI left), some (vI (k : Int))] [] M) ∧ ((M 37 s (k : Int)) = g → Run fam0 none cd_X0_handOver ER ET 33 0 [some (vR 33 0), some (vI s), some (vI o), some (vI g), some (vI t), some (vI n), some (vI left), some (vI (k : Int))] [] M)))
          refine ⟨by omega, ?_⟩
          refine ⟨by omega, ?_⟩
          refine ⟨fun c6 => ?_, fun c6 => ?_⟩
          · refine run_k 2 ?_
            show Run fam0 none cd_X0_handOver ER ET 7 0 [some (vR 33 0), some (vI s), some (vI o), some (vI g), some (vI t), some (vI n), some (vI left), some (vI (w32 ((k : Int) + 1)))] [] M
            rw [show w32 ((k : Int) + 1) = (k : Int) + 1 from w32_id (by simp only [in32]; omega)]
            exact ih7 (k + 1) M left (by omega) (⟨by omega, by omega, hoi_no hho (by omega)⟩)
          · refine run_k 2 ?_
            show (g = 0 → Run fam0 none cd_X0_handOver ER ET 50 0 [some (vR 33 0), some (vI s), some (vI o), some (vI g), some (vI t), some (vI n), some (vI left), some (vI (k : Int))] [] M) ∧ (g ≠ 0 → Run fam0 none cd_X0_handOver ER ET 37 0 [some (vR 33 0), some (vI s), some (vI o), some (vI g), some (vI t), some (vI n), some (vI left), some (vI (k : Int))] [] M)
            refine ⟨fun c8 => ?_, fun c8 => ?_⟩
            · refine run_k 17 ?_
              show (0 ≤ s ∧ s < 4) ∧ ((0 ≤ (k : Int) ∧ (k : Int) < 3000) ∧ ((0 ≤ s ∧ s < 4) ∧ ((0 ≤ (k : Int) ∧ (k : Int) < 3000) ∧ (Run fam0 none cd_X0_handOver ER ET 7 0 [some (vR 33 0), some (vI s), some (vI o), some (vI g), some (vI t), some (vI n), some (vI (w32 (left + (-1)))), some (vI (w32 ((k : Int) + 1)))] [] (st (st M 35 s (k : Int) o) 37 s (k : Int) t)))))
              rw [show w32 (left + (-1)) = left + (-1) from w32_id (by simp only [in32]; omega)]
              rw [show w32 ((k : Int) + 1) = (k : Int) + 1 from w32_id (by simp only [in32]; omega)]
              refine ⟨by omega, ?_⟩
              refine ⟨by omega, ?_⟩
              refine ⟨by omega, ?_⟩
              refine ⟨by omega, ?_⟩
              exact ih7 (k + 1) (st (st M 35 s (k : Int) o) 37 s (k : Int) t) (left + (-1)) (by omega) (⟨by omega, by omega, hoi_mv hho (by omega)⟩)
            · refine run_k 8 ?_
              show (0 ≤ s ∧ s < 4) ∧ ((0 ≤ (k : Int) ∧ (k : Int) < 3000) ∧ (((M 35 s (k : Int)) ≠ o → Run fam0 none cd_X0_handOver ER ET 74 0 [some (vR 33 0), some (vI s), some (vI o), some (vI g), some (vI t), some (vI n), some (vI left), some (vI (k : Int))] [] M) ∧ ((M 35 s (k : Int)) = o → Run fam0 none cd_X0_handOver ER ET 50 0 [some (vR 33 0), some (vI s), some (vI o), some (vI g), some (vI t), some (vI n), some (vI left), some (vI (k : Int))] [] M)))
              refine ⟨by omega, ?_⟩
              refine ⟨by omega, ?_⟩
              refine ⟨fun c10 => ?_, fun c10 => ?_⟩
              · refine run_k 2 ?_
                show Run fam0 none cd_X0_handOver ER ET 7 0 [some (vR 33 0), some (vI s), some (vI o), some (vI g), some (vI t), some (vI n), some (vI left), some (vI (w32 ((k : Int) + 1)))] [] M
                rw [show w32 ((k : Int) + 1) = (k : Int) + 1 from w32_id (by simp only [in32]; omega)]
                exact ih7 (k + 1) M left (by omega) (⟨by omega, by omega, hoi_no hho (by omega)⟩)
              · refine run_k 17 ?_
                show (0 ≤ s ∧ s < 4) ∧ ((0 ≤ (k : Int) ∧ (k : Int) < 3000) ∧ ((0 ≤ s ∧ s < 4) ∧ ((0 ≤ (k : Int) ∧ (k : Int) < 3000) ∧ (Run fam0 none cd_X0_handOver ER ET 7 0 [some (vR 33 0), some (vI s), some (vI o), some (vI g), some (vI t), some (vI n), some (vI (w32 (left + (-1)))), some (vI (w32 ((k : Int) + 1)))] [] (st (st M 35 s (k : Int) o) 37 s (k : Int) t)))))
                rw [show w32 (left + (-1)) = left + (-1) from w32_id (by simp only [in32]; omega)]
                rw [show w32 ((k : Int) + 1) = (k : Int) + 1 from w32_id (by simp only [in32]; omega)]
                refine ⟨by omega, ?_⟩
                refine ⟨by omega, ?_⟩
                refine ⟨by omega, ?_⟩
                refine ⟨by omega, ?_⟩
                exact ih7 (k + 1) (st (st M 35 s (k : Int) o) 37 s (k : Int) t) (left + (-1)) (by omega) (⟨by omega, by omega, hoi_mv hho (by omega)⟩)
  exact lp7 _ 0 μ n (Nat.lt_succ_self _) (⟨by omega, by omega, hoi_0 μ s o g t n⟩)
set_option maxRecDepth 20000 in
theorem con_X0_handOver (l : Launch) (htr : l.stackTraces = false) (σ : Mm) : CON fam0 63 l yX0_handOver (Cond.code yX0_handOver cX0_handOver 8 none :: wm) 0 0 0 (cl_X0_handOver.2.2.1 σ) (cl_X0_handOver.2.2.2.1 σ) (cl_X0_handOver.2.2.2.2 σ) :=
  con_of (cd := cd_X0_handOver) (own := RX0) (rk := 0) (sc_of htr (by decide) k_X0_handOver_ok (by decide +kernel) co_X0_ok fl_X0_ok all_nil all_nil all_nil) rfl (by decide +kernel) rfl rfl rfl rfl (fun as μ hs => by rw [hs.1]; exact Nat.le_of_ble_eq_true rfl)
    (fun as μ hs hM hrg => by
      have hs1 := hs.1
      have hmem : ∀ v, v ∈ ([vR 33 0, vI (iaI as 1), vI (iaI as 2), vI (iaI as 3), vI (iaI as 4), vI (iaI as 5)] : List AV) → rg fam0 v := by rw [← hs1]; exact hrg
      have key := run_X0_handOver (ER := cl_X0_handOver.2.2.2.1 σ as μ) (ET := fun k μ' => cl_X0_handOver.2.2.2.2 σ as μ k ∧ μ' = μ) σ μ (iaI as 1) (iaI as 2) (iaI as 3) (iaI as 4) (iaI as 5) hM (hmem (vI (iaI as 1)) (by simp)) (hmem (vI (iaI as 2)) (by simp)) (hmem (vI (iaI as 3)) (by simp)) (hmem (vI (iaI as 4)) (by simp)) (hmem (vI (iaI as 5)) (by simp)) hs.2 (fun ov μ' h => h)
      have e : entL as 8 = [some (vR 33 0), some (vI (iaI as 1)), some (vI (iaI as 2)), some (vI (iaI as 3)), some (vI (iaI as 4)), some (vI (iaI as 5)), none, none] := by rw [hs1]; rfl
      rw [e]; exact key)
/-! ### Primeborrow$Hands.inBox -/
def cl_X0_inBox : Cl := (3, 0, fun σ as μ => as = [vR 33 0, vI (iaI as 1), vI (iaI as 2)] ∧ (0 ≤ (iaI as 1) ∧ (iaI as 1) ≤ 3), fun σ as μ ov μ' => ov = some (vI (cnP μ (iaI as 1) (pH 1 (iaI as 2)) 3000)) ∧ μ' = μ, fun σ as μ k => False)
def cd_X0_inBox : Cd := mkcd k_X0_inBox co_X0 fl_X0 [] [] [] [] 5 1 0
set_option maxHeartbeats 4000000 in
set_option maxRecDepth 20000 in
theorem run_X0_inBox {ER : Option AV → Mm → Prop} {ET : Nat → Mm → Prop} (σ μ : Mm) (s o : Int) (hM : MR fam0 μ) (h_s : in32 s) (h_o : in32 o) (hP : 0 ≤ s ∧ s ≤ 3) (hER : ∀ ov μ', (ov = some (vI (cnP μ s (pH 1 o) 3000)) ∧ μ' = μ) → ER ov μ') : Run fam0 none cd_X0_inBox ER ET 0 0 [some (vR 33 0), some (vI s), some (vI o), none, none] [] μ := by
  refine run_k 4 ?_
  show Run fam0 none cd_X0_inBox ER ET 5 0 [some (vR 33 0), some (vI s), some (vI o), some (vI 0), some (vI 0)] [] μ
  have lp5 : ∀ (fz : Nat) (k : Nat) (x : Int), (3000 - k) < fz → (k ≤ 3000 ∧ x = cnP μ s (pH 1 o) k) → Run fam0 none cd_X0_inBox ER ET 5 0 [some (vR 33 0), some (vI s), some (vI o), some (vI x), some (vI (k : Int))] [] μ := by
    intro fz
    induction fz with
    | zero => intro k x hf; omega
    | succ fz ih5 =>
      intro k x hf hI
      obtain ⟨hk1, hx2⟩ := hI
      have hx4 := cn_rng μ s (pH 1 o) k
      refine run_k 3 ?_
      show (3000 ≤ (k : Int) → Run fam0 none cd_X0_inBox ER ET 48 0 [some (vR 33 0), some (vI s), some (vI o), some (vI x), some (vI (k : Int))] [] μ) ∧ ((k : Int) < 3000 → Run fam0 none cd_X0_inBox ER ET 13 0 [some (vR 33 0), some (vI s), some (vI o), some (vI x), some (vI (k : Int))] [] μ)
      refine ⟨fun c2 => ?_, fun c2 => ?_⟩
      · refine run_k 2 ?_
        show ER (some (vI x)) μ
        exact hER _ _ ⟨by rw [hx2, show k = 3000 by omega], rfl⟩
      · refine run_k 8 ?_
        show (0 ≤ s ∧ s < 4) ∧ ((0 ≤ (k : Int) ∧ (k : Int) < 3000) ∧ (((μ 37 s (k : Int)) ≠ 1 → Run fam0 none cd_X0_inBox ER ET 42 0 [some (vR 33 0), some (vI s), some (vI o), some (vI x), some (vI (k : Int))] [] μ) ∧ ((μ 37 s (k : Int)) = 1 → Run fam0 none cd_X0_inBox ER ET 26 0 [some (vR 33 0), some (vI s), some (vI o), some (vI x), some (vI (k : Int))] [] μ)))
        refine ⟨by omega, ?_⟩
        refine ⟨by omega, ?_⟩
        refine ⟨fun c4 => ?_, fun c4 => ?_⟩
        · refine run_k 2 ?_
          show Run fam0 none cd_X0_inBox ER ET 5 0 [some (vR 33 0), some (vI s), some (vI o), some (vI x), some (vI (w32 ((k : Int) + 1)))] [] μ
          rw [show w32 ((k : Int) + 1) = (k : Int) + 1 from w32_id (by simp only [in32]; omega)]
          exact ih5 (k + 1) x (by omega) (⟨by omega, by rw [hx2, cnP_s]; unfold pH; simp only [Bool.and_eq_true, decide_eq_true_eq]; first | rw [if_pos (by omega)] | (rw [if_neg (by omega)]; omega)⟩)
        · refine run_k 8 ?_
          show (0 ≤ s ∧ s < 4) ∧ ((0 ≤ (k : Int) ∧ (k : Int) < 3000) ∧ (((μ 35 s (k : Int)) ≠ o → Run fam0 none cd_X0_inBox ER ET 42 0 [some (vR 33 0), some (vI s), some (vI o), some (vI x), some (vI (k : Int))] [] μ) ∧ ((μ 35 s (k : Int)) = o → Run fam0 none cd_X0_inBox ER ET 39 0 [some (vR 33 0), some (vI s), some (vI o), some (vI x), some (vI (k : Int))] [] μ)))
          refine ⟨by omega, ?_⟩
          refine ⟨by omega, ?_⟩
          refine ⟨fun c6 => ?_, fun c6 => ?_⟩
          · refine run_k 2 ?_
            show Run fam0 none cd_X0_inBox ER ET 5 0 [some (vR 33 0), some (vI s), some (vI o), some (vI x), some (vI (w32 ((k : Int) + 1)))] [] μ
            rw [show w32 ((k : Int) + 1) = (k : Int) + 1 from w32_id (by simp only [in32]; omega)]
            exact ih5 (k + 1) x (by omega) (⟨by omega, by rw [hx2, cnP_s]; unfold pH; simp only [Bool.and_eq_true, decide_eq_true_eq]; first | rw [if_pos (by omega)] | (rw [if_neg (by omega)]; omega)⟩)
          · refine run_k 3 ?_
            show Run fam0 none cd_X0_inBox ER ET 5 0 [some (vR 33 0), some (vI s), some (vI o), some (vI (w32 (x + 1))), some (vI (w32 ((k : Int) + 1)))] [] μ
            rw [show w32 (x + 1) = x + 1 from w32_id (by simp only [in32]; omega)]
            rw [show w32 ((k : Int) + 1) = (k : Int) + 1 from w32_id (by simp only [in32]; omega)]
            exact ih5 (k + 1) (x + 1) (by omega) (⟨by omega, by rw [hx2, cnP_s]; unfold pH; simp only [Bool.and_eq_true, decide_eq_true_eq]; first | rw [if_pos (by omega)] | (rw [if_neg (by omega)]; omega)⟩)
  exact lp5 _ 0 0 (Nat.lt_succ_self _) (⟨by omega, rfl⟩)
set_option maxRecDepth 20000 in
theorem con_X0_inBox (l : Launch) (htr : l.stackTraces = false) (σ : Mm) : CON fam0 63 l yX0_inBox (Cond.code yX0_inBox cX0_inBox 5 (some .int) :: wm) 0 0 0 (cl_X0_inBox.2.2.1 σ) (cl_X0_inBox.2.2.2.1 σ) (cl_X0_inBox.2.2.2.2 σ) :=
  con_of (cd := cd_X0_inBox) (own := RX0) (rk := 1) (sc_of htr (by decide) k_X0_inBox_ok (by decide +kernel) co_X0_ok fl_X0_ok all_nil all_nil all_nil) rfl (by decide +kernel) rfl rfl rfl rfl (fun as μ hs => by rw [hs.1]; exact Nat.le_of_ble_eq_true rfl)
    (fun as μ hs hM hrg => by
      have hs1 := hs.1
      have hmem : ∀ v, v ∈ ([vR 33 0, vI (iaI as 1), vI (iaI as 2)] : List AV) → rg fam0 v := by rw [← hs1]; exact hrg
      have key := run_X0_inBox (ER := cl_X0_inBox.2.2.2.1 σ as μ) (ET := fun k μ' => cl_X0_inBox.2.2.2.2 σ as μ k ∧ μ' = μ) σ μ (iaI as 1) (iaI as 2) hM (hmem (vI (iaI as 1)) (by simp)) (hmem (vI (iaI as 2)) (by simp)) hs.2 (fun ov μ' h => h)
      have e : entL as 5 = [some (vR 33 0), some (vI (iaI as 1)), some (vI (iaI as 2)), none, none] := by rw [hs1]; rfl
      rw [e]; exact key)
