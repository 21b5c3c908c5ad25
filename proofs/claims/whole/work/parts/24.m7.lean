/-! ===== the reference's calls ===== -/
theorem Wk_cg {M M' : Mm} (h : Wk M) (h1 : M' 38 0 11 = M 38 0 11) (ho : ∀ (g : Nat) (j : Int), (g = 42 ∨ g = 45 ∨ g = 46 ∨ g = 48 ∨ g = 49 ∨ g = 50 ∨ g = 51 ∨ g = 52) → M' g 0 j = M g 0 j) : Wk M' := by
  obtain ⟨hL, hP, h4, h5, h6⟩ := h
  have q : ∀ (g : Nat), (g = 42 ∨ g = 45 ∨ g = 46 ∨ g = 48 ∨ g = 49 ∨ g = 50 ∨ g = 51 ∨ g = 52) → ∀ j, M' g 0 j = M g 0 j := fun g hg j => ho g j hg
  have ql := lentF_cg h1 (q 48 (by decide)) (q 49 (by decide)) (q 51 (by decide))
  have qt := toF_cg h1 (q 48 (by decide)) (q 50 (by decide)) (q 51 (by decide))
  refine ⟨Lk_cg hL h1 (q 48 (by decide)) (q 49 (by decide)) (q 50 (by decide)) (q 51 (by decide)) (q 52 (by decide)), fun i i0 i1 => ?_, fun d t d0 d1 t0 t1 => ?_, fun d t d0 d1 t0 t1 => ?_, fun l t l0 l1 t0 t1 => ?_⟩
  · rw [q 42 (by decide)]; exact hP i i0 i1
  · rw [qt, q 42 (by decide)]; exact h4 d t d0 d1 t0 t1
  · rw [ql, q 42 (by decide)]; exact h5 d t d0 d1 t0 t1
  · rw [ql, q 45 (by decide), q 46 (by decide)]; exact h6 l t l0 l1 t0 t1
theorem Wk_st {M : Mm} (h : Wk M) {f : Nat} {r i v : Int} (hf : (f < 42 ∨ f = 43 ∨ f = 44 ∨ f = 47 ∨ 52 < f) ∧ ¬ (f = 38 ∧ i = 11)) : Wk (st M f r i v) :=
  Wk_cg h (by unfold st; rw [if_neg]; exact fun z => hf.2 ⟨z.1.symm, z.2.2.symm⟩) (fun g j hg => st_o (by omega))
/-- ranges of what else the reference keeps -/
def Xk (μ : Mm) : Prop := (0 ≤ μ 38 0 1 ∧ μ 38 0 1 ≤ 500) ∧ ((0 ≤ μ 38 0 17 ∧ μ 38 0 17 ≤ 60) ∧ ∀ k : Int, 0 ≤ k → k < μ 38 0 17 → (0 ≤ μ 53 0 k ∧ μ 53 0 k ≤ 5) ∧ (0 ≤ μ 54 0 k ∧ μ 54 0 k ≤ 3) ∧ (1 ≤ μ 55 0 k ∧ μ 55 0 k ≤ 500) ∧ (0 ≤ μ 56 0 k ∧ μ 56 0 k ≤ μ 38 0 1)) ∧ ((0 ≤ μ 38 0 23 ∧ μ 38 0 23 ≤ 40) ∧ ∀ k : Int, 0 ≤ k → k < μ 38 0 23 → (0 ≤ μ 58 0 k ∧ μ 58 0 k ≤ 3) ∧ (0 ≤ μ 59 0 k ∧ μ 59 0 k ≤ 3) ∧ (1 ≤ μ 60 0 k ∧ μ 60 0 k ≤ 500) ∧ (1 ≤ μ 61 0 k ∧ μ 61 0 k ≤ 510)) ∧ (∀ c : Int, 0 ≤ c → c ≤ 5 → (μ 43 0 c = 0 ∨ μ 43 0 c = 1) ∧ (μ 44 0 c = 0 ∨ μ 44 0 c = 1))

/-! ### PrimeborrowModel.thrown -/
def cl_X5_thrown : Cl := (1, 0, fun σ as μ => as = [vR 38 0] ∧ (True), fun σ as μ ov μ' => ov = some (vI (μ 38 0 0)) ∧ μ' = μ, fun σ as μ k => False)
def cd_X5_thrown : Cd := mkcd k_X5_thrown co_X5 fl_X5 [] [] [] [] 1 1 0
set_option maxHeartbeats 4000000 in
set_option maxRecDepth 20000 in
theorem run_X5_thrown {ER : Option AV → Mm → Prop} {ET : Nat → Mm → Prop} (σ μ : Mm) (hM : MR fam0 μ)  (hP : True) (hER : ∀ ov μ', (ov = some (vI (μ 38 0 0)) ∧ μ' = μ) → ER ov μ') : Run fam0 none cd_X5_thrown ER ET 0 0 [some (vR 38 0)] [] μ := by
  refine run_k 3 ?_
  show ER (some (vI (μ 38 0 0))) μ
  exact hER _ _ ⟨rfl, rfl⟩
set_option maxRecDepth 20000 in
theorem con_X5_thrown (l : Launch) (htr : l.stackTraces = false) (σ : Mm) : CON fam0 63 l yX5_thrown (Cond.code yX5_thrown cX5_thrown 1 (some .int) :: wm) 0 0 0 (cl_X5_thrown.2.2.1 σ) (cl_X5_thrown.2.2.2.1 σ) (cl_X5_thrown.2.2.2.2 σ) :=
  con_of (cd := cd_X5_thrown) (own := RX5) (rk := 1) (sc_of htr (by decide) k_X5_thrown_ok (by decide +kernel) co_X5_ok fl_X5_ok all_nil all_nil all_nil) rfl (by decide +kernel) rfl rfl rfl rfl (fun as μ hs => by rw [hs.1]; exact Nat.le_of_ble_eq_true rfl)
    (fun as μ hs hM hrg => by
      have hs1 := hs.1
      have hmem : ∀ v, v ∈ ([vR 38 0] : List AV) → rg fam0 v := by rw [← hs1]; exact hrg
      have key := run_X5_thrown (ER := cl_X5_thrown.2.2.2.1 σ as μ) (ET := fun k μ' => cl_X5_thrown.2.2.2.2 σ as μ k ∧ μ' = μ) σ μ  hM  hs.2 (fun ov μ' h => h)
      have e : entL as 1 = [some (vR 38 0)] := by rw [hs1]; rfl
      rw [e]; exact key)
/-! ### PrimeborrowModel.day -/
def cl_X5_day : Cl := (1, 0, fun σ as μ => as = [vR 38 0] ∧ (True), fun σ as μ ov μ' => ov = some (vI (μ 38 0 1)) ∧ μ' = st μ 38 0 0 0, fun σ as μ k => False)
def cd_X5_day : Cd := mkcd k_X5_day co_X5 fl_X5 [] [] [] [] 1 1 0
set_option maxHeartbeats 4000000 in
set_option maxRecDepth 20000 in
theorem run_X5_day {ER : Option AV → Mm → Prop} {ET : Nat → Mm → Prop} (σ μ : Mm) (hM : MR fam0 μ)  (hP : True) (hER : ∀ ov μ', (ov = some (vI (μ 38 0 1)) ∧ μ' = st μ 38 0 0 0) → ER ov μ') : Run fam0 none cd_X5_day ER ET 0 0 [some (vR 38 0)] [] μ := by
  refine run_k 6 ?_
  show ER (some (vI (μ 38 0 1))) (st μ 38 0 0 0)
  exact hER _ _ ⟨rfl, rfl⟩
set_option maxRecDepth 20000 in
theorem con_X5_day (l : Launch) (htr : l.stackTraces = false) (σ : Mm) : CON fam0 63 l yX5_day (Cond.code yX5_day cX5_day 1 (some .int) :: wm) 0 0 0 (cl_X5_day.2.2.1 σ) (cl_X5_day.2.2.2.1 σ) (cl_X5_day.2.2.2.2 σ) :=
  con_of (cd := cd_X5_day) (own := RX5) (rk := 1) (sc_of htr (by decide) k_X5_day_ok (by decide +kernel) co_X5_ok fl_X5_ok all_nil all_nil all_nil) rfl (by decide +kernel) rfl rfl rfl rfl (fun as μ hs => by rw [hs.1]; exact Nat.le_of_ble_eq_true rfl)
    (fun as μ hs hM hrg => by
      have hs1 := hs.1
      have hmem : ∀ v, v ∈ ([vR 38 0] : List AV) → rg fam0 v := by rw [← hs1]; exact hrg
      have key := run_X5_day (ER := cl_X5_day.2.2.2.1 σ as μ) (ET := fun k μ' => cl_X5_day.2.2.2.2 σ as μ k ∧ μ' = μ) σ μ  hM  hs.2 (fun ov μ' h => h)
      have e : entL as 1 = [some (vR 38 0)] := by rw [hs1]; rfl
      rw [e]; exact key)
/-! ### PrimeborrowModel.price -/
def cl_X5_price : Cl := (3, 0, fun σ as μ => as = [vR 38 0, vI (iaI as 1), vI (iaI as 2)] ∧ (Wk μ ∧ Xk μ), fun σ as μ ov μ' => ((¬ (0 ≤ (iaI as 1) ∧ (iaI as 1) ≤ 3)) → ov = some (vI 0) ∧ μ' = st μ 38 0 0 1) ∧ (((0 ≤ (iaI as 1) ∧ (iaI as 1) ≤ 3) ∧ ¬ (1 ≤ (iaI as 2) ∧ (iaI as 2) ≤ 100000)) → ov = some (vI 0) ∧ μ' = st μ 38 0 0 2) ∧ (((0 ≤ (iaI as 1) ∧ (iaI as 1) ≤ 3) ∧ (1 ≤ (iaI as 2) ∧ (iaI as 2) ≤ 100000)) → ov = some (vI (μ 39 0 (iaI as 1))) ∧ μ' = st (st μ 38 0 0 0) 39 0 (iaI as 1) (iaI as 2)), fun σ as μ k => False)
def cd_X5_price : Cd := mkcd k_X5_price co_X5 fl_X5 [(127, cl_X5_refused)] [(122, cl_X5_isStock), (85, cl_X5_in)] [] [] 4 1 0
set_option maxHeartbeats 4000000 in
set_option maxRecDepth 20000 in
theorem run_X5_price {ER : Option AV → Mm → Prop} {ET : Nat → Mm → Prop} (σ μ : Mm) (s v : Int) (hM : MR fam0 μ) (h_s : in32 s) (h_v : in32 v) (hP : Wk μ ∧ Xk μ) (hER : ∀ ov μ', (((¬ (0 ≤ s ∧ s ≤ 3)) → ov = some (vI 0) ∧ μ' = st μ 38 0 0 1) ∧ (((0 ≤ s ∧ s ≤ 3) ∧ ¬ (1 ≤ v ∧ v ≤ 100000)) → ov = some (vI 0) ∧ μ' = st μ 38 0 0 2) ∧ (((0 ≤ s ∧ s ≤ 3) ∧ (1 ≤ v ∧ v ≤ 100000)) → ov = some (vI (μ 39 0 s)) ∧ μ' = st (st μ 38 0 0 0) 39 0 s v)) → ER ov μ') : Run fam0 none cd_X5_price ER ET 0 0 [some (vR 38 0), some (vI s), some (vI v), none] [] μ := by
  obtain ⟨hW, hX⟩ := hP
  have hW0 : Wk (st μ 38 0 0 0) := Wk_st hW (by decide)
  have hLk := hW.1
  have hLk0 := hW0.1
  have hPk := hW.2.1
  have hPk0 := hW0.2.1
  have hGk := Gk_of hLk hW.2.2.2.2
  have hGk0 := Gk_of hLk0 hW0.2.2.2.2
  have hday := hX.1
  have hloc := hX.2.1.1
  have hrec := hX.2.2.1.1
  have hl0 := hLk.1
  refine run_k 3 ?_
  show ∃ σ : Mm, cl_X5_isStock.2.2.1 σ [vI s] μ ∧ (∀ ov μ', cl_X5_isStock.2.2.2.1 σ [vI s] μ ov μ' → Run fam0 none cd_X5_price ER ET 5 0 [some (vR 38 0), some (vI s), some (vI v), none] (ov.toList ++ [vR 38 0]) μ') ∧ ∀ kx, cl_X5_isStock.2.2.2.2 σ [vI s] μ kx → thr cd_X5_price ET (Run fam0 none cd_X5_price ER ET) 2 0 [some (vR 38 0), some (vI s), some (vI v), none] μ kx
  refine ⟨μ, ⟨rfl, show True from True.intro⟩, fun ov μ' hq => ?_, fun k hk => hk.elim⟩
  obtain ⟨hov, hmu⟩ : ov = some (vI (bi (0 ≤ s ∧ s ≤ 3))) ∧ μ' = μ := hq
  rw [hov, hmu]
  show Run fam0 none cd_X5_price ER ET 5 0 [some (vR 38 0), some (vI s), some (vI v), none] [vI (bi (0 ≤ s ∧ s ≤ 3)), vR 38 0] μ
  refine run_k 1 ?_
  show ((bi (0 ≤ s ∧ s ≤ 3)) ≠ 0 → Run fam0 none cd_X5_price ER ET 12 0 [some (vR 38 0), some (vI s), some (vI v), none] [vR 38 0] μ) ∧ ((bi (0 ≤ s ∧ s ≤ 3)) = 0 → Run fam0 none cd_X5_price ER ET 8 0 [some (vR 38 0), some (vI s), some (vI v), none] [vR 38 0] μ)
  refine ⟨fun c2 => ?_, fun c2 => ?_⟩
  · replace c2 := (bi_n0.mp c2)
    refine run_k 4 ?_
    show ∃ σ : Mm, cl_X5_in.2.2.1 σ [vI v, vI 1, vI 100000] μ ∧ (∀ ov μ', cl_X5_in.2.2.2.1 σ [vI v, vI 1, vI 100000] μ ov μ' → Run fam0 none cd_X5_price ER ET 19 0 [some (vR 38 0), some (vI s), some (vI v), none] (ov.toList ++ [vR 38 0]) μ') ∧ ∀ kx, cl_X5_in.2.2.2.2 σ [vI v, vI 1, vI 100000] μ kx → thr cd_X5_price ET (Run fam0 none cd_X5_price ER ET) 16 0 [some (vR 38 0), some (vI s), some (vI v), none] μ kx
    refine ⟨μ, ⟨rfl, show True from True.intro⟩, fun ov μ' hq => ?_, fun k hk => hk.elim⟩
    obtain ⟨hov, hmu⟩ : ov = some (vI (bi (1 ≤ v ∧ v ≤ 100000))) ∧ μ' = μ := hq
    rw [hov, hmu]
    show Run fam0 none cd_X5_price ER ET 19 0 [some (vR 38 0), some (vI s), some (vI v), none] [vI (bi (1 ≤ v ∧ v ≤ 100000)), vR 38 0] μ
    refine run_k 1 ?_
    show ((bi (1 ≤ v ∧ v ≤ 100000)) ≠ 0 → Run fam0 none cd_X5_price ER ET 26 0 [some (vR 38 0), some (vI s), some (vI v), none] [vR 38 0] μ) ∧ ((bi (1 ≤ v ∧ v ≤ 100000)) = 0 → Run fam0 none cd_X5_price ER ET 22 0 [some (vR 38 0), some (vI s), some (vI v), none] [vR 38 0] μ)
    refine ⟨fun c4 => ?_, fun c4 => ?_⟩
    · replace c4 := (bi_n0.mp c4)
      refine run_k 2 ?_
      show ∃ σ : Mm, cl_X5_refused.2.2.1 σ [vR 38 0, vI 0] μ ∧ (∀ ov μ', cl_X5_refused.2.2.2.1 σ [vR 38 0, vI 0] μ ov μ' → Run fam0 none cd_X5_price ER ET 30 0 [some (vR 38 0), some (vI s), some (vI v), none] (ov.toList ++ []) μ') ∧ ∀ kx, cl_X5_refused.2.2.2.2 σ [vR 38 0, vI 0] μ kx → thr cd_X5_price ET (Run fam0 none cd_X5_price ER ET) 27 0 [some (vR 38 0), some (vI s), some (vI v), none] μ kx
      refine ⟨μ, ⟨rfl, show True from True.intro⟩, fun ov μ' hq => ?_, fun k hk => hk.elim⟩
      obtain ⟨hov, hmu⟩ : ov = some (vI 0) ∧ μ' = st μ 38 0 0 0 := hq
      rw [hov, hmu]
      show Run fam0 none cd_X5_price ER ET 30 0 [some (vR 38 0), some (vI s), some (vI v), none] [vI 0] (st μ 38 0 0 0)
      refine run_k 1 ?_
      show (0 = 0 → Run fam0 none cd_X5_price ER ET 35 0 [some (vR 38 0), some (vI s), some (vI v), none] [] (st μ 38 0 0 0)) ∧ (0 ≠ 0 → Run fam0 none cd_X5_price ER ET 33 0 [some (vR 38 0), some (vI s), some (vI v), none] [] (st μ 38 0 0 0))
      refine ⟨fun c6 => ?_, fun c6 => absurd c6 (by decide)⟩
      refine run_k 12 ?_
      show (0 ≤ s ∧ s < 4) ∧ ((0 ≤ s ∧ s < 4) ∧ (ER (some (vI (μ 39 0 s))) (st (st μ 38 0 0 0) 39 0 s v)))
      refine ⟨by omega, ?_⟩
      refine ⟨by omega, ?_⟩
      refine hER _ _ ⟨fun h => ?_, fun h => ?_, fun h => ?_⟩ <;> first | (exfalso; omega) | exact ⟨rfl, rfl⟩
    · replace c4 := (bi_e0.mp c4)
      refine run_k 3 ?_
      show ∃ σ : Mm, cl_X5_refused.2.2.1 σ [vR 38 0, vI 2] μ ∧ (∀ ov μ', cl_X5_refused.2.2.2.1 σ [vR 38 0, vI 2] μ ov μ' → Run fam0 none cd_X5_price ER ET 30 0 [some (vR 38 0), some (vI s), some (vI v), none] (ov.toList ++ []) μ') ∧ ∀ kx, cl_X5_refused.2.2.2.2 σ [vR 38 0, vI 2] μ kx → thr cd_X5_price ET (Run fam0 none cd_X5_price ER ET) 27 0 [some (vR 38 0), some (vI s), some (vI v), none] μ kx
      refine ⟨μ, ⟨rfl, show True from True.intro⟩, fun ov μ' hq => ?_, fun k hk => hk.elim⟩
      obtain ⟨hov, hmu⟩ : ov = some (vI 1) ∧ μ' = st μ 38 0 0 2 := hq
      rw [hov, hmu]
      show Run fam0 none cd_X5_price ER ET 30 0 [some (vR 38 0), some (vI s), some (vI v), none] [vI 1] (st μ 38 0 0 2)
      refine run_k 1 ?_
      show (1 = 0 → Run fam0 none cd_X5_price ER ET 35 0 [some (vR 38 0), some (vI s), some (vI v), none] [] (st μ 38 0 0 2)) ∧ (1 ≠ 0 → Run fam0 none cd_X5_price ER ET 33 0 [some (vR 38 0), some (vI s), some (vI v), none] [] (st μ 38 0 0 2))
      refine ⟨fun c9 => absurd c9 (by decide), fun c9 => ?_⟩
      refine run_k 2 ?_
      show ER (some (vI 0)) (st μ 38 0 0 2)
      refine hER _ _ ⟨fun h => ?_, fun h => ?_, fun h => ?_⟩ <;> first | (exfalso; omega) | exact ⟨rfl, rfl⟩
  · replace c2 := (bi_e0.mp c2)
    refine run_k 3 ?_
    show ∃ σ : Mm, cl_X5_refused.2.2.1 σ [vR 38 0, vI 1] μ ∧ (∀ ov μ', cl_X5_refused.2.2.2.1 σ [vR 38 0, vI 1] μ ov μ' → Run fam0 none cd_X5_price ER ET 30 0 [some (vR 38 0), some (vI s), some (vI v), none] (ov.toList ++ []) μ') ∧ ∀ kx, cl_X5_refused.2.2.2.2 σ [vR 38 0, vI 1] μ kx → thr cd_X5_price ET (Run fam0 none cd_X5_price ER ET) 27 0 [some (vR 38 0), some (vI s), some (vI v), none] μ kx
    refine ⟨μ, ⟨rfl, show True from True.intro⟩, fun ov μ' hq => ?_, fun k hk => hk.elim⟩
    obtain ⟨hov, hmu⟩ : ov = some (vI 1) ∧ μ' = st μ 38 0 0 1 := hq
    rw [hov, hmu]
    show Run fam0 none cd_X5_price ER ET 30 0 [some (vR 38 0), some (vI s), some (vI v), none] [vI 1] (st μ 38 0 0 1)
    refine run_k 1 ?_
    show (1 = 0 → Run fam0 none cd_X5_price ER ET 35 0 [some (vR 38 0), some (vI s), some (vI v), none] [] (st μ 38 0 0 1)) ∧ (1 ≠ 0 → Run fam0 none cd_X5_price ER ET 33 0 [some (vR 38 0), some (vI s), some (vI v), none] [] (st μ 38 0 0 1))
    refine ⟨fun c12 => absurd c12 (by decide), fun c12 => ?_⟩
    refine run_k 2 ?_
    show ER (some (vI 0)) (st μ 38 0 0 1)
    refine hER _ _ ⟨fun h => ?_, fun h => ?_, fun h => ?_⟩ <;> first | (exfalso; omega) | exact ⟨rfl, rfl⟩
theorem vw_X5_127 : ∀ w ∈ ([.methodLink RX5 127 yX5_refused, .instanceMethod yX5_refused, .selects RX5 yX5_refused yX5_refused, .initialized RX5, .code yX5_refused cX5_refused 2 (some .boolean)] : List Cond), w ∈ wm := wm_ps _ [806, 808, 30, 55, 809] (by decide +kernel)
theorem vw_X5_122 : ∀ w ∈ ([.methodLink RX5 122 yX5_isStock, .static yX5_isStock, .initialized yX5_isStock.cls, .code yX5_isStock cX5_isStock 1 (some .boolean)] : List Cond), w ∈ wm := wm_ps _ [799, 800, 55, 801] (by decide +kernel)
set_option maxRecDepth 20000 in
theorem con_X5_price (l : Launch) (htr : l.stackTraces = false) (σ : Mm) : CON fam0 63 l yX5_price (Cond.code yX5_price cX5_price 4 (some .int) :: wm) 2 42 0 (cl_X5_price.2.2.1 σ) (cl_X5_price.2.2.2.1 σ) (cl_X5_price.2.2.2.2 σ) :=
  con_of (cd := cd_X5_price) (own := RX5) (rk := 1) (sc_of htr (by decide) k_X5_price_ok (by decide +kernel) co_X5_ok fl_X5_ok (all_cons ⟨RX5, yX5_refused, cX5_refused, 2, (some .boolean), 0, 0, 1, con_X5_refused l htr, rfl, vw_X5_127, ⟨rfl, by decide, by decide, by decide +kernel⟩, ⟨by decide, by decide⟩, fun σ as μ h => ⟨38, 0, _, h.1, rfl, TX5, 31, rfl⟩⟩ all_nil) (all_cons ⟨yX5_isStock, cX5_isStock, 1, (some .boolean), 1, 22, con_X5_isStock l htr, vw_X5_122, ⟨by decide, by decide, by decide +kernel⟩, ⟨by decide, by decide⟩⟩ (all_cons ⟨yX5_in, cX5_in, 3, (some .boolean), 0, 0, con_X5_in l htr, vw_X5_85, ⟨by decide, by decide, by decide +kernel⟩, ⟨by decide, by decide⟩⟩ all_nil)) all_nil) rfl (by decide +kernel) rfl rfl rfl rfl (fun as μ hs => by rw [hs.1]; exact Nat.le_of_ble_eq_true rfl)
    (fun as μ hs hM hrg => by
      have hs1 := hs.1
      have hmem : ∀ v, v ∈ ([vR 38 0, vI (iaI as 1), vI (iaI as 2)] : List AV) → rg fam0 v := by rw [← hs1]; exact hrg
      have key := run_X5_price (ER := cl_X5_price.2.2.2.1 σ as μ) (ET := fun k μ' => cl_X5_price.2.2.2.2 σ as μ k ∧ μ' = μ) σ μ (iaI as 1) (iaI as 2) hM (hmem (vI (iaI as 1)) (by simp)) (hmem (vI (iaI as 2)) (by simp)) hs.2 (fun ov μ' h => h)
      have e : entL as 4 = [some (vR 38 0), some (vI (iaI as 1)), some (vI (iaI as 2)), none] := by rw [hs1]; rfl
      rw [e]; exact key)
/-! ### PrimeborrowModel.margin -/
def cl_X5_margin : Cl := (3, 0, fun σ as μ => as = [vR 38 0, vI (iaI as 1), vI (iaI as 2)] ∧ (Wk μ ∧ Xk μ), fun σ as μ ov μ' => ((¬ (0 ≤ (iaI as 1) ∧ (iaI as 1) ≤ 3)) → ov = some (vI 0) ∧ μ' = st μ 38 0 0 1) ∧ (((0 ≤ (iaI as 1) ∧ (iaI as 1) ≤ 3) ∧ ¬ (10 ≤ (iaI as 2) ∧ (iaI as 2) ≤ 100)) → ov = some (vI 0) ∧ μ' = st μ 38 0 0 2) ∧ (((0 ≤ (iaI as 1) ∧ (iaI as 1) ≤ 3) ∧ (10 ≤ (iaI as 2) ∧ (iaI as 2) ≤ 100)) → ov = some (vI (μ 40 0 (iaI as 1))) ∧ μ' = st (st μ 38 0 0 0) 40 0 (iaI as 1) (iaI as 2)), fun σ as μ k => False)
def cd_X5_margin : Cd := mkcd k_X5_margin co_X5 fl_X5 [(127, cl_X5_refused)] [(122, cl_X5_isStock), (85, cl_X5_in)] [] [] 4 1 0
set_option maxHeartbeats 4000000 in
set_option maxRecDepth 20000 in
theorem run_X5_margin {ER : Option AV → Mm → Prop} {ET : Nat → Mm → Prop} (σ μ : Mm) (s v : Int) (hM : MR fam0 μ) (h_s : in32 s) (h_v : in32 v) (hP : Wk μ ∧ Xk μ) (hER : ∀ ov μ', (((¬ (0 ≤ s ∧ s ≤ 3)) → ov = some (vI 0) ∧ μ' = st μ 38 0 0 1) ∧ (((0 ≤ s ∧ s ≤ 3) ∧ ¬ (10 ≤ v ∧ v ≤ 100)) → ov = some (vI 0) ∧ μ' = st μ 38 0 0 2) ∧ (((0 ≤ s ∧ s ≤ 3) ∧ (10 ≤ v ∧ v ≤ 100)) → ov = some (vI (μ 40 0 s)) ∧ μ' = st (st μ 38 0 0 0) 40 0 s v)) → ER ov μ') : Run fam0 none cd_X5_margin ER ET 0 0 [some (vR 38 0), some (vI s), some (vI v), none] [] μ := by
  obtain ⟨hW, hX⟩ := hP
  have hW0 : Wk (st μ 38 0 0 0) := Wk_st hW (by decide)
  have hLk := hW.1
  have hLk0 := hW0.1
  have hPk := hW.2.1
  have hPk0 := hW0.2.1
  have hGk := Gk_of hLk hW.2.2.2.2
  have hGk0 := Gk_of hLk0 hW0.2.2.2.2
  have hday := hX.1
  have hloc := hX.2.1.1
  have hrec := hX.2.2.1.1
  have hl0 := hLk.1
  refine run_k 3 ?_
  show ∃ σ : Mm, cl_X5_isStock.2.2.1 σ [vI s] μ ∧ (∀ ov μ', cl_X5_isStock.2.2.2.1 σ [vI s] μ ov μ' → Run fam0 none cd_X5_margin ER ET 5 0 [some (vR 38 0), some (vI s), some (vI v), none] (ov.toList ++ [vR 38 0]) μ') ∧ ∀ kx, cl_X5_isStock.2.2.2.2 σ [vI s] μ kx → thr cd_X5_margin ET (Run fam0 none cd_X5_margin ER ET) 2 0 [some (vR 38 0), some (vI s), some (vI v), none] μ kx
  refine ⟨μ, ⟨rfl, show True from True.intro⟩, fun ov μ' hq => ?_, fun k hk => hk.elim⟩
  obtain ⟨hov, hmu⟩ : ov = some (vI (bi (0 ≤ s ∧ s ≤ 3))) ∧ μ' = μ := hq
  rw [hov, hmu]
  show Run fam0 none cd_X5_margin ER ET 5 0 [some (vR 38 0), some (vI s), some (vI v), none] [vI (bi (0 ≤ s ∧ s ≤ 3)), vR 38 0] μ
  refine run_k 1 ?_
  show ((bi (0 ≤ s ∧ s ≤ 3)) ≠ 0 → Run fam0 none cd_X5_margin ER ET 12 0 [some (vR 38 0), some (vI s), some (vI v), none] [vR 38 0] μ) ∧ ((bi (0 ≤ s ∧ s ≤ 3)) = 0 → Run fam0 none cd_X5_margin ER ET 8 0 [some (vR 38 0), some (vI s), some (vI v), none] [vR 38 0] μ)
  refine ⟨fun c2 => ?_, fun c2 => ?_⟩
  · replace c2 := (bi_n0.mp c2)
    refine run_k 4 ?_
    show ∃ σ : Mm, cl_X5_in.2.2.1 σ [vI v, vI 10, vI 100] μ ∧ (∀ ov μ', cl_X5_in.2.2.2.1 σ [vI v, vI 10, vI 100] μ ov μ' → Run fam0 none cd_X5_margin ER ET 20 0 [some (vR 38 0), some (vI s), some (vI v), none] (ov.toList ++ [vR 38 0]) μ') ∧ ∀ kx, cl_X5_in.2.2.2.2 σ [vI v, vI 10, vI 100] μ kx → thr cd_X5_margin ET (Run fam0 none cd_X5_margin ER ET) 17 0 [some (vR 38 0), some (vI s), some (vI v), none] μ kx
    refine ⟨μ, ⟨rfl, show True from True.intro⟩, fun ov μ' hq => ?_, fun k hk => hk.elim⟩
    obtain ⟨hov, hmu⟩ : ov = some (vI (bi (10 ≤ v ∧ v ≤ 100))) ∧ μ' = μ := hq
    rw [hov, hmu]
    show Run fam0 none cd_X5_margin ER ET 20 0 [some (vR 38 0), some (vI s), some (vI v), none] [vI (bi (10 ≤ v ∧ v ≤ 100)), vR 38 0] μ
    refine run_k 1 ?_
    show ((bi (10 ≤ v ∧ v ≤ 100)) ≠ 0 → Run fam0 none cd_X5_margin ER ET 27 0 [some (vR 38 0), some (vI s), some (vI v), none] [vR 38 0] μ) ∧ ((bi (10 ≤ v ∧ v ≤ 100)) = 0 → Run fam0 none cd_X5_margin ER ET 23 0 [some (vR 38 0), some (vI s), some (vI v), none] [vR 38 0] μ)
    refine ⟨fun c4 => ?_, fun c4 => ?_⟩
    · replace c4 := (bi_n0.mp c4)
      refine run_k 2 ?_
      show ∃ σ : Mm, cl_X5_refused.2.2.1 σ [vR 38 0, vI 0] μ ∧ (∀ ov μ', cl_X5_refused.2.2.2.1 σ [vR 38 0, vI 0] μ ov μ' → Run fam0 none cd_X5_margin ER ET 31 0 [some (vR 38 0), some (vI s), some (vI v), none] (ov.toList ++ []) μ') ∧ ∀ kx, cl_X5_refused.2.2.2.2 σ [vR 38 0, vI 0] μ kx → thr cd_X5_margin ET (Run fam0 none cd_X5_margin ER ET) 28 0 [some (vR 38 0), some (vI s), some (vI v), none] μ kx
      refine ⟨μ, ⟨rfl, show True from True.intro⟩, fun ov μ' hq => ?_, fun k hk => hk.elim⟩
      obtain ⟨hov, hmu⟩ : ov = some (vI 0) ∧ μ' = st μ 38 0 0 0 := hq
      rw [hov, hmu]
      show Run fam0 none cd_X5_margin ER ET 31 0 [some (vR 38 0), some (vI s), some (vI v), none] [vI 0] (st μ 38 0 0 0)
      refine run_k 1 ?_
      show (0 = 0 → Run fam0 none cd_X5_margin ER ET 36 0 [some (vR 38 0), some (vI s), some (vI v), none] [] (st μ 38 0 0 0)) ∧ (0 ≠ 0 → Run fam0 none cd_X5_margin ER ET 34 0 [some (vR 38 0), some (vI s), some (vI v), none] [] (st μ 38 0 0 0))
      refine ⟨fun c6 => ?_, fun c6 => absurd c6 (by decide)⟩
      refine run_k 12 ?_
      show (0 ≤ s ∧ s < 4) ∧ ((0 ≤ s ∧ s < 4) ∧ (ER (some (vI (μ 40 0 s))) (st (st μ 38 0 0 0) 40 0 s v)))
      refine ⟨by omega, ?_⟩
      refine ⟨by omega, ?_⟩
      refine hER _ _ ⟨fun h => ?_, fun h => ?_, fun h => ?_⟩ <;> first | (exfalso; omega) | exact ⟨rfl, rfl⟩
    · replace c4 := (bi_e0.mp c4)
      refine run_k 3 ?_
      show ∃ σ : Mm, cl_X5_refused.2.2.1 σ [vR 38 0, vI 2] μ ∧ (∀ ov μ', cl_X5_refused.2.2.2.1 σ [vR 38 0, vI 2] μ ov μ' → Run fam0 none cd_X5_margin ER ET 31 0 [some (vR 38 0), some (vI s), some (vI v), none] (ov.toList ++ []) μ') ∧ ∀ kx, cl_X5_refused.2.2.2.2 σ [vR 38 0, vI 2] μ kx → thr cd_X5_margin ET (Run fam0 none cd_X5_margin ER ET) 28 0 [some (vR 38 0), some (vI s), some (vI v), none] μ kx
      refine ⟨μ, ⟨rfl, show True from True.intro⟩, fun ov μ' hq => ?_, fun k hk => hk.elim⟩
      obtain ⟨hov, hmu⟩ : ov = some (vI 1) ∧ μ' = st μ 38 0 0 2 := hq
      rw [hov, hmu]
      show Run fam0 none cd_X5_margin ER ET 31 0 [some (vR 38 0), some (vI s), some (vI v), none] [vI 1] (st μ 38 0 0 2)
      refine run_k 1 ?_
      show (1 = 0 → Run fam0 none cd_X5_margin ER ET 36 0 [some (vR 38 0), some (vI s), some (vI v), none] [] (st μ 38 0 0 2)) ∧ (1 ≠ 0 → Run fam0 none cd_X5_margin ER ET 34 0 [some (vR 38 0), some (vI s), some (vI v), none] [] (st μ 38 0 0 2))
      refine ⟨fun c9 => absurd c9 (by decide), fun c9 => ?_⟩
      refine run_k 2 ?_
      show ER (some (vI 0)) (st μ 38 0 0 2)
      refine hER _ _ ⟨fun h => ?_, fun h => ?_, fun h => ?_⟩ <;> first | (exfalso; omega) | exact ⟨rfl, rfl⟩
  · replace c2 := (bi_e0.mp c2)
    refine run_k 3 ?_
    show ∃ σ : Mm, cl_X5_refused.2.2.1 σ [vR 38 0, vI 1] μ ∧ (∀ ov μ', cl_X5_refused.2.2.2.1 σ [vR 38 0, vI 1] μ ov μ' → Run fam0 none cd_X5_margin ER ET 31 0 [some (vR 38 0), some (vI s), some (vI v), none] (ov.toList ++ []) μ') ∧ ∀ kx, cl_X5_refused.2.2.2.2 σ [vR 38 0, vI 1] μ kx → thr cd_X5_margin ET (Run fam0 none cd_X5_margin ER ET) 28 0 [some (vR 38 0), some (vI s), some (vI v), none] μ kx
    refine ⟨μ, ⟨rfl, show True from True.intro⟩, fun ov μ' hq => ?_, fun k hk => hk.elim⟩
    obtain ⟨hov, hmu⟩ : ov = some (vI 1) ∧ μ' = st μ 38 0 0 1 := hq
    rw [hov, hmu]
    show Run fam0 none cd_X5_margin ER ET 31 0 [some (vR 38 0), some (vI s), some (vI v), none] [vI 1] (st μ 38 0 0 1)
    refine run_k 1 ?_
    show (1 = 0 → Run fam0 none cd_X5_margin ER ET 36 0 [some (vR 38 0), some (vI s), some (vI v), none] [] (st μ 38 0 0 1)) ∧ (1 ≠ 0 → Run fam0 none cd_X5_margin ER ET 34 0 [some (vR 38 0), some (vI s), some (vI v), none] [] (st μ 38 0 0 1))
    refine ⟨fun c12 => absurd c12 (by decide), fun c12 => ?_⟩
    refine run_k 2 ?_
    show ER (some (vI 0)) (st μ 38 0 0 1)
    refine hER _ _ ⟨fun h => ?_, fun h => ?_, fun h => ?_⟩ <;> first | (exfalso; omega) | exact ⟨rfl, rfl⟩
set_option maxRecDepth 20000 in
theorem con_X5_margin (l : Launch) (htr : l.stackTraces = false) (σ : Mm) : CON fam0 63 l yX5_margin (Cond.code yX5_margin cX5_margin 4 (some .int) :: wm) 2 42 0 (cl_X5_margin.2.2.1 σ) (cl_X5_margin.2.2.2.1 σ) (cl_X5_margin.2.2.2.2 σ) :=
  con_of (cd := cd_X5_margin) (own := RX5) (rk := 1) (sc_of htr (by decide) k_X5_margin_ok (by decide +kernel) co_X5_ok fl_X5_ok (all_cons ⟨RX5, yX5_refused, cX5_refused, 2, (some .boolean), 0, 0, 1, con_X5_refused l htr, rfl, vw_X5_127, ⟨rfl, by decide, by decide, by decide +kernel⟩, ⟨by decide, by decide⟩, fun σ as μ h => ⟨38, 0, _, h.1, rfl, TX5, 31, rfl⟩⟩ all_nil) (all_cons ⟨yX5_isStock, cX5_isStock, 1, (some .boolean), 1, 22, con_X5_isStock l htr, vw_X5_122, ⟨by decide, by decide, by decide +kernel⟩, ⟨by decide, by decide⟩⟩ (all_cons ⟨yX5_in, cX5_in, 3, (some .boolean), 0, 0, con_X5_in l htr, vw_X5_85, ⟨by decide, by decide, by decide +kernel⟩, ⟨by decide, by decide⟩⟩ all_nil)) all_nil) rfl (by decide +kernel) rfl rfl rfl rfl (fun as μ hs => by rw [hs.1]; exact Nat.le_of_ble_eq_true rfl)
    (fun as μ hs hM hrg => by
      have hs1 := hs.1
      have hmem : ∀ v, v ∈ ([vR 38 0, vI (iaI as 1), vI (iaI as 2)] : List AV) → rg fam0 v := by rw [← hs1]; exact hrg
      have key := run_X5_margin (ER := cl_X5_margin.2.2.2.1 σ as μ) (ET := fun k μ' => cl_X5_margin.2.2.2.2 σ as μ k ∧ μ' = μ) σ μ (iaI as 1) (iaI as 2) hM (hmem (vI (iaI as 1)) (by simp)) (hmem (vI (iaI as 2)) (by simp)) hs.2 (fun ov μ' h => h)
      have e : entL as 4 = [some (vR 38 0), some (vI (iaI as 1)), some (vI (iaI as 2)), none] := by rw [hs1]; rfl
      rw [e]; exact key)
/-! ### PrimeborrowModel.position -/
def cl_X5_position : Cl := (3, 0, fun σ as μ => as = [vR 38 0, vI (iaI as 1), vI (iaI as 2)] ∧ (Wk μ ∧ Xk μ), fun σ as μ ov μ' => ((¬ ((0 ≤ (iaI as 1) ∧ (iaI as 1) ≤ 5) ∧ (0 ≤ (iaI as 2) ∧ (iaI as 2) ≤ 3))) → ov = some (vI 0) ∧ μ' = st μ 38 0 0 1) ∧ (((0 ≤ (iaI as 1) ∧ (iaI as 1) ≤ 5) ∧ (0 ≤ (iaI as 2) ∧ (iaI as 2) ≤ 3)) → ov = some (vI (μ 42 0 (4 * (iaI as 1) + (iaI as 2)))) ∧ μ' = st μ 38 0 0 0), fun σ as μ k => False)
def cd_X5_position : Cd := mkcd k_X5_position co_X5 fl_X5 [(127, cl_X5_refused)] [(145, cl_X5_isClient), (122, cl_X5_isStock)] [] [] 3 1 0
set_option maxHeartbeats 4000000 in
set_option maxRecDepth 20000 in
theorem run_X5_position {ER : Option AV → Mm → Prop} {ET : Nat → Mm → Prop} (σ μ : Mm) (c s : Int) (hM : MR fam0 μ) (h_c : in32 c) (h_s : in32 s) (hP : Wk μ ∧ Xk μ) (hER : ∀ ov μ', (((¬ ((0 ≤ c ∧ c ≤ 5) ∧ (0 ≤ s ∧ s ≤ 3))) → ov = some (vI 0) ∧ μ' = st μ 38 0 0 1) ∧ (((0 ≤ c ∧ c ≤ 5) ∧ (0 ≤ s ∧ s ≤ 3)) → ov = some (vI (μ 42 0 (4 * c + s))) ∧ μ' = st μ 38 0 0 0)) → ER ov μ') : Run fam0 none cd_X5_position ER ET 0 0 [some (vR 38 0), some (vI c), some (vI s)] [] μ := by
  obtain ⟨hW, hX⟩ := hP
  have hW0 : Wk (st μ 38 0 0 0) := Wk_st hW (by decide)
  have hLk := hW.1
  have hLk0 := hW0.1
  have hPk := hW.2.1
  have hPk0 := hW0.2.1
  have hGk := Gk_of hLk hW.2.2.2.2
  have hGk0 := Gk_of hLk0 hW0.2.2.2.2
  have hday := hX.1
  have hloc := hX.2.1.1
  have hrec := hX.2.2.1.1
  have hl0 := hLk.1
  refine run_k 3 ?_
  show ∃ σ : Mm, cl_X5_isClient.2.2.1 σ [vI c] μ ∧ (∀ ov μ', cl_X5_isClient.2.2.2.1 σ [vI c] μ ov μ' → Run fam0 none cd_X5_position ER ET 5 0 [some (vR 38 0), some (vI c), some (vI s)] (ov.toList ++ [vR 38 0]) μ') ∧ ∀ kx, cl_X5_isClient.2.2.2.2 σ [vI c] μ kx → thr cd_X5_position ET (Run fam0 none cd_X5_position ER ET) 2 0 [some (vR 38 0), some (vI c), some (vI s)] μ kx
  refine ⟨μ, ⟨rfl, show True from True.intro⟩, fun ov μ' hq => ?_, fun k hk => hk.elim⟩
  obtain ⟨hov, hmu⟩ : ov = some (vI (bi (0 ≤ c ∧ c ≤ 5))) ∧ μ' = μ := hq
  rw [hov, hmu]
  show Run fam0 none cd_X5_position ER ET 5 0 [some (vR 38 0), some (vI c), some (vI s)] [vI (bi (0 ≤ c ∧ c ≤ 5)), vR 38 0] μ
  refine run_k 1 ?_
  show ((bi (0 ≤ c ∧ c ≤ 5)) = 0 → Run fam0 none cd_X5_position ER ET 19 0 [some (vR 38 0), some (vI c), some (vI s)] [vR 38 0] μ) ∧ ((bi (0 ≤ c ∧ c ≤ 5)) ≠ 0 → Run fam0 none cd_X5_position ER ET 8 0 [some (vR 38 0), some (vI c), some (vI s)] [vR 38 0] μ)
  refine ⟨fun c2 => ?_, fun c2 => ?_⟩
  · replace c2 := (bi_e0.mp c2)
    refine run_k 2 ?_
    show ∃ σ : Mm, cl_X5_refused.2.2.1 σ [vR 38 0, vI 1] μ ∧ (∀ ov μ', cl_X5_refused.2.2.2.1 σ [vR 38 0, vI 1] μ ov μ' → Run fam0 none cd_X5_position ER ET 23 0 [some (vR 38 0), some (vI c), some (vI s)] (ov.toList ++ []) μ') ∧ ∀ kx, cl_X5_refused.2.2.2.2 σ [vR 38 0, vI 1] μ kx → thr cd_X5_position ET (Run fam0 none cd_X5_position ER ET) 20 0 [some (vR 38 0), some (vI c), some (vI s)] μ kx
    refine ⟨μ, ⟨rfl, show True from True.intro⟩, fun ov μ' hq => ?_, fun k hk => hk.elim⟩
    obtain ⟨hov, hmu⟩ : ov = some (vI 1) ∧ μ' = st μ 38 0 0 1 := hq
    rw [hov, hmu]
    show Run fam0 none cd_X5_position ER ET 23 0 [some (vR 38 0), some (vI c), some (vI s)] [vI 1] (st μ 38 0 0 1)
    refine run_k 1 ?_
    show (1 = 0 → Run fam0 none cd_X5_position ER ET 30 0 [some (vR 38 0), some (vI c), some (vI s)] [] (st μ 38 0 0 1)) ∧ (1 ≠ 0 → Run fam0 none cd_X5_position ER ET 26 0 [some (vR 38 0), some (vI c), some (vI s)] [] (st μ 38 0 0 1))
    refine ⟨fun c4 => absurd c4 (by decide), fun c4 => ?_⟩
    refine run_k 3 ?_
    show ER (some (vI 0)) (st μ 38 0 0 1)
    refine hER _ _ ⟨fun h => ?_, fun h => ?_⟩ <;> first | (exfalso; omega) | exact ⟨rfl, rfl⟩
  · replace c2 := (bi_n0.mp c2)
    refine run_k 2 ?_
    show ∃ σ : Mm, cl_X5_isStock.2.2.1 σ [vI s] μ ∧ (∀ ov μ', cl_X5_isStock.2.2.2.1 σ [vI s] μ ov μ' → Run fam0 none cd_X5_position ER ET 12 0 [some (vR 38 0), some (vI c), some (vI s)] (ov.toList ++ [vR 38 0]) μ') ∧ ∀ kx, cl_X5_isStock.2.2.2.2 σ [vI s] μ kx → thr cd_X5_position ET (Run fam0 none cd_X5_position ER ET) 9 0 [some (vR 38 0), some (vI c), some (vI s)] μ kx
    refine ⟨μ, ⟨rfl, show True from True.intro⟩, fun ov μ' hq => ?_, fun k hk => hk.elim⟩
    obtain ⟨hov, hmu⟩ : ov = some (vI (bi (0 ≤ s ∧ s ≤ 3))) ∧ μ' = μ := hq
    rw [hov, hmu]
    show Run fam0 none cd_X5_position ER ET 12 0 [some (vR 38 0), some (vI c), some (vI s)] [vI (bi (0 ≤ s ∧ s ≤ 3)), vR 38 0] μ
    refine run_k 1 ?_
    show ((bi (0 ≤ s ∧ s ≤ 3)) = 0 → Run fam0 none cd_X5_position ER ET 19 0 [some (vR 38 0), some (vI c), some (vI s)] [vR 38 0] μ) ∧ ((bi (0 ≤ s ∧ s ≤ 3)) ≠ 0 → Run fam0 none cd_X5_position ER ET 15 0 [some (vR 38 0), some (vI c), some (vI s)] [vR 38 0] μ)
    refine ⟨fun c7 => ?_, fun c7 => ?_⟩
    · replace c7 := (bi_e0.mp c7)
      refine run_k 2 ?_
      show ∃ σ : Mm, cl_X5_refused.2.2.1 σ [vR 38 0, vI 1] μ ∧ (∀ ov μ', cl_X5_refused.2.2.2.1 σ [vR 38 0, vI 1] μ ov μ' → Run fam0 none cd_X5_position ER ET 23 0 [some (vR 38 0), some (vI c), some (vI s)] (ov.toList ++ []) μ') ∧ ∀ kx, cl_X5_refused.2.2.2.2 σ [vR 38 0, vI 1] μ kx → thr cd_X5_position ET (Run fam0 none cd_X5_position ER ET) 20 0 [some (vR 38 0), some (vI c), some (vI s)] μ kx
      refine ⟨μ, ⟨rfl, show True from True.intro⟩, fun ov μ' hq => ?_, fun k hk => hk.elim⟩
      obtain ⟨hov, hmu⟩ : ov = some (vI 1) ∧ μ' = st μ 38 0 0 1 := hq
      rw [hov, hmu]
      show Run fam0 none cd_X5_position ER ET 23 0 [some (vR 38 0), some (vI c), some (vI s)] [vI 1] (st μ 38 0 0 1)
      refine run_k 1 ?_
      show (1 = 0 → Run fam0 none cd_X5_position ER ET 30 0 [some (vR 38 0), some (vI c), some (vI s)] [] (st μ 38 0 0 1)) ∧ (1 ≠ 0 → Run fam0 none cd_X5_position ER ET 26 0 [some (vR 38 0), some (vI c), some (vI s)] [] (st μ 38 0 0 1))
      refine ⟨fun c9 => absurd c9 (by decide), fun c9 => ?_⟩
      refine run_k 3 ?_
      show ER (some (vI 0)) (st μ 38 0 0 1)
      refine hER _ _ ⟨fun h => ?_, fun h => ?_⟩ <;> first | (exfalso; omega) | exact ⟨rfl, rfl⟩
    · replace c7 := (bi_n0.mp c7)
      refine run_k 3 ?_
      show ∃ σ : Mm, cl_X5_refused.2.2.1 σ [vR 38 0, vI 0] μ ∧ (∀ ov μ', cl_X5_refused.2.2.2.1 σ [vR 38 0, vI 0] μ ov μ' → Run fam0 none cd_X5_position ER ET 23 0 [some (vR 38 0), some (vI c), some (vI s)] (ov.toList ++ []) μ') ∧ ∀ kx, cl_X5_refused.2.2.2.2 σ [vR 38 0, vI 0] μ kx → thr cd_X5_position ET (Run fam0 none cd_X5_position ER ET) 20 0 [some (vR 38 0), some (vI c), some (vI s)] μ kx
      refine ⟨μ, ⟨rfl, show True from True.intro⟩, fun ov μ' hq => ?_, fun k hk => hk.elim⟩
      obtain ⟨hov, hmu⟩ : ov = some (vI 0) ∧ μ' = st μ 38 0 0 0 := hq
      rw [hov, hmu]
      show Run fam0 none cd_X5_position ER ET 23 0 [some (vR 38 0), some (vI c), some (vI s)] [vI 0] (st μ 38 0 0 0)
      refine run_k 1 ?_
      show (0 = 0 → Run fam0 none cd_X5_position ER ET 30 0 [some (vR 38 0), some (vI c), some (vI s)] [] (st μ 38 0 0 0)) ∧ (0 ≠ 0 → Run fam0 none cd_X5_position ER ET 26 0 [some (vR 38 0), some (vI c), some (vI s)] [] (st μ 38 0 0 0))
      refine ⟨fun c12 => ?_, fun c12 => absurd c12 (by decide)⟩
      refine run_k 9 ?_
      show (0 ≤ (w32 ((w32 (4 * c)) + s)) ∧ (w32 ((w32 (4 * c)) + s)) < 24) ∧ (ER (some (vI (μ 42 0 (w32 ((w32 (4 * c)) + s))))) (st μ 38 0 0 0))
      rw [show w32 (4 * c) = 4 * c from w32_id (by simp only [in32]; omega)]
      rw [show w32 ((4 * c) + s) = (4 * c) + s from w32_id (by simp only [in32]; omega)]
      refine ⟨by omega, ?_⟩
      refine hER _ _ ⟨fun h => ?_, fun h => ?_⟩ <;> first | (exfalso; omega) | exact ⟨rfl, rfl⟩
theorem vw_X5_145 : ∀ w ∈ ([.methodLink RX5 145 yX5_isClient, .static yX5_isClient, .initialized yX5_isClient.cls, .code yX5_isClient cX5_isClient 1 (some .boolean)] : List Cond), w ∈ wm := wm_ps _ [818, 819, 55, 820] (by decide +kernel)
set_option maxRecDepth 20000 in
theorem con_X5_position (l : Launch) (htr : l.stackTraces = false) (σ : Mm) : CON fam0 63 l yX5_position (Cond.code yX5_position cX5_position 3 (some .int) :: wm) 2 42 0 (cl_X5_position.2.2.1 σ) (cl_X5_position.2.2.2.1 σ) (cl_X5_position.2.2.2.2 σ) :=
  con_of (cd := cd_X5_position) (own := RX5) (rk := 1) (sc_of htr (by decide) k_X5_position_ok (by decide +kernel) co_X5_ok fl_X5_ok (all_cons ⟨RX5, yX5_refused, cX5_refused, 2, (some .boolean), 0, 0, 1, con_X5_refused l htr, rfl, vw_X5_127, ⟨rfl, by decide, by decide, by decide +kernel⟩, ⟨by decide, by decide⟩, fun σ as μ h => ⟨38, 0, _, h.1, rfl, TX5, 31, rfl⟩⟩ all_nil) (all_cons ⟨yX5_isClient, cX5_isClient, 1, (some .boolean), 1, 22, con_X5_isClient l htr, vw_X5_145, ⟨by decide, by decide, by decide +kernel⟩, ⟨by decide, by decide⟩⟩ (all_cons ⟨yX5_isStock, cX5_isStock, 1, (some .boolean), 1, 22, con_X5_isStock l htr, vw_X5_122, ⟨by decide, by decide, by decide +kernel⟩, ⟨by decide, by decide⟩⟩ all_nil)) all_nil) rfl (by decide +kernel) rfl rfl rfl rfl (fun as μ hs => by rw [hs.1]; exact Nat.le_of_ble_eq_true rfl)
    (fun as μ hs hM hrg => by
      have hs1 := hs.1
      have hmem : ∀ v, v ∈ ([vR 38 0, vI (iaI as 1), vI (iaI as 2)] : List AV) → rg fam0 v := by rw [← hs1]; exact hrg
      have key := run_X5_position (ER := cl_X5_position.2.2.2.1 σ as μ) (ET := fun k μ' => cl_X5_position.2.2.2.2 σ as μ k ∧ μ' = μ) σ μ (iaI as 1) (iaI as 2) hM (hmem (vI (iaI as 1)) (by simp)) (hmem (vI (iaI as 2)) (by simp)) hs.2 (fun ov μ' h => h)
      have e : entL as 3 = [some (vR 38 0), some (vI (iaI as 1)), some (vI (iaI as 2))] := by rw [hs1]; rfl
      rw [e]; exact key)
/-! ### PrimeborrowModel.part -/
def cl_X5_part : Cl := (3, 0, fun σ as μ => as = [vR 38 0, vI (iaI as 1), vI (iaI as 2)] ∧ (Wk μ ∧ Xk μ), fun σ as μ ov μ' => ((¬ ((0 ≤ (iaI as 1) ∧ (iaI as 1) ≤ 5) ∧ (0 ≤ (iaI as 2) ∧ (iaI as 2) ≤ 3))) → ov = some (vI 0) ∧ μ' = st μ 38 0 0 1) ∧ (((0 ≤ (iaI as 1) ∧ (iaI as 1) ≤ 5) ∧ (0 ≤ (iaI as 2) ∧ (iaI as 2) ≤ 3)) → ov = some (vI (partF (st μ 38 0 0 0) (iaI as 1) (iaI as 2))) ∧ μ' = st μ 38 0 0 0), fun σ as μ k => False)
def cd_X5_part : Cd := mkcd k_X5_part co_X5 fl_X5 [(127, cl_X5_refused), (96, cl_X5_partOf)] [(145, cl_X5_isClient), (122, cl_X5_isStock)] [] [] 3 1 0
set_option maxHeartbeats 4000000 in
set_option maxRecDepth 20000 in
theorem run_X5_part {ER : Option AV → Mm → Prop} {ET : Nat → Mm → Prop} (σ μ : Mm) (c s : Int) (hM : MR fam0 μ) (h_c : in32 c) (h_s : in32 s) (hP : Wk μ ∧ Xk μ) (hER : ∀ ov μ', (((¬ ((0 ≤ c ∧ c ≤ 5) ∧ (0 ≤ s ∧ s ≤ 3))) → ov = some (vI 0) ∧ μ' = st μ 38 0 0 1) ∧ (((0 ≤ c ∧ c ≤ 5) ∧ (0 ≤ s ∧ s ≤ 3)) → ov = some (vI (partF (st μ 38 0 0 0) c s)) ∧ μ' = st μ 38 0 0 0)) → ER ov μ') : Run fam0 none cd_X5_part ER ET 0 0 [some (vR 38 0), some (vI c), some (vI s)] [] μ := by
  obtain ⟨hW, hX⟩ := hP
  have hW0 : Wk (st μ 38 0 0 0) := Wk_st hW (by decide)
  have hLk := hW.1
  have hLk0 := hW0.1
  have hPk := hW.2.1
  have hPk0 := hW0.2.1
  have hGk := Gk_of hLk hW.2.2.2.2
  have hGk0 := Gk_of hLk0 hW0.2.2.2.2
  have hday := hX.1
  have hloc := hX.2.1.1
  have hrec := hX.2.2.1.1
  have hl0 := hLk.1
  refine run_k 3 ?_
  show ∃ σ : Mm, cl_X5_isClient.2.2.1 σ [vI c] μ ∧ (∀ ov μ', cl_X5_isClient.2.2.2.1 σ [vI c] μ ov μ' → Run fam0 none cd_X5_part ER ET 5 0 [some (vR 38 0), some (vI c), some (vI s)] (ov.toList ++ [vR 38 0]) μ') ∧ ∀ kx, cl_X5_isClient.2.2.2.2 σ [vI c] μ kx → thr cd_X5_part ET (Run fam0 none cd_X5_part ER ET) 2 0 [some (vR 38 0), some (vI c), some (vI s)] μ kx
  refine ⟨μ, ⟨rfl, show True from True.intro⟩, fun ov μ' hq => ?_, fun k hk => hk.elim⟩
  obtain ⟨hov, hmu⟩ : ov = some (vI (bi (0 ≤ c ∧ c ≤ 5))) ∧ μ' = μ := hq
  rw [hov, hmu]
  show Run fam0 none cd_X5_part ER ET 5 0 [some (vR 38 0), some (vI c), some (vI s)] [vI (bi (0 ≤ c ∧ c ≤ 5)), vR 38 0] μ
  refine run_k 1 ?_
  show ((bi (0 ≤ c ∧ c ≤ 5)) = 0 → Run fam0 none cd_X5_part ER ET 19 0 [some (vR 38 0), some (vI c), some (vI s)] [vR 38 0] μ) ∧ ((bi (0 ≤ c ∧ c ≤ 5)) ≠ 0 → Run fam0 none cd_X5_part ER ET 8 0 [some (vR 38 0), some (vI c), some (vI s)] [vR 38 0] μ)
  refine ⟨fun c2 => ?_, fun c2 => ?_⟩
  · replace c2 := (bi_e0.mp c2)
    refine run_k 2 ?_
    show ∃ σ : Mm, cl_X5_refused.2.2.1 σ [vR 38 0, vI 1] μ ∧ (∀ ov μ', cl_X5_refused.2.2.2.1 σ [vR 38 0, vI 1] μ ov μ' → Run fam0 none cd_X5_part ER ET 23 0 [some (vR 38 0), some (vI c), some (vI s)] (ov.toList ++ []) μ') ∧ ∀ kx, cl_X5_refused.2.2.2.2 σ [vR 38 0, vI 1] μ kx → thr cd_X5_part ET (Run fam0 none cd_X5_part ER ET) 20 0 [some (vR 38 0), some (vI c), some (vI s)] μ kx
    refine ⟨μ, ⟨rfl, show True from True.intro⟩, fun ov μ' hq => ?_, fun k hk => hk.elim⟩
    obtain ⟨hov, hmu⟩ : ov = some (vI 1) ∧ μ' = st μ 38 0 0 1 := hq
    rw [hov, hmu]
    show Run fam0 none cd_X5_part ER ET 23 0 [some (vR 38 0), some (vI c), some (vI s)] [vI 1] (st μ 38 0 0 1)
    refine run_k 1 ?_
    show (1 = 0 → Run fam0 none cd_X5_part ER ET 30 0 [some (vR 38 0), some (vI c), some (vI s)] [] (st μ 38 0 0 1)) ∧ (1 ≠ 0 → Run fam0 none cd_X5_part ER ET 26 0 [some (vR 38 0), some (vI c), some (vI s)] [] (st μ 38 0 0 1))
    refine ⟨fun c4 => absurd c4 (by decide), fun c4 => ?_⟩
    refine run_k 3 ?_
    show ER (some (vI 0)) (st μ 38 0 0 1)
    refine hER _ _ ⟨fun h => ?_, fun h => ?_⟩ <;> first | (exfalso; omega) | exact ⟨rfl, rfl⟩
  · replace c2 := (bi_n0.mp c2)
    refine run_k 2 ?_
    show ∃ σ : Mm, cl_X5_isStock.2.2.1 σ [vI s] μ ∧ (∀ ov μ', cl_X5_isStock.2.2.2.1 σ [vI s] μ ov μ' → Run fam0 none cd_X5_part ER ET 12 0 [some (vR 38 0), some (vI c), some (vI s)] (ov.toList ++ [vR 38 0]) μ') ∧ ∀ kx, cl_X5_isStock.2.2.2.2 σ [vI s] μ kx → thr cd_X5_part ET (Run fam0 none cd_X5_part ER ET) 9 0 [some (vR 38 0), some (vI c), some (vI s)] μ kx
    refine ⟨μ, ⟨rfl, show True from True.intro⟩, fun ov μ' hq => ?_, fun k hk => hk.elim⟩
    obtain ⟨hov, hmu⟩ : ov = some (vI (bi (0 ≤ s ∧ s ≤ 3))) ∧ μ' = μ := hq
    rw [hov, hmu]
    show Run fam0 none cd_X5_part ER ET 12 0 [some (vR 38 0), some (vI c), some (vI s)] [vI (bi (0 ≤ s ∧ s ≤ 3)), vR 38 0] μ
    refine run_k 1 ?_
    show ((bi (0 ≤ s ∧ s ≤ 3)) = 0 → Run fam0 none cd_X5_part ER ET 19 0 [some (vR 38 0), some (vI c), some (vI s)] [vR 38 0] μ) ∧ ((bi (0 ≤ s ∧ s ≤ 3)) ≠ 0 → Run fam0 none cd_X5_part ER ET 15 0 [some (vR 38 0), some (vI c), some (vI s)] [vR 38 0] μ)
    refine ⟨fun c7 => ?_, fun c7 => ?_⟩
    · replace c7 := (bi_e0.mp c7)
      refine run_k 2 ?_
      show ∃ σ : Mm, cl_X5_refused.2.2.1 σ [vR 38 0, vI 1] μ ∧ (∀ ov μ', cl_X5_refused.2.2.2.1 σ [vR 38 0, vI 1] μ ov μ' → Run fam0 none cd_X5_part ER ET 23 0 [some (vR 38 0), some (vI c), some (vI s)] (ov.toList ++ []) μ') ∧ ∀ kx, cl_X5_refused.2.2.2.2 σ [vR 38 0, vI 1] μ kx → thr cd_X5_part ET (Run fam0 none cd_X5_part ER ET) 20 0 [some (vR 38 0), some (vI c), some (vI s)] μ kx
      refine ⟨μ, ⟨rfl, show True from True.intro⟩, fun ov μ' hq => ?_, fun k hk => hk.elim⟩
      obtain ⟨hov, hmu⟩ : ov = some (vI 1) ∧ μ' = st μ 38 0 0 1 := hq
      rw [hov, hmu]
      show Run fam0 none cd_X5_part ER ET 23 0 [some (vR 38 0), some (vI c), some (vI s)] [vI 1] (st μ 38 0 0 1)
      refine run_k 1 ?_
      show (1 = 0 → Run fam0 none cd_X5_part ER ET 30 0 [some (vR 38 0), some (vI c), some (vI s)] [] (st μ 38 0 0 1)) ∧ (1 ≠ 0 → Run fam0 none cd_X5_part ER ET 26 0 [some (vR 38 0), some (vI c), some (vI s)] [] (st μ 38 0 0 1))
      refine ⟨fun c9 => absurd c9 (by decide), fun c9 => ?_⟩
      refine run_k 3 ?_
      show ER (some (vI 0)) (st μ 38 0 0 1)
      refine hER _ _ ⟨fun h => ?_, fun h => ?_⟩ <;> first | (exfalso; omega) | exact ⟨rfl, rfl⟩
    · replace c7 := (bi_n0.mp c7)
      refine run_k 3 ?_
      show ∃ σ : Mm, cl_X5_refused.2.2.1 σ [vR 38 0, vI 0] μ ∧ (∀ ov μ', cl_X5_refused.2.2.2.1 σ [vR 38 0, vI 0] μ ov μ' → Run fam0 none cd_X5_part ER ET 23 0 [some (vR 38 0), some (vI c), some (vI s)] (ov.toList ++ []) μ') ∧ ∀ kx, cl_X5_refused.2.2.2.2 σ [vR 38 0, vI 0] μ kx → thr cd_X5_part ET (Run fam0 none cd_X5_part ER ET) 20 0 [some (vR 38 0), some (vI c), some (vI s)] μ kx
      refine ⟨μ, ⟨rfl, show True from True.intro⟩, fun ov μ' hq => ?_, fun k hk => hk.elim⟩
      obtain ⟨hov, hmu⟩ : ov = some (vI 0) ∧ μ' = st μ 38 0 0 0 := hq
      rw [hov, hmu]
      show Run fam0 none cd_X5_part ER ET 23 0 [some (vR 38 0), some (vI c), some (vI s)] [vI 0] (st μ 38 0 0 0)
      refine run_k 1 ?_
      show (0 = 0 → Run fam0 none cd_X5_part ER ET 30 0 [some (vR 38 0), some (vI c), some (vI s)] [] (st μ 38 0 0 0)) ∧ (0 ≠ 0 → Run fam0 none cd_X5_part ER ET 26 0 [some (vR 38 0), some (vI c), some (vI s)] [] (st μ 38 0 0 0))
      refine ⟨fun c12 => ?_, fun c12 => absurd c12 (by decide)⟩
      refine run_k 4 ?_
      show ∃ σ : Mm, cl_X5_partOf.2.2.1 σ [vR 38 0, vI c, vI s] (st μ 38 0 0 0) ∧ (∀ ov μ', cl_X5_partOf.2.2.2.1 σ [vR 38 0, vI c, vI s] (st μ 38 0 0 0) ov μ' → Run fam0 none cd_X5_part ER ET 36 0 [some (vR 38 0), some (vI c), some (vI s)] (ov.toList ++ []) μ') ∧ ∀ kx, cl_X5_partOf.2.2.2.2 σ [vR 38 0, vI c, vI s] (st μ 38 0 0 0) kx → thr cd_X5_part ET (Run fam0 none cd_X5_part ER ET) 33 0 [some (vR 38 0), some (vI c), some (vI s)] (st μ 38 0 0 0) kx
      refine ⟨μ, ⟨rfl, show Lk (st μ 38 0 0 0) ∧ Pk (st μ 38 0 0 0) ∧ (0 ≤ c ∧ c ≤ 5) ∧ (0 ≤ s ∧ s ≤ 3) from ⟨(by assumption), (by assumption), by omega, by omega⟩⟩, fun ov μ' hq => ?_, fun k hk => hk.elim⟩
      obtain ⟨hov, hmu⟩ : ov = some (vI (partF (st μ 38 0 0 0) c s)) ∧ μ' = st μ 38 0 0 0 := hq
      rw [hov, hmu]
      show Run fam0 none cd_X5_part ER ET 36 0 [some (vR 38 0), some (vI c), some (vI s)] [vI (partF (st μ 38 0 0 0) c s)] (st μ 38 0 0 0)
      refine run_k 1 ?_
      show ER (some (vI (partF (st μ 38 0 0 0) c s))) (st μ 38 0 0 0)
      refine hER _ _ ⟨fun h => ?_, fun h => ?_⟩ <;> first | (exfalso; omega) | exact ⟨rfl, rfl⟩
set_option maxRecDepth 20000 in
theorem con_X5_part (l : Launch) (htr : l.stackTraces = false) (σ : Mm) : CON fam0 63 l yX5_part (Cond.code yX5_part cX5_part 3 (some .int) :: wm) 2 47 0 (cl_X5_part.2.2.1 σ) (cl_X5_part.2.2.2.1 σ) (cl_X5_part.2.2.2.2 σ) :=
  con_of (cd := cd_X5_part) (own := RX5) (rk := 1) (sc_of htr (by decide) k_X5_part_ok (by decide +kernel) co_X5_ok fl_X5_ok (all_cons ⟨RX5, yX5_refused, cX5_refused, 2, (some .boolean), 0, 0, 1, con_X5_refused l htr, rfl, vw_X5_127, ⟨rfl, by decide, by decide, by decide +kernel⟩, ⟨by decide, by decide⟩, fun σ as μ h => ⟨38, 0, _, h.1, rfl, TX5, 31, rfl⟩⟩ (all_cons ⟨RX5, yX5_partOf, cX5_partOf, 4, (some .int), 1, 24, 2, con_X5_partOf l htr, rfl, vw_X5_96, ⟨rfl, by decide, by decide, by decide +kernel⟩, ⟨by decide, by decide⟩, fun σ as μ h => ⟨38, 0, _, h.1, rfl, TX5, 31, rfl⟩⟩ all_nil)) (all_cons ⟨yX5_isClient, cX5_isClient, 1, (some .boolean), 1, 22, con_X5_isClient l htr, vw_X5_145, ⟨by decide, by decide, by decide +kernel⟩, ⟨by decide, by decide⟩⟩ (all_cons ⟨yX5_isStock, cX5_isStock, 1, (some .boolean), 1, 22, con_X5_isStock l htr, vw_X5_122, ⟨by decide, by decide, by decide +kernel⟩, ⟨by decide, by decide⟩⟩ all_nil)) all_nil) rfl (by decide +kernel) rfl rfl rfl rfl (fun as μ hs => by rw [hs.1]; exact Nat.le_of_ble_eq_true rfl)
    (fun as μ hs hM hrg => by
      have hs1 := hs.1
      have hmem : ∀ v, v ∈ ([vR 38 0, vI (iaI as 1), vI (iaI as 2)] : List AV) → rg fam0 v := by rw [← hs1]; exact hrg
      have key := run_X5_part (ER := cl_X5_part.2.2.2.1 σ as μ) (ET := fun k μ' => cl_X5_part.2.2.2.2 σ as μ k ∧ μ' = μ) σ μ (iaI as 1) (iaI as 2) hM (hmem (vI (iaI as 1)) (by simp)) (hmem (vI (iaI as 2)) (by simp)) hs.2 (fun ov μ' h => h)
      have e : entL as 3 = [some (vR 38 0), some (vI (iaI as 1)), some (vI (iaI as 2))] := by rw [hs1]; rfl
      rw [e]; exact key)
/-! ### PrimeborrowModel.loanOf -/
def cl_X5_loanOf : Cl := (3, 0, fun σ as μ => as = [vR 38 0, vI (iaI as 1), vI (iaI as 2)] ∧ (Wk μ ∧ Xk μ), fun σ as μ ov μ' => ((¬ (0 ≤ (iaI as 1) ∧ (iaI as 1) ≤ μ 38 0 11 - 1)) → ov = some (vI 0) ∧ μ' = st μ 38 0 0 1) ∧ (((0 ≤ (iaI as 1) ∧ (iaI as 1) ≤ μ 38 0 11 - 1) ∧ ¬ (0 ≤ (iaI as 2) ∧ (iaI as 2) ≤ 4)) → ov = some (vI 0) ∧ μ' = st μ 38 0 0 2) ∧ (((0 ≤ (iaI as 1) ∧ (iaI as 1) ≤ μ 38 0 11 - 1) ∧ (0 ≤ (iaI as 2) ∧ (iaI as 2) ≤ 4)) → ov = some (vI (if (iaI as 2) = 0 then μ 48 0 (iaI as 1) else if (iaI as 2) = 1 then μ 49 0 (iaI as 1) else if (iaI as 2) = 2 then μ 50 0 (iaI as 1) else if (iaI as 2) = 3 then μ 51 0 (iaI as 1) else μ 52 0 (iaI as 1))) ∧ μ' = st μ 38 0 0 0), fun σ as μ k => False)
def cd_X5_loanOf : Cd := mkcd k_X5_loanOf co_X5 fl_X5 [(127, cl_X5_refused)] [(85, cl_X5_in)] [] [] 3 1 0
set_option maxHeartbeats 4000000 in
set_option maxRecDepth 20000 in
theorem run_X5_loanOf {ER : Option AV → Mm → Prop} {ET : Nat → Mm → Prop} (σ μ : Mm) (k w : Int) (hM : MR fam0 μ) (h_k : in32 k) (h_w : in32 w) (hP : Wk μ ∧ Xk μ) (hER : ∀ ov μ', (((¬ (0 ≤ k ∧ k ≤ μ 38 0 11 - 1)) → ov = some (vI 0) ∧ μ' = st μ 38 0 0 1) ∧ (((0 ≤ k ∧ k ≤ μ 38 0 11 - 1) ∧ ¬ (0 ≤ w ∧ w ≤ 4)) → ov = some (vI 0) ∧ μ' = st μ 38 0 0 2) ∧ (((0 ≤ k ∧ k ≤ μ 38 0 11 - 1) ∧ (0 ≤ w ∧ w ≤ 4)) → ov = some (vI (if w = 0 then μ 48 0 k else if w = 1 then μ 49 0 k else if w = 2 then μ 50 0 k else if w = 3 then μ 51 0 k else μ 52 0 k)) ∧ μ' = st μ 38 0 0 0)) → ER ov μ') : Run fam0 none cd_X5_loanOf ER ET 0 0 [some (vR 38 0), some (vI k), some (vI w)] [] μ := by
  obtain ⟨hW, hX⟩ := hP
  have hW0 : Wk (st μ 38 0 0 0) := Wk_st hW (by decide)
  have hLk := hW.1
  have hLk0 := hW0.1
  have hPk := hW.2.1
  have hPk0 := hW0.2.1
  have hGk := Gk_of hLk hW.2.2.2.2
  have hGk0 := Gk_of hLk0 hW0.2.2.2.2
  have hday := hX.1
  have hloc := hX.2.1.1
  have hrec := hX.2.2.1.1
  have hl0 := hLk.1
  refine run_k 8 ?_
  show ∃ σ : Mm, cl_X5_in.2.2.1 σ [vI k, vI 0, vI (w32 ((μ 38 0 11) - 1))] μ ∧ (∀ ov μ', cl_X5_in.2.2.2.1 σ [vI k, vI 0, vI (w32 ((μ 38 0 11) - 1))] μ ov μ' → Run fam0 none cd_X5_loanOf ER ET 12 0 [some (vR 38 0), some (vI k), some (vI w)] (ov.toList ++ [vR 38 0]) μ') ∧ ∀ kx, cl_X5_in.2.2.2.2 σ [vI k, vI 0, vI (w32 ((μ 38 0 11) - 1))] μ kx → thr cd_X5_loanOf ET (Run fam0 none cd_X5_loanOf ER ET) 9 0 [some (vR 38 0), some (vI k), some (vI w)] μ kx
  rw [show w32 ((μ 38 0 11) - 1) = (μ 38 0 11) - 1 from w32_id (by simp only [in32]; omega)]
  refine ⟨μ, ⟨rfl, show True from True.intro⟩, fun ov μ' hq => ?_, fun k hk => hk.elim⟩
  obtain ⟨hov, hmu⟩ : ov = some (vI (bi (0 ≤ k ∧ k ≤ ((μ 38 0 11) - 1)))) ∧ μ' = μ := hq
  rw [hov, hmu]
  show Run fam0 none cd_X5_loanOf ER ET 12 0 [some (vR 38 0), some (vI k), some (vI w)] [vI (bi (0 ≤ k ∧ k ≤ ((μ 38 0 11) - 1))), vR 38 0] μ
  refine run_k 1 ?_
  show ((bi (0 ≤ k ∧ k ≤ ((μ 38 0 11) - 1))) ≠ 0 → Run fam0 none cd_X5_loanOf ER ET 19 0 [some (vR 38 0), some (vI k), some (vI w)] [vR 38 0] μ) ∧ ((bi (0 ≤ k ∧ k ≤ ((μ 38 0 11) - 1))) = 0 → Run fam0 none cd_X5_loanOf ER ET 15 0 [some (vR 38 0), some (vI k), some (vI w)] [vR 38 0] μ)
  refine ⟨fun c2 => ?_, fun c2 => ?_⟩
  · replace c2 := (bi_n0.mp c2)
    refine run_k 4 ?_
    show ∃ σ : Mm, cl_X5_in.2.2.1 σ [vI w, vI 0, vI 4] μ ∧ (∀ ov μ', cl_X5_in.2.2.2.1 σ [vI w, vI 0, vI 4] μ ov μ' → Run fam0 none cd_X5_loanOf ER ET 25 0 [some (vR 38 0), some (vI k), some (vI w)] (ov.toList ++ [vR 38 0]) μ') ∧ ∀ kx, cl_X5_in.2.2.2.2 σ [vI w, vI 0, vI 4] μ kx → thr cd_X5_loanOf ET (Run fam0 none cd_X5_loanOf ER ET) 22 0 [some (vR 38 0), some (vI k), some (vI w)] μ kx
    refine ⟨μ, ⟨rfl, show True from True.intro⟩, fun ov μ' hq => ?_, fun k hk => hk.elim⟩
    obtain ⟨hov, hmu⟩ : ov = some (vI (bi (0 ≤ w ∧ w ≤ 4))) ∧ μ' = μ := hq
    rw [hov, hmu]
    show Run fam0 none cd_X5_loanOf ER ET 25 0 [some (vR 38 0), some (vI k), some (vI w)] [vI (bi (0 ≤ w ∧ w ≤ 4)), vR 38 0] μ
    refine run_k 1 ?_
    show ((bi (0 ≤ w ∧ w ≤ 4)) ≠ 0 → Run fam0 none cd_X5_loanOf ER ET 32 0 [some (vR 38 0), some (vI k), some (vI w)] [vR 38 0] μ) ∧ ((bi (0 ≤ w ∧ w ≤ 4)) = 0 → Run fam0 none cd_X5_loanOf ER ET 28 0 [some (vR 38 0), some (vI k), some (vI w)] [vR 38 0] μ)
    refine ⟨fun c4 => ?_, fun c4 => ?_⟩
    · replace c4 := (bi_n0.mp c4)
      refine run_k 2 ?_
      show ∃ σ : Mm, cl_X5_refused.2.2.1 σ [vR 38 0, vI 0] μ ∧ (∀ ov μ', cl_X5_refused.2.2.2.1 σ [vR 38 0, vI 0] μ ov μ' → Run fam0 none cd_X5_loanOf ER ET 36 0 [some (vR 38 0), some (vI k), some (vI w)] (ov.toList ++ []) μ') ∧ ∀ kx, cl_X5_refused.2.2.2.2 σ [vR 38 0, vI 0] μ kx → thr cd_X5_loanOf ET (Run fam0 none cd_X5_loanOf ER ET) 33 0 [some (vR 38 0), some (vI k), some (vI w)] μ kx
      refine ⟨μ, ⟨rfl, show True from True.intro⟩, fun ov μ' hq => ?_, fun k hk => hk.elim⟩
      obtain ⟨hov, hmu⟩ : ov = some (vI 0) ∧ μ' = st μ 38 0 0 0 := hq
      rw [hov, hmu]
      show Run fam0 none cd_X5_loanOf ER ET 36 0 [some (vR 38 0), some (vI k), some (vI w)] [vI 0] (st μ 38 0 0 0)
      refine run_k 1 ?_
      show (0 = 0 → Run fam0 none cd_X5_loanOf ER ET 41 0 [some (vR 38 0), some (vI k), some (vI w)] [] (st μ 38 0 0 0)) ∧ (0 ≠ 0 → Run fam0 none cd_X5_loanOf ER ET 39 0 [some (vR 38 0), some (vI k), some (vI w)] [] (st μ 38 0 0 0))
      refine ⟨fun c6 => ?_, fun c6 => absurd c6 (by decide)⟩
      refine run_k 2 ?_
      show (w ≠ 0 → Run fam0 none cd_X5_loanOf ER ET 54 0 [some (vR 38 0), some (vI k), some (vI w)] [] (st μ 38 0 0 0)) ∧ (w = 0 → Run fam0 none cd_X5_loanOf ER ET 45 0 [some (vR 38 0), some (vI k), some (vI w)] [] (st μ 38 0 0 0))
      refine ⟨fun c7 => ?_, fun c7 => ?_⟩
      · refine run_k 3 ?_
        show (w ≠ 1 → Run fam0 none cd_X5_loanOf ER ET 68 0 [some (vR 38 0), some (vI k), some (vI w)] [] (st μ 38 0 0 0)) ∧ (w = 1 → Run fam0 none cd_X5_loanOf ER ET 59 0 [some (vR 38 0), some (vI k), some (vI w)] [] (st μ 38 0 0 0))
        refine ⟨fun c8 => ?_, fun c8 => ?_⟩
        · refine run_k 3 ?_
          show (w ≠ 2 → Run fam0 none cd_X5_loanOf ER ET 82 0 [some (vR 38 0), some (vI k), some (vI w)] [] (st μ 38 0 0 0)) ∧ (w = 2 → Run fam0 none cd_X5_loanOf ER ET 73 0 [some (vR 38 0), some (vI k), some (vI w)] [] (st μ 38 0 0 0))
          refine ⟨fun c9 => ?_, fun c9 => ?_⟩
          · refine run_k 3 ?_
            show (w ≠ 3 → Run fam0 none cd_X5_loanOf ER ET 96 0 [some (vR 38 0), some (vI k), some (vI w)] [] (st μ 38 0 0 0)) ∧ (w = 3 → Run fam0 none cd_X5_loanOf ER ET 87 0 [some (vR 38 0), some (vI k), some (vI w)] [] (st μ 38 0 0 0))
            refine ⟨fun c10 => ?_, fun c10 => ?_⟩
            · refine run_k 5 ?_
              show (0 ≤ k ∧ k < 1000) ∧ (ER (some (vI (μ 52 0 k))) (st μ 38 0 0 0))
              refine ⟨by omega, ?_⟩
              refine hER _ _ ⟨fun h => ?_, fun h => ?_, fun h => ?_⟩ <;> first | (exfalso; omega) | exact ⟨by first | rw [if_pos (by omega)] | (rw [if_neg (by omega)]; first | rw [if_pos (by omega)] | (rw [if_neg (by omega)]; first | rw [if_pos (by omega)] | (rw [if_neg (by omega)]; first | rw [if_pos (by omega)] | rw [if_neg (by omega)]))), rfl⟩ | exact ⟨rfl, rfl⟩
            · refine run_k 6 ?_
              show (0 ≤ k ∧ k < 1000) ∧ (ER (some (vI (μ 51 0 k))) (st μ 38 0 0 0))
              refine ⟨by omega, ?_⟩
              refine hER _ _ ⟨fun h => ?_, fun h => ?_, fun h => ?_⟩ <;> first | (exfalso; omega) | exact ⟨by first | rw [if_pos (by omega)] | (rw [if_neg (by omega)]; first | rw [if_pos (by omega)] | (rw [if_neg (by omega)]; first | rw [if_pos (by omega)] | (rw [if_neg (by omega)]; first | rw [if_pos (by omega)] | rw [if_neg (by omega)]))), rfl⟩ | exact ⟨rfl, rfl⟩
          · refine run_k 6 ?_
            show (0 ≤ k ∧ k < 1000) ∧ (ER (some (vI (μ 50 0 k))) (st μ 38 0 0 0))
            refine ⟨by omega, ?_⟩
            refine hER _ _ ⟨fun h => ?_, fun h => ?_, fun h => ?_⟩ <;> first | (exfalso; omega) | exact ⟨by first | rw [if_pos (by omega)] | (rw [if_neg (by omega)]; first | rw [if_pos (by omega)] | (rw [if_neg (by omega)]; first | rw [if_pos (by omega)] | (rw [if_neg (by omega)]; first | rw [if_pos (by omega)] | rw [if_neg (by omega)]))), rfl⟩ | exact ⟨rfl, rfl⟩
        · refine run_k 6 ?_
          show (0 ≤ k ∧ k < 1000) ∧ (ER (some (vI (μ 49 0 k))) (st μ 38 0 0 0))
          refine ⟨by omega, ?_⟩
          refine hER _ _ ⟨fun h => ?_, fun h => ?_, fun h => ?_⟩ <;> first | (exfalso; omega) | exact ⟨by first | rw [if_pos (by omega)] | (rw [if_neg (by omega)]; first | rw [if_pos (by omega)] | (rw [if_neg (by omega)]; first | rw [if_pos (by omega)] | (rw [if_neg (by omega)]; first | rw [if_pos (by omega)] | rw [if_neg (by omega)]))), rfl⟩ | exact ⟨rfl, rfl⟩
      · refine run_k 6 ?_
        show (0 ≤ k ∧ k < 1000) ∧ (ER (some (vI (μ 48 0 k))) (st μ 38 0 0 0))
        refine ⟨by omega, ?_⟩
        refine hER _ _ ⟨fun h => ?_, fun h => ?_, fun h => ?_⟩ <;> first | (exfalso; omega) | exact ⟨by first | rw [if_pos (by omega)] | (rw [if_neg (by omega)]; first | rw [if_pos (by omega)] | (rw [if_neg (by omega)]; first | rw [if_pos (by omega)] | (rw [if_neg (by omega)]; first | rw [if_pos (by omega)] | rw [if_neg (by omega)]))), rfl⟩ | exact ⟨rfl, rfl⟩
    · replace c4 := (bi_e0.mp c4)
      refine run_k 3 ?_
      show ∃ σ : Mm, cl_X5_refused.2.2.1 σ [vR 38 0, vI 2] μ ∧ (∀ ov μ', cl_X5_refused.2.2.2.1 σ [vR 38 0, vI 2] μ ov μ' → Run fam0 none cd_X5_loanOf ER ET 36 0 [some (vR 38 0), some (vI k), some (vI w)] (ov.toList ++ []) μ') ∧ ∀ kx, cl_X5_refused.2.2.2.2 σ [vR 38 0, vI 2] μ kx → thr cd_X5_loanOf ET (Run fam0 none cd_X5_loanOf ER ET) 33 0 [some (vR 38 0), some (vI k), some (vI w)] μ kx
      refine ⟨μ, ⟨rfl, show True from True.intro⟩, fun ov μ' hq => ?_, fun k hk => hk.elim⟩
      obtain ⟨hov, hmu⟩ : ov = some (vI 1) ∧ μ' = st μ 38 0 0 2 := hq
      rw [hov, hmu]
      show Run fam0 none cd_X5_loanOf ER ET 36 0 [some (vR 38 0), some (vI k), some (vI w)] [vI 1] (st μ 38 0 0 2)
      refine run_k 1 ?_
      show (1 = 0 → Run fam0 none cd_X5_loanOf ER ET 41 0 [some (vR 38 0), some (vI k), some (vI w)] [] (st μ 38 0 0 2)) ∧ (1 ≠ 0 → Run fam0 none cd_X5_loanOf ER ET 39 0 [some (vR 38 0), some (vI k), some (vI w)] [] (st μ 38 0 0 2))
      refine ⟨fun c17 => absurd c17 (by decide), fun c17 => ?_⟩
      refine run_k 2 ?_
      show ER (some (vI 0)) (st μ 38 0 0 2)
      refine hER _ _ ⟨fun h => ?_, fun h => ?_, fun h => ?_⟩ <;> first | (exfalso; omega) | exact ⟨by first | rw [if_pos (by omega)] | (rw [if_neg (by omega)]; first | rw [if_pos (by omega)] | (rw [if_neg (by omega)]; first | rw [if_pos (by omega)] | (rw [if_neg (by omega)]; first | rw [if_pos (by omega)] | rw [if_neg (by omega)]))), rfl⟩ | exact ⟨rfl, rfl⟩
  · replace c2 := (bi_e0.mp c2)
    refine run_k 3 ?_
    show ∃ σ : Mm, cl_X5_refused.2.2.1 σ [vR 38 0, vI 1] μ ∧ (∀ ov μ', cl_X5_refused.2.2.2.1 σ [vR 38 0, vI 1] μ ov μ' → Run fam0 none cd_X5_loanOf ER ET 36 0 [some (vR 38 0), some (vI k), some (vI w)] (ov.toList ++ []) μ') ∧ ∀ kx, cl_X5_refused.2.2.2.2 σ [vR 38 0, vI 1] μ kx → thr cd_X5_loanOf ET (Run fam0 none cd_X5_loanOf ER ET) 33 0 [some (vR 38 0), some (vI k), some (vI w)] μ kx
    refine ⟨μ, ⟨rfl, show True from True.intro⟩, fun ov μ' hq => ?_, fun k hk => hk.elim⟩
    obtain ⟨hov, hmu⟩ : ov = some (vI 1) ∧ μ' = st μ 38 0 0 1 := hq
    rw [hov, hmu]
    show Run fam0 none cd_X5_loanOf ER ET 36 0 [some (vR 38 0), some (vI k), some (vI w)] [vI 1] (st μ 38 0 0 1)
    refine run_k 1 ?_
    show (1 = 0 → Run fam0 none cd_X5_loanOf ER ET 41 0 [some (vR 38 0), some (vI k), some (vI w)] [] (st μ 38 0 0 1)) ∧ (1 ≠ 0 → Run fam0 none cd_X5_loanOf ER ET 39 0 [some (vR 38 0), some (vI k), some (vI w)] [] (st μ 38 0 0 1))
    refine ⟨fun c20 => absurd c20 (by decide), fun c20 => ?_⟩
    refine run_k 2 ?_
    show ER (some (vI 0)) (st μ 38 0 0 1)
    refine hER _ _ ⟨fun h => ?_, fun h => ?_, fun h => ?_⟩ <;> first | (exfalso; omega) | exact ⟨by first | rw [if_pos (by omega)] | (rw [if_neg (by omega)]; first | rw [if_pos (by omega)] | (rw [if_neg (by omega)]; first | rw [if_pos (by omega)] | (rw [if_neg (by omega)]; first | rw [if_pos (by omega)] | rw [if_neg (by omega)]))), rfl⟩ | exact ⟨rfl, rfl⟩
set_option maxRecDepth 20000 in
theorem con_X5_loanOf (l : Launch) (htr : l.stackTraces = false) (σ : Mm) : CON fam0 63 l yX5_loanOf (Cond.code yX5_loanOf cX5_loanOf 3 (some .int) :: wm) 1 22 0 (cl_X5_loanOf.2.2.1 σ) (cl_X5_loanOf.2.2.2.1 σ) (cl_X5_loanOf.2.2.2.2 σ) :=
  con_of (cd := cd_X5_loanOf) (own := RX5) (rk := 1) (sc_of htr (by decide) k_X5_loanOf_ok (by decide +kernel) co_X5_ok fl_X5_ok (all_cons ⟨RX5, yX5_refused, cX5_refused, 2, (some .boolean), 0, 0, 1, con_X5_refused l htr, rfl, vw_X5_127, ⟨rfl, by decide, by decide, by decide +kernel⟩, ⟨by decide, by decide⟩, fun σ as μ h => ⟨38, 0, _, h.1, rfl, TX5, 31, rfl⟩⟩ all_nil) (all_cons ⟨yX5_in, cX5_in, 3, (some .boolean), 0, 0, con_X5_in l htr, vw_X5_85, ⟨by decide, by decide, by decide +kernel⟩, ⟨by decide, by decide⟩⟩ all_nil) all_nil) rfl (by decide +kernel) rfl rfl rfl rfl (fun as μ hs => by rw [hs.1]; exact Nat.le_of_ble_eq_true rfl)
    (fun as μ hs hM hrg => by
      have hs1 := hs.1
      have hmem : ∀ v, v ∈ ([vR 38 0, vI (iaI as 1), vI (iaI as 2)] : List AV) → rg fam0 v := by rw [← hs1]; exact hrg
      have key := run_X5_loanOf (ER := cl_X5_loanOf.2.2.2.1 σ as μ) (ET := fun k μ' => cl_X5_loanOf.2.2.2.2 σ as μ k ∧ μ' = μ) σ μ (iaI as 1) (iaI as 2) hM (hmem (vI (iaI as 1)) (by simp)) (hmem (vI (iaI as 2)) (by simp)) hs.2 (fun ov μ' h => h)
      have e : entL as 3 = [some (vR 38 0), some (vI (iaI as 1)), some (vI (iaI as 2))] := by rw [hs1]; rfl
      rw [e]; exact key)
/-! ### PrimeborrowModel.offer -/
def cl_X5_offer : Cl := (5, 0, fun σ as μ => as = [vR 38 0, vI (iaI as 1), vI (iaI as 2), vI (iaI as 3), vI (iaI as 4)] ∧ (Wk μ ∧ Xk μ), fun σ as μ ov μ' => ((¬ ((0 ≤ (iaI as 1) ∧ (iaI as 1) ≤ 3) ∧ (0 ≤ (iaI as 2) ∧ (iaI as 2) ≤ 3))) → ov = some (vI 0) ∧ μ' = st μ 38 0 0 1) ∧ ((((0 ≤ (iaI as 1) ∧ (iaI as 1) ≤ 3) ∧ (0 ≤ (iaI as 2) ∧ (iaI as 2) ≤ 3)) ∧ ¬ ((0 ≤ (iaI as 3) ∧ (iaI as 3) ≤ 500) ∧ (0 ≤ (iaI as 4) ∧ (iaI as 4) ≤ 10000))) → ov = some (vI 0) ∧ μ' = st μ 38 0 0 2) ∧ (((((0 ≤ (iaI as 1) ∧ (iaI as 1) ≤ 3) ∧ (0 ≤ (iaI as 2) ∧ (iaI as 2) ≤ 3)) ∧ ((0 ≤ (iaI as 3) ∧ (iaI as 3) ≤ 500) ∧ (0 ≤ (iaI as 4) ∧ (iaI as 4) ≤ 10000))) ∧ 2000 < μ 45 0 (4 * (iaI as 1) + (iaI as 2)) + (iaI as 3)) → ov = some (vI 0) ∧ μ' = st μ 38 0 0 3) ∧ (((((0 ≤ (iaI as 1) ∧ (iaI as 1) ≤ 3) ∧ (0 ≤ (iaI as 2) ∧ (iaI as 2) ≤ 3)) ∧ ((0 ≤ (iaI as 3) ∧ (iaI as 3) ≤ 500) ∧ (0 ≤ (iaI as 4) ∧ (iaI as 4) ≤ 10000))) ∧ μ 45 0 (4 * (iaI as 1) + (iaI as 2)) + (iaI as 3) ≤ 2000) → ov = some (vI (μ 45 0 (4 * (iaI as 1) + (iaI as 2)) + (iaI as 3))) ∧ μ' = st (st (st μ 38 0 0 0) 45 0 (4 * (iaI as 1) + (iaI as 2)) (μ 45 0 (4 * (iaI as 1) + (iaI as 2)) + (iaI as 3))) 46 0 (4 * (iaI as 1) + (iaI as 2)) (iaI as 4)), fun σ as μ k => False)
def cd_X5_offer : Cd := mkcd k_X5_offer co_X5 fl_X5 [(127, cl_X5_refused)] [(150, cl_X5_isLender), (122, cl_X5_isStock), (85, cl_X5_in)] [] [] 7 1 0
set_option maxHeartbeats 4000000 in
set_option maxRecDepth 20000 in
theorem run_X5_offer {ER : Option AV → Mm → Prop} {ET : Nat → Mm → Prop} (σ μ : Mm) (l s n f : Int) (hM : MR fam0 μ) (h_l : in32 l) (h_s : in32 s) (h_n : in32 n) (h_f : in32 f) (hP : Wk μ ∧ Xk μ) (hER : ∀ ov μ', (((¬ ((0 ≤ l ∧ l ≤ 3) ∧ (0 ≤ s ∧ s ≤ 3))) → ov = some (vI 0) ∧ μ' = st μ 38 0 0 1) ∧ ((((0 ≤ l ∧ l ≤ 3) ∧ (0 ≤ s ∧ s ≤ 3)) ∧ ¬ ((0 ≤ n ∧ n ≤ 500) ∧ (0 ≤ f ∧ f ≤ 10000))) → ov = some (vI 0) ∧ μ' = st μ 38 0 0 2) ∧ (((((0 ≤ l ∧ l ≤ 3) ∧ (0 ≤ s ∧ s ≤ 3)) ∧ ((0 ≤ n ∧ n ≤ 500) ∧ (0 ≤ f ∧ f ≤ 10000))) ∧ 2000 < μ 45 0 (4 * l + s) + n) → ov = some (vI 0) ∧ μ' = st μ 38 0 0 3) ∧ (((((0 ≤ l ∧ l ≤ 3) ∧ (0 ≤ s ∧ s ≤ 3)) ∧ ((0 ≤ n ∧ n ≤ 500) ∧ (0 ≤ f ∧ f ≤ 10000))) ∧ μ 45 0 (4 * l + s) + n ≤ 2000) → ov = some (vI (μ 45 0 (4 * l + s) + n)) ∧ μ' = st (st (st μ 38 0 0 0) 45 0 (4 * l + s) (μ 45 0 (4 * l + s) + n)) 46 0 (4 * l + s) f)) → ER ov μ') : Run fam0 none cd_X5_offer ER ET 0 0 [some (vR 38 0), some (vI l), some (vI s), some (vI n), some (vI f), none, none] [] μ := by
  obtain ⟨hW, hX⟩ := hP
  have hW0 : Wk (st μ 38 0 0 0) := Wk_st hW (by decide)
  have hLk := hW.1
  have hLk0 := hW0.1
  have hPk := hW.2.1
  have hPk0 := hW0.2.1
  have hGk := Gk_of hLk hW.2.2.2.2
  have hGk0 := Gk_of hLk0 hW0.2.2.2.2
  have hday := hX.1
  have hloc := hX.2.1.1
  have hrec := hX.2.2.1.1
  have hl0 := hLk.1
  have hgi := hGk (4 * l + s)
  refine run_k 2 ?_
  show ∃ σ : Mm, cl_X5_isLender.2.2.1 σ [vI l] μ ∧ (∀ ov μ', cl_X5_isLender.2.2.2.1 σ [vI l] μ ov μ' → Run fam0 none cd_X5_offer ER ET 4 0 [some (vR 38 0), some (vI l), some (vI s), some (vI n), some (vI f), none, none] (ov.toList ++ []) μ') ∧ ∀ kx, cl_X5_isLender.2.2.2.2 σ [vI l] μ kx → thr cd_X5_offer ET (Run fam0 none cd_X5_offer ER ET) 1 0 [some (vR 38 0), some (vI l), some (vI s), some (vI n), some (vI f), none, none] μ kx
  refine ⟨μ, ⟨rfl, show True from True.intro⟩, fun ov μ' hq => ?_, fun k hk => hk.elim⟩
  obtain ⟨hov, hmu⟩ : ov = some (vI (bi (0 ≤ l ∧ l ≤ 3))) ∧ μ' = μ := hq
  rw [hov, hmu]
  show Run fam0 none cd_X5_offer ER ET 4 0 [some (vR 38 0), some (vI l), some (vI s), some (vI n), some (vI f), none, none] [vI (bi (0 ≤ l ∧ l ≤ 3))] μ
  refine run_k 1 ?_
  show ((bi (0 ≤ l ∧ l ≤ 3)) = 0 → Run fam0 none cd_X5_offer ER ET 18 0 [some (vR 38 0), some (vI l), some (vI s), some (vI n), some (vI f), none, none] [] μ) ∧ ((bi (0 ≤ l ∧ l ≤ 3)) ≠ 0 → Run fam0 none cd_X5_offer ER ET 7 0 [some (vR 38 0), some (vI l), some (vI s), some (vI n), some (vI f), none, none] [] μ)
  refine ⟨fun c2 => ?_, fun c2 => ?_⟩
  · replace c2 := (bi_e0.mp c2)
    refine run_k 6 ?_
    show ∃ σ : Mm, cl_X5_in.2.2.1 σ [vI n, vI 0, vI 500] μ ∧ (∀ ov μ', cl_X5_in.2.2.2.1 σ [vI n, vI 0, vI 500] μ ov μ' → Run fam0 none cd_X5_offer ER ET 29 0 [some (vR 38 0), some (vI l), some (vI s), some (vI n), some (vI f), some (vI 0), none] (ov.toList ++ []) μ') ∧ ∀ kx, cl_X5_in.2.2.2.2 σ [vI n, vI 0, vI 500] μ kx → thr cd_X5_offer ET (Run fam0 none cd_X5_offer ER ET) 26 0 [some (vR 38 0), some (vI l), some (vI s), some (vI n), some (vI f), some (vI 0), none] μ kx
    refine ⟨μ, ⟨rfl, show True from True.intro⟩, fun ov μ' hq => ?_, fun k hk => hk.elim⟩
    obtain ⟨hov, hmu⟩ : ov = some (vI (bi (0 ≤ n ∧ n ≤ 500))) ∧ μ' = μ := hq
    rw [hov, hmu]
    show Run fam0 none cd_X5_offer ER ET 29 0 [some (vR 38 0), some (vI l), some (vI s), some (vI n), some (vI f), some (vI 0), none] [vI (bi (0 ≤ n ∧ n ≤ 500))] μ
    refine run_k 1 ?_
    show ((bi (0 ≤ n ∧ n ≤ 500)) = 0 → Run fam0 none cd_X5_offer ER ET 48 0 [some (vR 38 0), some (vI l), some (vI s), some (vI n), some (vI f), some (vI 0), none] [] μ) ∧ ((bi (0 ≤ n ∧ n ≤ 500)) ≠ 0 → Run fam0 none cd_X5_offer ER ET 32 0 [some (vR 38 0), some (vI l), some (vI s), some (vI n), some (vI f), some (vI 0), none] [] μ)
    refine ⟨fun c4 => ?_, fun c4 => ?_⟩
    · replace c4 := (bi_e0.mp c4)
      refine run_k 5 ?_
      show (0 ≠ 0 → Run fam0 none cd_X5_offer ER ET 61 0 [some (vR 38 0), some (vI l), some (vI s), some (vI n), some (vI f), some (vI 0), some (vI 0)] [vR 38 0] μ) ∧ (0 = 0 → Run fam0 none cd_X5_offer ER ET 57 0 [some (vR 38 0), some (vI l), some (vI s), some (vI n), some (vI f), some (vI 0), some (vI 0)] [vR 38 0] μ)
      refine ⟨fun c5 => absurd c5 (by decide), fun c5 => ?_⟩
      refine run_k 3 ?_
      show ∃ σ : Mm, cl_X5_refused.2.2.1 σ [vR 38 0, vI 1] μ ∧ (∀ ov μ', cl_X5_refused.2.2.2.1 σ [vR 38 0, vI 1] μ ov μ' → Run fam0 none cd_X5_offer ER ET 96 0 [some (vR 38 0), some (vI l), some (vI s), some (vI n), some (vI f), some (vI 0), some (vI 0)] (ov.toList ++ []) μ') ∧ ∀ kx, cl_X5_refused.2.2.2.2 σ [vR 38 0, vI 1] μ kx → thr cd_X5_offer ET (Run fam0 none cd_X5_offer ER ET) 93 0 [some (vR 38 0), some (vI l), some (vI s), some (vI n), some (vI f), some (vI 0), some (vI 0)] μ kx
      refine ⟨μ, ⟨rfl, show True from True.intro⟩, fun ov μ' hq => ?_, fun k hk => hk.elim⟩
      obtain ⟨hov, hmu⟩ : ov = some (vI 1) ∧ μ' = st μ 38 0 0 1 := hq
      rw [hov, hmu]
      show Run fam0 none cd_X5_offer ER ET 96 0 [some (vR 38 0), some (vI l), some (vI s), some (vI n), some (vI f), some (vI 0), some (vI 0)] [vI 1] (st μ 38 0 0 1)
      refine run_k 1 ?_
      show (1 = 0 → Run fam0 none cd_X5_offer ER ET 101 0 [some (vR 38 0), some (vI l), some (vI s), some (vI n), some (vI f), some (vI 0), some (vI 0)] [] (st μ 38 0 0 1)) ∧ (1 ≠ 0 → Run fam0 none cd_X5_offer ER ET 99 0 [some (vR 38 0), some (vI l), some (vI s), some (vI n), some (vI f), some (vI 0), some (vI 0)] [] (st μ 38 0 0 1))
      refine ⟨fun c7 => absurd c7 (by decide), fun c7 => ?_⟩
      refine run_k 2 ?_
      show ER (some (vI 0)) (st μ 38 0 0 1)
      refine hER _ _ ⟨fun h => ?_, fun h => ?_, fun h => ?_, fun h => ?_⟩ <;> first | (exfalso; omega) | exact ⟨by rw [st_s], rfl⟩ | exact ⟨rfl, rfl⟩
    · replace c4 := (bi_n0.mp c4)
      refine run_k 4 ?_
      show ∃ σ : Mm, cl_X5_in.2.2.1 σ [vI f, vI 0, vI 10000] μ ∧ (∀ ov μ', cl_X5_in.2.2.2.1 σ [vI f, vI 0, vI 10000] μ ov μ' → Run fam0 none cd_X5_offer ER ET 41 0 [some (vR 38 0), some (vI l), some (vI s), some (vI n), some (vI f), some (vI 0), none] (ov.toList ++ []) μ') ∧ ∀ kx, cl_X5_in.2.2.2.2 σ [vI f, vI 0, vI 10000] μ kx → thr cd_X5_offer ET (Run fam0 none cd_X5_offer ER ET) 38 0 [some (vR 38 0), some (vI l), some (vI s), some (vI n), some (vI f), some (vI 0), none] μ kx
      refine ⟨μ, ⟨rfl, show True from True.intro⟩, fun ov μ' hq => ?_, fun k hk => hk.elim⟩
      obtain ⟨hov, hmu⟩ : ov = some (vI (bi (0 ≤ f ∧ f ≤ 10000))) ∧ μ' = μ := hq
      rw [hov, hmu]
      show Run fam0 none cd_X5_offer ER ET 41 0 [some (vR 38 0), some (vI l), some (vI s), some (vI n), some (vI f), some (vI 0), none] [vI (bi (0 ≤ f ∧ f ≤ 10000))] μ
      refine run_k 1 ?_
      show ((bi (0 ≤ f ∧ f ≤ 10000)) = 0 → Run fam0 none cd_X5_offer ER ET 48 0 [some (vR 38 0), some (vI l), some (vI s), some (vI n), some (vI f), some (vI 0), none] [] μ) ∧ ((bi (0 ≤ f ∧ f ≤ 10000)) ≠ 0 → Run fam0 none cd_X5_offer ER ET 44 0 [some (vR 38 0), some (vI l), some (vI s), some (vI n), some (vI f), some (vI 0), none] [] μ)
      refine ⟨fun c10 => ?_, fun c10 => ?_⟩
      · replace c10 := (bi_e0.mp c10)
        refine run_k 5 ?_
        show (0 ≠ 0 → Run fam0 none cd_X5_offer ER ET 61 0 [some (vR 38 0), some (vI l), some (vI s), some (vI n), some (vI f), some (vI 0), some (vI 0)] [vR 38 0] μ) ∧ (0 = 0 → Run fam0 none cd_X5_offer ER ET 57 0 [some (vR 38 0), some (vI l), some (vI s), some (vI n), some (vI f), some (vI 0), some (vI 0)] [vR 38 0] μ)
        refine ⟨fun c11 => absurd c11 (by decide), fun c11 => ?_⟩
        refine run_k 3 ?_
        show ∃ σ : Mm, cl_X5_refused.2.2.1 σ [vR 38 0, vI 1] μ ∧ (∀ ov μ', cl_X5_refused.2.2.2.1 σ [vR 38 0, vI 1] μ ov μ' → Run fam0 none cd_X5_offer ER ET 96 0 [some (vR 38 0), some (vI l), some (vI s), some (vI n), some (vI f), some (vI 0), some (vI 0)] (ov.toList ++ []) μ') ∧ ∀ kx, cl_X5_refused.2.2.2.2 σ [vR 38 0, vI 1] μ kx → thr cd_X5_offer ET (Run fam0 none cd_X5_offer ER ET) 93 0 [some (vR 38 0), some (vI l), some (vI s), some (vI n), some (vI f), some (vI 0), some (vI 0)] μ kx
        refine ⟨μ, ⟨rfl, show True from True.intro⟩, fun ov μ' hq => ?_, fun k hk => hk.elim⟩
        obtain ⟨hov, hmu⟩ : ov = some (vI 1) ∧ μ' = st μ 38 0 0 1 := hq
        rw [hov, hmu]
        show Run fam0 none cd_X5_offer ER ET 96 0 [some (vR 38 0), some (vI l), some (vI s), some (vI n), some (vI f), some (vI 0), some (vI 0)] [vI 1] (st μ 38 0 0 1)
        refine run_k 1 ?_
        show (1 = 0 → Run fam0 none cd_X5_offer ER ET 101 0 [some (vR 38 0), some (vI l), some (vI s), some (vI n), some (vI f), some (vI 0), some (vI 0)] [] (st μ 38 0 0 1)) ∧ (1 ≠ 0 → Run fam0 none cd_X5_offer ER ET 99 0 [some (vR 38 0), some (vI l), some (vI s), some (vI n), some (vI f), some (vI 0), some (vI 0)] [] (st μ 38 0 0 1))
        refine ⟨fun c13 => absurd c13 (by decide), fun c13 => ?_⟩
        refine run_k 2 ?_
        show ER (some (vI 0)) (st μ 38 0 0 1)
        refine hER _ _ ⟨fun h => ?_, fun h => ?_, fun h => ?_, fun h => ?_⟩ <;> first | (exfalso; omega) | exact ⟨by rw [st_s], rfl⟩ | exact ⟨rfl, rfl⟩
      · replace c10 := (bi_n0.mp c10)
        refine run_k 6 ?_
        show (0 ≠ 0 → Run fam0 none cd_X5_offer ER ET 61 0 [some (vR 38 0), some (vI l), some (vI s), some (vI n), some (vI f), some (vI 0), some (vI 1)] [vR 38 0] μ) ∧ (0 = 0 → Run fam0 none cd_X5_offer ER ET 57 0 [some (vR 38 0), some (vI l), some (vI s), some (vI n), some (vI f), some (vI 0), some (vI 1)] [vR 38 0] μ)
        refine ⟨fun c15 => absurd c15 (by decide), fun c15 => ?_⟩
        refine run_k 3 ?_
        show ∃ σ : Mm, cl_X5_refused.2.2.1 σ [vR 38 0, vI 1] μ ∧ (∀ ov μ', cl_X5_refused.2.2.2.1 σ [vR 38 0, vI 1] μ ov μ' → Run fam0 none cd_X5_offer ER ET 96 0 [some (vR 38 0), some (vI l), some (vI s), some (vI n), some (vI f), some (vI 0), some (vI 1)] (ov.toList ++ []) μ') ∧ ∀ kx, cl_X5_refused.2.2.2.2 σ [vR 38 0, vI 1] μ kx → thr cd_X5_offer ET (Run fam0 none cd_X5_offer ER ET) 93 0 [some (vR 38 0), some (vI l), some (vI s), some (vI n), some (vI f), some (vI 0), some (vI 1)] μ kx
        refine ⟨μ, ⟨rfl, show True from True.intro⟩, fun ov μ' hq => ?_, fun k hk => hk.elim⟩
        obtain ⟨hov, hmu⟩ : ov = some (vI 1) ∧ μ' = st μ 38 0 0 1 := hq
        rw [hov, hmu]
        show Run fam0 none cd_X5_offer ER ET 96 0 [some (vR 38 0), some (vI l), some (vI s), some (vI n), some (vI f), some (vI 0), some (vI 1)] [vI 1] (st μ 38 0 0 1)
        refine run_k 1 ?_
        show (1 = 0 → Run fam0 none cd_X5_offer ER ET 101 0 [some (vR 38 0), some (vI l), some (vI s), some (vI n), some (vI f), some (vI 0), some (vI 1)] [] (st μ 38 0 0 1)) ∧ (1 ≠ 0 → Run fam0 none cd_X5_offer ER ET 99 0 [some (vR 38 0), some (vI l), some (vI s), some (vI n), some (vI f), some (vI 0), some (vI 1)] [] (st μ 38 0 0 1))
        refine ⟨fun c17 => absurd c17 (by decide), fun c17 => ?_⟩
        refine run_k 2 ?_
        show ER (some (vI 0)) (st μ 38 0 0 1)
        refine hER _ _ ⟨fun h => ?_, fun h => ?_, fun h => ?_, fun h => ?_⟩ <;> first | (exfalso; omega) | exact ⟨by rw [st_s], rfl⟩ | exact ⟨rfl, rfl⟩
  · replace c2 := (bi_n0.mp c2)
    refine run_k 2 ?_
    show ∃ σ : Mm, cl_X5_isStock.2.2.1 σ [vI s] μ ∧ (∀ ov μ', cl_X5_isStock.2.2.2.1 σ [vI s] μ ov μ' → Run fam0 none cd_X5_offer ER ET 11 0 [some (vR 38 0), some (vI l), some (vI s), some (vI n), some (vI f), none, none] (ov.toList ++ []) μ') ∧ ∀ kx, cl_X5_isStock.2.2.2.2 σ [vI s] μ kx → thr cd_X5_offer ET (Run fam0 none cd_X5_offer ER ET) 8 0 [some (vR 38 0), some (vI l), some (vI s), some (vI n), some (vI f), none, none] μ kx
    refine ⟨μ, ⟨rfl, show True from True.intro⟩, fun ov μ' hq => ?_, fun k hk => hk.elim⟩
    obtain ⟨hov, hmu⟩ : ov = some (vI (bi (0 ≤ s ∧ s ≤ 3))) ∧ μ' = μ := hq
    rw [hov, hmu]
    show Run fam0 none cd_X5_offer ER ET 11 0 [some (vR 38 0), some (vI l), some (vI s), some (vI n), some (vI f), none, none] [vI (bi (0 ≤ s ∧ s ≤ 3))] μ
    refine run_k 1 ?_
    show ((bi (0 ≤ s ∧ s ≤ 3)) = 0 → Run fam0 none cd_X5_offer ER ET 18 0 [some (vR 38 0), some (vI l), some (vI s), some (vI n), some (vI f), none, none] [] μ) ∧ ((bi (0 ≤ s ∧ s ≤ 3)) ≠ 0 → Run fam0 none cd_X5_offer ER ET 14 0 [some (vR 38 0), some (vI l), some (vI s), some (vI n), some (vI f), none, none] [] μ)
    refine ⟨fun c20 => ?_, fun c20 => ?_⟩
    · replace c20 := (bi_e0.mp c20)
      refine run_k 6 ?_
      show ∃ σ : Mm, cl_X5_in.2.2.1 σ [vI n, vI 0, vI 500] μ ∧ (∀ ov μ', cl_X5_in.2.2.2.1 σ [vI n, vI 0, vI 500] μ ov μ' → Run fam0 none cd_X5_offer ER ET 29 0 [some (vR 38 0), some (vI l), some (vI s), some (vI n), some (vI f), some (vI 0), none] (ov.toList ++ []) μ') ∧ ∀ kx, cl_X5_in.2.2.2.2 σ [vI n, vI 0, vI 500] μ kx → thr cd_X5_offer ET (Run fam0 none cd_X5_offer ER ET) 26 0 [some (vR 38 0), some (vI l), some (vI s), some (vI n), some (vI f), some (vI 0), none] μ kx
      refine ⟨μ, ⟨rfl, show True from True.intro⟩, fun ov μ' hq => ?_, fun k hk => hk.elim⟩
      obtain ⟨hov, hmu⟩ : ov = some (vI (bi (0 ≤ n ∧ n ≤ 500))) ∧ μ' = μ := hq
      rw [hov, hmu]
      show Run fam0 none cd_X5_offer ER ET 29 0 [some (vR 38 0), some (vI l), some (vI s), some (vI n), some (vI f), some (vI 0), none] [vI (bi (0 ≤ n ∧ n ≤ 500))] μ
      refine run_k 1 ?_
      show ((bi (0 ≤ n ∧ n ≤ 500)) = 0 → Run fam0 none cd_X5_offer ER ET 48 0 [some (vR 38 0), some (vI l), some (vI s), some (vI n), some (vI f), some (vI 0), none] [] μ) ∧ ((bi (0 ≤ n ∧ n ≤ 500)) ≠ 0 → Run fam0 none cd_X5_offer ER ET 32 0 [some (vR 38 0), some (vI l), some (vI s), some (vI n), some (vI f), some (vI 0), none] [] μ)
      refine ⟨fun c22 => ?_, fun c22 => ?_⟩
      · replace c22 := (bi_e0.mp c22)
        refine run_k 5 ?_
        show (0 ≠ 0 → Run fam0 none cd_X5_offer ER ET 61 0 [some (vR 38 0), some (vI l), some (vI s), some (vI n), some (vI f), some (vI 0), some (vI 0)] [vR 38 0] μ) ∧ (0 = 0 → Run fam0 none cd_X5_offer ER ET 57 0 [some (vR 38 0), some (vI l), some (vI s), some (vI n), some (vI f), some (vI 0), some (vI 0)] [vR 38 0] μ)
        refine ⟨fun c23 => absurd c23 (by decide), fun c23 => ?_⟩
        refine run_k 3 ?_
        show ∃ σ : Mm, cl_X5_refused.2.2.1 σ [vR 38 0, vI 1] μ ∧ (∀ ov μ', cl_X5_refused.2.2.2.1 σ [vR 38 0, vI 1] μ ov μ' → Run fam0 none cd_X5_offer ER ET 96 0 [some (vR 38 0), some (vI l), some (vI s), some (vI n), some (vI f), some (vI 0), some (vI 0)] (ov.toList ++ []) μ') ∧ ∀ kx, cl_X5_refused.2.2.2.2 σ [vR 38 0, vI 1] μ kx → thr cd_X5_offer ET (Run fam0 none cd_X5_offer ER ET) 93 0 [some (vR 38 0), some (vI l), some (vI s), some (vI n), some (vI f), some (vI 0), some (vI 0)] μ kx
        refine ⟨μ, ⟨rfl, show True from True.intro⟩, fun ov μ' hq => ?_, fun k hk => hk.elim⟩
        obtain ⟨hov, hmu⟩ : ov = some (vI 1) ∧ μ' = st μ 38 0 0 1 := hq
        rw [hov, hmu]
        show Run fam0 none cd_X5_offer ER ET 96 0 [some (vR 38 0), some (vI l), some (vI s), some (vI n), some (vI f), some (vI 0), some (vI 0)] [vI 1] (st μ 38 0 0 1)
        refine run_k 1 ?_
        show (1 = 0 → Run fam0 none cd_X5_offer ER ET 101 0 [some (vR 38 0), some (vI l), some (vI s), some (vI n), some (vI f), some (vI 0), some (vI 0)] [] (st μ 38 0 0 1)) ∧ (1 ≠ 0 → Run fam0 none cd_X5_offer ER ET 99 0 [some (vR 38 0), some (vI l), some (vI s), some (vI n), some (vI f), some (vI 0), some (vI 0)] [] (st μ 38 0 0 1))
        refine ⟨fun c25 => absurd c25 (by decide), fun c25 => ?_⟩
        refine run_k 2 ?_
        show ER (some (vI 0)) (st μ 38 0 0 1)
        refine hER _ _ ⟨fun h => ?_, fun h => ?_, fun h => ?_, fun h => ?_⟩ <;> first | (exfalso; omega) | exact ⟨by rw [st_s], rfl⟩ | exact ⟨rfl, rfl⟩
      · replace c22 := (bi_n0.mp c22)
        refine run_k 4 ?_
        show ∃ σ : Mm, cl_X5_in.2.2.1 σ [vI f, vI 0, vI 10000] μ ∧ (∀ ov μ', cl_X5_in.2.2.2.1 σ [vI f, vI 0, vI 10000] μ ov μ' → Run fam0 none cd_X5_offer ER ET 41 0 [some (vR 38 0), some (vI l), some (vI s), some (vI n), some (vI f), some (vI 0), none] (ov.toList ++ []) μ') ∧ ∀ kx, cl_X5_in.2.2.2.2 σ [vI f, vI 0, vI 10000] μ kx → thr cd_X5_offer ET (Run fam0 none cd_X5_offer ER ET) 38 0 [some (vR 38 0), some (vI l), some (vI s), some (vI n), some (vI f), some (vI 0), none] μ kx
        refine ⟨μ, ⟨rfl, show True from True.intro⟩, fun ov μ' hq => ?_, fun k hk => hk.elim⟩
        obtain ⟨hov, hmu⟩ : ov = some (vI (bi (0 ≤ f ∧ f ≤ 10000))) ∧ μ' = μ := hq
        rw [hov, hmu]
        show Run fam0 none cd_X5_offer ER ET 41 0 [some (vR 38 0), some (vI l), some (vI s), some (vI n), some (vI f), some (vI 0), none] [vI (bi (0 ≤ f ∧ f ≤ 10000))] μ
        refine run_k 1 ?_
        show ((bi (0 ≤ f ∧ f ≤ 10000)) = 0 → Run fam0 none cd_X5_offer ER ET 48 0 [some (vR 38 0), some (vI l), some (vI s), some (vI n), some (vI f), some (vI 0), none] [] μ) ∧ ((bi (0 ≤ f ∧ f ≤ 10000)) ≠ 0 → Run fam0 none cd_X5_offer ER ET 44 0 [some (vR 38 0), some (vI l), some (vI s), some (vI n), some (vI f), some (vI 0), none] [] μ)
        refine ⟨fun c28 => ?_, fun c28 => ?_⟩
        · replace c28 := (bi_e0.mp c28)
          refine run_k 5 ?_
          show (0 ≠ 0 → Run fam0 none cd_X5_offer ER ET 61 0 [some (vR 38 0), some (vI l), some (vI s), some (vI n), some (vI f), some (vI 0), some (vI 0)] [vR 38 0] μ) ∧ (0 = 0 → Run fam0 none cd_X5_offer ER ET 57 0 [some (vR 38 0), some (vI l), some (vI s), some (vI n), some (vI f), some (vI 0), some (vI 0)] [vR 38 0] μ)
          refine ⟨fun c29 => absurd c29 (by decide), fun c29 => ?_⟩
          refine run_k 3 ?_
          show ∃ σ : Mm, cl_X5_refused.2.2.1 σ [vR 38 0, vI 1] μ ∧ (∀ ov μ', cl_X5_refused.2.2.2.1 σ [vR 38 0, vI 1] μ ov μ' → Run fam0 none cd_X5_offer ER ET 96 0 [some (vR 38 0), some (vI l), some (vI s), some (vI n), some (vI f), some (vI 0), some (vI 0)] (ov.toList ++ []) μ') ∧ ∀ kx, cl_X5_refused.2.2.2.2 σ [vR 38 0, vI 1] μ kx → thr cd_X5_offer ET (Run fam0 none cd_X5_offer ER ET) 93 0 [some (vR 38 0), some (vI l), some (vI s), some (vI n), some (vI f), some (vI 0), some (vI 0)] μ kx
          refine ⟨μ, ⟨rfl, show True from True.intro⟩, fun ov μ' hq => ?_, fun k hk => hk.elim⟩
          obtain ⟨hov, hmu⟩ : ov = some (vI 1) ∧ μ' = st μ 38 0 0 1 := hq
          rw [hov, hmu]
          show Run fam0 none cd_X5_offer ER ET 96 0 [some (vR 38 0), some (vI l), some (vI s), some (vI n), some (vI f), some (vI 0), some (vI 0)] [vI 1] (st μ 38 0 0 1)
          refine run_k 1 ?_
          show (1 = 0 → Run fam0 none cd_X5_offer ER ET 101 0 [some (vR 38 0), some (vI l), some (vI s), some (vI n), some (vI f), some (vI 0), some (vI 0)] [] (st μ 38 0 0 1)) ∧ (1 ≠ 0 → Run fam0 none cd_X5_offer ER ET 99 0 [some (vR 38 0), some (vI l), some (vI s), some (vI n), some (vI f), some (vI 0), some (vI 0)] [] (st μ 38 0 0 1))
          refine ⟨fun c31 => absurd c31 (by decide), fun c31 => ?_⟩
          refine run_k 2 ?_
          show ER (some (vI 0)) (st μ 38 0 0 1)
          refine hER _ _ ⟨fun h => ?_, fun h => ?_, fun h => ?_, fun h => ?_⟩ <;> first | (exfalso; omega) | exact ⟨by rw [st_s], rfl⟩ | exact ⟨rfl, rfl⟩
        · replace c28 := (bi_n0.mp c28)
          refine run_k 6 ?_
          show (0 ≠ 0 → Run fam0 none cd_X5_offer ER ET 61 0 [some (vR 38 0), some (vI l), some (vI s), some (vI n), some (vI f), some (vI 0), some (vI 1)] [vR 38 0] μ) ∧ (0 = 0 → Run fam0 none cd_X5_offer ER ET 57 0 [some (vR 38 0), some (vI l), some (vI s), some (vI n), some (vI f), some (vI 0), some (vI 1)] [vR 38 0] μ)
          refine ⟨fun c33 => absurd c33 (by decide), fun c33 => ?_⟩
          refine run_k 3 ?_
          show ∃ σ : Mm, cl_X5_refused.2.2.1 σ [vR 38 0, vI 1] μ ∧ (∀ ov μ', cl_X5_refused.2.2.2.1 σ [vR 38 0, vI 1] μ ov μ' → Run fam0 none cd_X5_offer ER ET 96 0 [some (vR 38 0), some (vI l), some (vI s), some (vI n), some (vI f), some (vI 0), some (vI 1)] (ov.toList ++ []) μ') ∧ ∀ kx, cl_X5_refused.2.2.2.2 σ [vR 38 0, vI 1] μ kx → thr cd_X5_offer ET (Run fam0 none cd_X5_offer ER ET) 93 0 [some (vR 38 0), some (vI l), some (vI s), some (vI n), some (vI f), some (vI 0), some (vI 1)] μ kx
          refine ⟨μ, ⟨rfl, show True from True.intro⟩, fun ov μ' hq => ?_, fun k hk => hk.elim⟩
          obtain ⟨hov, hmu⟩ : ov = some (vI 1) ∧ μ' = st μ 38 0 0 1 := hq
          rw [hov, hmu]
          show Run fam0 none cd_X5_offer ER ET 96 0 [some (vR 38 0), some (vI l), some (vI s), some (vI n), some (vI f), some (vI 0), some (vI 1)] [vI 1] (st μ 38 0 0 1)
          refine run_k 1 ?_
          show (1 = 0 → Run fam0 none cd_X5_offer ER ET 101 0 [some (vR 38 0), some (vI l), some (vI s), some (vI n), some (vI f), some (vI 0), some (vI 1)] [] (st μ 38 0 0 1)) ∧ (1 ≠ 0 → Run fam0 none cd_X5_offer ER ET 99 0 [some (vR 38 0), some (vI l), some (vI s), some (vI n), some (vI f), some (vI 0), some (vI 1)] [] (st μ 38 0 0 1))
          refine ⟨fun c35 => absurd c35 (by decide), fun c35 => ?_⟩
          refine run_k 2 ?_
          show ER (some (vI 0)) (st μ 38 0 0 1)
          refine hER _ _ ⟨fun h => ?_, fun h => ?_, fun h => ?_, fun h => ?_⟩ <;> first | (exfalso; omega) | exact ⟨by rw [st_s], rfl⟩ | exact ⟨rfl, rfl⟩
    · replace c20 := (bi_n0.mp c20)
      refine run_k 7 ?_
      show ∃ σ : Mm, cl_X5_in.2.2.1 σ [vI n, vI 0, vI 500] μ ∧ (∀ ov μ', cl_X5_in.2.2.2.1 σ [vI n, vI 0, vI 500] μ ov μ' → Run fam0 none cd_X5_offer ER ET 29 0 [some (vR 38 0), some (vI l), some (vI s), some (vI n), some (vI f), some (vI 1), none] (ov.toList ++ []) μ') ∧ ∀ kx, cl_X5_in.2.2.2.2 σ [vI n, vI 0, vI 500] μ kx → thr cd_X5_offer ET (Run fam0 none cd_X5_offer ER ET) 26 0 [some (vR 38 0), some (vI l), some (vI s), some (vI n), some (vI f), some (vI 1), none] μ kx
      refine ⟨μ, ⟨rfl, show True from True.intro⟩, fun ov μ' hq => ?_, fun k hk => hk.elim⟩
      obtain ⟨hov, hmu⟩ : ov = some (vI (bi (0 ≤ n ∧ n ≤ 500))) ∧ μ' = μ := hq
      rw [hov, hmu]
      show Run fam0 none cd_X5_offer ER ET 29 0 [some (vR 38 0), some (vI l), some (vI s), some (vI n), some (vI f), some (vI 1), none] [vI (bi (0 ≤ n ∧ n ≤ 500))] μ
      refine run_k 1 ?_
      show ((bi (0 ≤ n ∧ n ≤ 500)) = 0 → Run fam0 none cd_X5_offer ER ET 48 0 [some (vR 38 0), some (vI l), some (vI s), some (vI n), some (vI f), some (vI 1), none] [] μ) ∧ ((bi (0 ≤ n ∧ n ≤ 500)) ≠ 0 → Run fam0 none cd_X5_offer ER ET 32 0 [some (vR 38 0), some (vI l), some (vI s), some (vI n), some (vI f), some (vI 1), none] [] μ)
      refine ⟨fun c38 => ?_, fun c38 => ?_⟩
      · replace c38 := (bi_e0.mp c38)
        refine run_k 5 ?_
        show (1 ≠ 0 → Run fam0 none cd_X5_offer ER ET 61 0 [some (vR 38 0), some (vI l), some (vI s), some (vI n), some (vI f), some (vI 1), some (vI 0)] [vR 38 0] μ) ∧ (1 = 0 → Run fam0 none cd_X5_offer ER ET 57 0 [some (vR 38 0), some (vI l), some (vI s), some (vI n), some (vI f), some (vI 1), some (vI 0)] [vR 38 0] μ)
        refine ⟨fun c39 => ?_, fun c39 => absurd c39 (by decide)⟩
        refine run_k 2 ?_
        show (0 ≠ 0 → Run fam0 none cd_X5_offer ER ET 70 0 [some (vR 38 0), some (vI l), some (vI s), some (vI n), some (vI f), some (vI 1), some (vI 0)] [vR 38 0] μ) ∧ (0 = 0 → Run fam0 none cd_X5_offer ER ET 66 0 [some (vR 38 0), some (vI l), some (vI s), some (vI n), some (vI f), some (vI 1), some (vI 0)] [vR 38 0] μ)
        refine ⟨fun c40 => absurd c40 (by decide), fun c40 => ?_⟩
        refine run_k 3 ?_
        show ∃ σ : Mm, cl_X5_refused.2.2.1 σ [vR 38 0, vI 2] μ ∧ (∀ ov μ', cl_X5_refused.2.2.2.1 σ [vR 38 0, vI 2] μ ov μ' → Run fam0 none cd_X5_offer ER ET 96 0 [some (vR 38 0), some (vI l), some (vI s), some (vI n), some (vI f), some (vI 1), some (vI 0)] (ov.toList ++ []) μ') ∧ ∀ kx, cl_X5_refused.2.2.2.2 σ [vR 38 0, vI 2] μ kx → thr cd_X5_offer ET (Run fam0 none cd_X5_offer ER ET) 93 0 [some (vR 38 0), some (vI l), some (vI s), some (vI n), some (vI f), some (vI 1), some (vI 0)] μ kx
        refine ⟨μ, ⟨rfl, show True from True.intro⟩, fun ov μ' hq => ?_, fun k hk => hk.elim⟩
        obtain ⟨hov, hmu⟩ : ov = some (vI 1) ∧ μ' = st μ 38 0 0 2 := hq
        rw [hov, hmu]
        show Run fam0 none cd_X5_offer ER ET 96 0 [some (vR 38 0), some (vI l), some (vI s), some (vI n), some (vI f), some (vI 1), some (vI 0)] [vI 1] (st μ 38 0 0 2)
        refine run_k 1 ?_
        show (1 = 0 → Run fam0 none cd_X5_offer ER ET 101 0 [some (vR 38 0), some (vI l), some (vI s), some (vI n), some (vI f), some (vI 1), some (vI 0)] [] (st μ 38 0 0 2)) ∧ (1 ≠ 0 → Run fam0 none cd_X5_offer ER ET 99 0 [some (vR 38 0), some (vI l), some (vI s), some (vI n), some (vI f), some (vI 1), some (vI 0)] [] (st μ 38 0 0 2))
        refine ⟨fun c42 => absurd c42 (by decide), fun c42 => ?_⟩
        refine run_k 2 ?_
        show ER (some (vI 0)) (st μ 38 0 0 2)
        refine hER _ _ ⟨fun h => ?_, fun h => ?_, fun h => ?_, fun h => ?_⟩ <;> first | (exfalso; omega) | exact ⟨by rw [st_s], rfl⟩ | exact ⟨rfl, rfl⟩
      · replace c38 := (bi_n0.mp c38)
        refine run_k 4 ?_
        show ∃ σ : Mm, cl_X5_in.2.2.1 σ [vI f, vI 0, vI 10000] μ ∧ (∀ ov μ', cl_X5_in.2.2.2.1 σ [vI f, vI 0, vI 10000] μ ov μ' → Run fam0 none cd_X5_offer ER ET 41 0 [some (vR 38 0), some (vI l), some (vI s), some (vI n), some (vI f), some (vI 1), none] (ov.toList ++ []) μ') ∧ ∀ kx, cl_X5_in.2.2.2.2 σ [vI f, vI 0, vI 10000] μ kx → thr cd_X5_offer ET (Run fam0 none cd_X5_offer ER ET) 38 0 [some (vR 38 0), some (vI l), some (vI s), some (vI n), some (vI f), some (vI 1), none] μ kx
        refine ⟨μ, ⟨rfl, show True from True.intro⟩, fun ov μ' hq => ?_, fun k hk => hk.elim⟩
        obtain ⟨hov, hmu⟩ : ov = some (vI (bi (0 ≤ f ∧ f ≤ 10000))) ∧ μ' = μ := hq
        rw [hov, hmu]
        show Run fam0 none cd_X5_offer ER ET 41 0 [some (vR 38 0), some (vI l), some (vI s), some (vI n), some (vI f), some (vI 1), none] [vI (bi (0 ≤ f ∧ f ≤ 10000))] μ
        refine run_k 1 ?_
        show ((bi (0 ≤ f ∧ f ≤ 10000)) = 0 → Run fam0 none cd_X5_offer ER ET 48 0 [some (vR 38 0), some (vI l), some (vI s), some (vI n), some (vI f), some (vI 1), none] [] μ) ∧ ((bi (0 ≤ f ∧ f ≤ 10000)) ≠ 0 → Run fam0 none cd_X5_offer ER ET 44 0 [some (vR 38 0), some (vI l), some (vI s), some (vI n), some (vI f), some (vI 1), none] [] μ)
        refine ⟨fun c45 => ?_, fun c45 => ?_⟩
        · replace c45 := (bi_e0.mp c45)
          refine run_k 5 ?_
          show (1 ≠ 0 → Run fam0 none cd_X5_offer ER ET 61 0 [some (vR 38 0), some (vI l), some (vI s), some (vI n), some (vI f), some (vI 1), some (vI 0)] [vR 38 0] μ) ∧ (1 = 0 → Run fam0 none cd_X5_offer ER ET 57 0 [some (vR 38 0), some (vI l), some (vI s), some (vI n), some (vI f), some (vI 1), some (vI 0)] [vR 38 0] μ)
          refine ⟨fun c46 => ?_, fun c46 => absurd c46 (by decide)⟩
          refine run_k 2 ?_
          show (0 ≠ 0 → Run fam0 none cd_X5_offer ER ET 70 0 [some (vR 38 0), some (vI l), some (vI s), some (vI n), some (vI f), some (vI 1), some (vI 0)] [vR 38 0] μ) ∧ (0 = 0 → Run fam0 none cd_X5_offer ER ET 66 0 [some (vR 38 0), some (vI l), some (vI s), some (vI n), some (vI f), some (vI 1), some (vI 0)] [vR 38 0] μ)
          refine ⟨fun c47 => absurd c47 (by decide), fun c47 => ?_⟩
          refine run_k 3 ?_
          show ∃ σ : Mm, cl_X5_refused.2.2.1 σ [vR 38 0, vI 2] μ ∧ (∀ ov μ', cl_X5_refused.2.2.2.1 σ [vR 38 0, vI 2] μ ov μ' → Run fam0 none cd_X5_offer ER ET 96 0 [some (vR 38 0), some (vI l), some (vI s), some (vI n), some (vI f), some (vI 1), some (vI 0)] (ov.toList ++ []) μ') ∧ ∀ kx, cl_X5_refused.2.2.2.2 σ [vR 38 0, vI 2] μ kx → thr cd_X5_offer ET (Run fam0 none cd_X5_offer ER ET) 93 0 [some (vR 38 0), some (vI l), some (vI s), some (vI n), some (vI f), some (vI 1), some (vI 0)] μ kx
          refine ⟨μ, ⟨rfl, show True from True.intro⟩, fun ov μ' hq => ?_, fun k hk => hk.elim⟩
          obtain ⟨hov, hmu⟩ : ov = some (vI 1) ∧ μ' = st μ 38 0 0 2 := hq
          rw [hov, hmu]
          show Run fam0 none cd_X5_offer ER ET 96 0 [some (vR 38 0), some (vI l), some (vI s), some (vI n), some (vI f), some (vI 1), some (vI 0)] [vI 1] (st μ 38 0 0 2)
          refine run_k 1 ?_
          show (1 = 0 → Run fam0 none cd_X5_offer ER ET 101 0 [some (vR 38 0), some (vI l), some (vI s), some (vI n), some (vI f), some (vI 1), some (vI 0)] [] (st μ 38 0 0 2)) ∧ (1 ≠ 0 → Run fam0 none cd_X5_offer ER ET 99 0 [some (vR 38 0), some (vI l), some (vI s), some (vI n), some (vI f), some (vI 1), some (vI 0)] [] (st μ 38 0 0 2))
          refine ⟨fun c49 => absurd c49 (by decide), fun c49 => ?_⟩
          refine run_k 2 ?_
          show ER (some (vI 0)) (st μ 38 0 0 2)
          refine hER _ _ ⟨fun h => ?_, fun h => ?_, fun h => ?_, fun h => ?_⟩ <;> first | (exfalso; omega) | exact ⟨by rw [st_s], rfl⟩ | exact ⟨rfl, rfl⟩
        · replace c45 := (bi_n0.mp c45)
          refine run_k 6 ?_
          show (1 ≠ 0 → Run fam0 none cd_X5_offer ER ET 61 0 [some (vR 38 0), some (vI l), some (vI s), some (vI n), some (vI f), some (vI 1), some (vI 1)] [vR 38 0] μ) ∧ (1 = 0 → Run fam0 none cd_X5_offer ER ET 57 0 [some (vR 38 0), some (vI l), some (vI s), some (vI n), some (vI f), some (vI 1), some (vI 1)] [vR 38 0] μ)
          refine ⟨fun c51 => ?_, fun c51 => absurd c51 (by decide)⟩
          refine run_k 2 ?_
          show (1 ≠ 0 → Run fam0 none cd_X5_offer ER ET 70 0 [some (vR 38 0), some (vI l), some (vI s), some (vI n), some (vI f), some (vI 1), some (vI 1)] [vR 38 0] μ) ∧ (1 = 0 → Run fam0 none cd_X5_offer ER ET 66 0 [some (vR 38 0), some (vI l), some (vI s), some (vI n), some (vI f), some (vI 1), some (vI 1)] [vR 38 0] μ)
          refine ⟨fun c52 => ?_, fun c52 => absurd c52 (by decide)⟩
          refine run_k 12 ?_
          show (0 ≤ (w32 ((w32 (4 * l)) + s)) ∧ (w32 ((w32 (4 * l)) + s)) < 16) ∧ (((w32 ((μ 45 0 (w32 ((w32 (4 * l)) + s))) + n)) ≤ 2000 → Run fam0 none cd_X5_offer ER ET 92 0 [some (vR 38 0), some (vI l), some (vI s), some (vI n), some (vI f), some (vI 1), some (vI 1)] [vR 38 0] μ) ∧ (2000 < (w32 ((μ 45 0 (w32 ((w32 (4 * l)) + s))) + n)) → Run fam0 none cd_X5_offer ER ET 88 0 [some (vR 38 0), some (vI l), some (vI s), some (vI n), some (vI f), some (vI 1), some (vI 1)] [vR 38 0] μ))
          rw [show w32 (4 * l) = 4 * l from w32_id (by simp only [in32]; omega)]
          rw [show w32 ((4 * l) + s) = (4 * l) + s from w32_id (by simp only [in32]; omega)]
          rw [show w32 ((μ 45 0 ((4 * l) + s)) + n) = (μ 45 0 ((4 * l) + s)) + n from w32_id (by simp only [in32]; omega)]
          refine ⟨by omega, ?_⟩
          refine ⟨fun c53 => ?_, fun c53 => ?_⟩
          · refine run_k 2 ?_
            show ∃ σ : Mm, cl_X5_refused.2.2.1 σ [vR 38 0, vI 0] μ ∧ (∀ ov μ', cl_X5_refused.2.2.2.1 σ [vR 38 0, vI 0] μ ov μ' → Run fam0 none cd_X5_offer ER ET 96 0 [some (vR 38 0), some (vI l), some (vI s), some (vI n), some (vI f), some (vI 1), some (vI 1)] (ov.toList ++ []) μ') ∧ ∀ kx, cl_X5_refused.2.2.2.2 σ [vR 38 0, vI 0] μ kx → thr cd_X5_offer ET (Run fam0 none cd_X5_offer ER ET) 93 0 [some (vR 38 0), some (vI l), some (vI s), some (vI n), some (vI f), some (vI 1), some (vI 1)] μ kx
            refine ⟨μ, ⟨rfl, show True from True.intro⟩, fun ov μ' hq => ?_, fun k hk => hk.elim⟩
            obtain ⟨hov, hmu⟩ : ov = some (vI 0) ∧ μ' = st μ 38 0 0 0 := hq
            rw [hov, hmu]
            show Run fam0 none cd_X5_offer ER ET 96 0 [some (vR 38 0), some (vI l), some (vI s), some (vI n), some (vI f), some (vI 1), some (vI 1)] [vI 0] (st μ 38 0 0 0)
            refine run_k 1 ?_
            show (0 = 0 → Run fam0 none cd_X5_offer ER ET 101 0 [some (vR 38 0), some (vI l), some (vI s), some (vI n), some (vI f), some (vI 1), some (vI 1)] [] (st μ 38 0 0 0)) ∧ (0 ≠ 0 → Run fam0 none cd_X5_offer ER ET 99 0 [some (vR 38 0), some (vI l), some (vI s), some (vI n), some (vI f), some (vI 1), some (vI 1)] [] (st μ 38 0 0 0))
            refine ⟨fun c55 => ?_, fun c55 => absurd c55 (by decide)⟩
            refine run_k 30 ?_
            show (0 ≤ (w32 ((w32 (4 * l)) + s)) ∧ (w32 ((w32 (4 * l)) + s)) < 16) ∧ ((0 ≤ (w32 ((w32 (4 * l)) + s)) ∧ (w32 ((w32 (4 * l)) + s)) < 16) ∧ ((0 ≤ (w32 ((w32 (4 * l)) + s)) ∧ (w32 ((w32 (4 * l)) + s)) < 16) ∧ ((0 ≤ (w32 ((w32 (4 * l)) + s)) ∧ (w32 ((w32 (4 * l)) + s)) < 16) ∧ (ER (some (vI ((st (st μ 38 0 0 0) 45 0 (w32 ((w32 (4 * l)) + s)) (w32 ((μ 45 0 (w32 ((w32 (4 * l)) + s))) + n))) 45 0 (w32 ((w32 (4 * l)) + s))))) (st (st (st μ 38 0 0 0) 45 0 (w32 ((w32 (4 * l)) + s)) (w32 ((μ 45 0 (w32 ((w32 (4 * l)) + s))) + n))) 46 0 (w32 ((w32 (4 * l)) + s)) f)))))
            rw [show w32 (4 * l) = 4 * l from w32_id (by simp only [in32]; omega)]
            rw [show w32 ((4 * l) + s) = (4 * l) + s from w32_id (by simp only [in32]; omega)]
            rw [show w32 ((μ 45 0 ((4 * l) + s)) + n) = (μ 45 0 ((4 * l) + s)) + n from w32_id (by simp only [in32]; omega)]
            refine ⟨by omega, ?_⟩
            refine ⟨by omega, ?_⟩
            refine ⟨by omega, ?_⟩
            refine ⟨by omega, ?_⟩
            refine hER _ _ ⟨fun h => ?_, fun h => ?_, fun h => ?_, fun h => ?_⟩ <;> first | (exfalso; omega) | exact ⟨by rw [st_s], rfl⟩ | exact ⟨rfl, rfl⟩
          · refine run_k 3 ?_
            show ∃ σ : Mm, cl_X5_refused.2.2.1 σ [vR 38 0, vI 3] μ ∧ (∀ ov μ', cl_X5_refused.2.2.2.1 σ [vR 38 0, vI 3] μ ov μ' → Run fam0 none cd_X5_offer ER ET 96 0 [some (vR 38 0), some (vI l), some (vI s), some (vI n), some (vI f), some (vI 1), some (vI 1)] (ov.toList ++ []) μ') ∧ ∀ kx, cl_X5_refused.2.2.2.2 σ [vR 38 0, vI 3] μ kx → thr cd_X5_offer ET (Run fam0 none cd_X5_offer ER ET) 93 0 [some (vR 38 0), some (vI l), some (vI s), some (vI n), some (vI f), some (vI 1), some (vI 1)] μ kx
            refine ⟨μ, ⟨rfl, show True from True.intro⟩, fun ov μ' hq => ?_, fun k hk => hk.elim⟩
            obtain ⟨hov, hmu⟩ : ov = some (vI 1) ∧ μ' = st μ 38 0 0 3 := hq
            rw [hov, hmu]
            show Run fam0 none cd_X5_offer ER ET 96 0 [some (vR 38 0), some (vI l), some (vI s), some (vI n), some (vI f), some (vI 1), some (vI 1)] [vI 1] (st μ 38 0 0 3)
            refine run_k 1 ?_
            show (1 = 0 → Run fam0 none cd_X5_offer ER ET 101 0 [some (vR 38 0), some (vI l), some (vI s), some (vI n), some (vI f), some (vI 1), some (vI 1)] [] (st μ 38 0 0 3)) ∧ (1 ≠ 0 → Run fam0 none cd_X5_offer ER ET 99 0 [some (vR 38 0), some (vI l), some (vI s), some (vI n), some (vI f), some (vI 1), some (vI 1)] [] (st μ 38 0 0 3))
            refine ⟨fun c58 => absurd c58 (by decide), fun c58 => ?_⟩
            refine run_k 2 ?_
            show ER (some (vI 0)) (st μ 38 0 0 3)
            refine hER _ _ ⟨fun h => ?_, fun h => ?_, fun h => ?_, fun h => ?_⟩ <;> first | (exfalso; omega) | exact ⟨by rw [st_s], rfl⟩ | exact ⟨rfl, rfl⟩
theorem vw_X5_150 : ∀ w ∈ ([.methodLink RX5 150 yX5_isLender, .static yX5_isLender, .initialized yX5_isLender.cls, .code yX5_isLender cX5_isLender 1 (some .boolean)] : List Cond), w ∈ wm := wm_ps _ [846, 847, 55, 848] (by decide +kernel)
set_option maxRecDepth 20000 in
theorem con_X5_offer (l : Launch) (htr : l.stackTraces = false) (σ : Mm) : CON fam0 63 l yX5_offer (Cond.code yX5_offer cX5_offer 7 (some .int) :: wm) 2 42 0 (cl_X5_offer.2.2.1 σ) (cl_X5_offer.2.2.2.1 σ) (cl_X5_offer.2.2.2.2 σ) :=
  con_of (cd := cd_X5_offer) (own := RX5) (rk := 1) (sc_of htr (by decide) k_X5_offer_ok (by decide +kernel) co_X5_ok fl_X5_ok (all_cons ⟨RX5, yX5_refused, cX5_refused, 2, (some .boolean), 0, 0, 1, con_X5_refused l htr, rfl, vw_X5_127, ⟨rfl, by decide, by decide, by decide +kernel⟩, ⟨by decide, by decide⟩, fun σ as μ h => ⟨38, 0, _, h.1, rfl, TX5, 31, rfl⟩⟩ all_nil) (all_cons ⟨yX5_isLender, cX5_isLender, 1, (some .boolean), 1, 22, con_X5_isLender l htr, vw_X5_150, ⟨by decide, by decide, by decide +kernel⟩, ⟨by decide, by decide⟩⟩ (all_cons ⟨yX5_isStock, cX5_isStock, 1, (some .boolean), 1, 22, con_X5_isStock l htr, vw_X5_122, ⟨by decide, by decide, by decide +kernel⟩, ⟨by decide, by decide⟩⟩ (all_cons ⟨yX5_in, cX5_in, 3, (some .boolean), 0, 0, con_X5_in l htr, vw_X5_85, ⟨by decide, by decide, by decide +kernel⟩, ⟨by decide, by decide⟩⟩ all_nil))) all_nil) rfl (by decide +kernel) rfl rfl rfl rfl (fun as μ hs => by rw [hs.1]; exact Nat.le_of_ble_eq_true rfl)
    (fun as μ hs hM hrg => by
      have hs1 := hs.1
      have hmem : ∀ v, v ∈ ([vR 38 0, vI (iaI as 1), vI (iaI as 2), vI (iaI as 3), vI (iaI as 4)] : List AV) → rg fam0 v := by rw [← hs1]; exact hrg
      have key := run_X5_offer (ER := cl_X5_offer.2.2.2.1 σ as μ) (ET := fun k μ' => cl_X5_offer.2.2.2.2 σ as μ k ∧ μ' = μ) σ μ (iaI as 1) (iaI as 2) (iaI as 3) (iaI as 4) hM (hmem (vI (iaI as 1)) (by simp)) (hmem (vI (iaI as 2)) (by simp)) (hmem (vI (iaI as 3)) (by simp)) (hmem (vI (iaI as 4)) (by simp)) hs.2 (fun ov μ' h => h)
      have e : entL as 7 = [some (vR 38 0), some (vI (iaI as 1)), some (vI (iaI as 2)), some (vI (iaI as 3)), some (vI (iaI as 4)), none, none] := by rw [hs1]; rfl
      rw [e]; exact key)
/-! ### PrimeborrowModel.recall -/
def cl_X5_recall : Cl := (5, 0, fun σ as μ => as = [vR 38 0, vI (iaI as 1), vI (iaI as 2), vI (iaI as 3), vI (iaI as 4)] ∧ (Wk μ ∧ Xk μ), fun σ as μ ov μ' => ((¬ ((0 ≤ (iaI as 1) ∧ (iaI as 1) ≤ 3) ∧ (0 ≤ (iaI as 2) ∧ (iaI as 2) ≤ 3))) → ov = some (vI 0) ∧ μ' = st μ 38 0 0 1) ∧ ((((0 ≤ (iaI as 1) ∧ (iaI as 1) ≤ 3) ∧ (0 ≤ (iaI as 2) ∧ (iaI as 2) ≤ 3)) ∧ ¬ ((1 ≤ (iaI as 3) ∧ (iaI as 3) ≤ 500) ∧ (1 ≤ (iaI as 4) ∧ (iaI as 4) ≤ 10))) → ov = some (vI 0) ∧ μ' = st μ 38 0 0 2) ∧ (((((0 ≤ (iaI as 1) ∧ (iaI as 1) ≤ 3) ∧ (0 ≤ (iaI as 2) ∧ (iaI as 2) ≤ 3)) ∧ ((1 ≤ (iaI as 3) ∧ (iaI as 3) ≤ 500) ∧ (1 ≤ (iaI as 4) ∧ (iaI as 4) ≤ 10))) ∧ μ 38 0 23 = 40) → ov = some (vI 0) ∧ μ' = st μ 38 0 0 3) ∧ (((((0 ≤ (iaI as 1) ∧ (iaI as 1) ≤ 3) ∧ (0 ≤ (iaI as 2) ∧ (iaI as 2) ≤ 3)) ∧ ((1 ≤ (iaI as 3) ∧ (iaI as 3) ≤ 500) ∧ (1 ≤ (iaI as 4) ∧ (iaI as 4) ≤ 10))) ∧ μ 38 0 23 ≠ 40) → ov = some (vI (μ 38 0 23)) ∧ μ' = st (st (st (st (st (st μ 38 0 0 0) 58 0 (μ 38 0 23) (iaI as 1)) 59 0 (μ 38 0 23) (iaI as 2)) 60 0 (μ 38 0 23) (iaI as 3)) 61 0 (μ 38 0 23) (μ 38 0 1 + (iaI as 4))) 38 0 23 (μ 38 0 23 + 1)), fun σ as μ k => False)
def cd_X5_recall : Cd := mkcd k_X5_recall co_X5 fl_X5 [(127, cl_X5_refused)] [(150, cl_X5_isLender), (122, cl_X5_isStock), (85, cl_X5_in)] [] [] 7 1 0
set_option maxHeartbeats 4000000 in
set_option maxRecDepth 20000 in
theorem run_X5_recall {ER : Option AV → Mm → Prop} {ET : Nat → Mm → Prop} (σ μ : Mm) (l s n f : Int) (hM : MR fam0 μ) (h_l : in32 l) (h_s : in32 s) (h_n : in32 n) (h_f : in32 f) (hP : Wk μ ∧ Xk μ) (hER : ∀ ov μ', (((¬ ((0 ≤ l ∧ l ≤ 3) ∧ (0 ≤ s ∧ s ≤ 3))) → ov = some (vI 0) ∧ μ' = st μ 38 0 0 1) ∧ ((((0 ≤ l ∧ l ≤ 3) ∧ (0 ≤ s ∧ s ≤ 3)) ∧ ¬ ((1 ≤ n ∧ n ≤ 500) ∧ (1 ≤ f ∧ f ≤ 10))) → ov = some (vI 0) ∧ μ' = st μ 38 0 0 2) ∧ (((((0 ≤ l ∧ l ≤ 3) ∧ (0 ≤ s ∧ s ≤ 3)) ∧ ((1 ≤ n ∧ n ≤ 500) ∧ (1 ≤ f ∧ f ≤ 10))) ∧ μ 38 0 23 = 40) → ov = some (vI 0) ∧ μ' = st μ 38 0 0 3) ∧ (((((0 ≤ l ∧ l ≤ 3) ∧ (0 ≤ s ∧ s ≤ 3)) ∧ ((1 ≤ n ∧ n ≤ 500) ∧ (1 ≤ f ∧ f ≤ 10))) ∧ μ 38 0 23 ≠ 40) → ov = some (vI (μ 38 0 23)) ∧ μ' = st (st (st (st (st (st μ 38 0 0 0) 58 0 (μ 38 0 23) l) 59 0 (μ 38 0 23) s) 60 0 (μ 38 0 23) n) 61 0 (μ 38 0 23) (μ 38 0 1 + f)) 38 0 23 (μ 38 0 23 + 1))) → ER ov μ') : Run fam0 none cd_X5_recall ER ET 0 0 [some (vR 38 0), some (vI l), some (vI s), some (vI n), some (vI f), none, none] [] μ := by
  obtain ⟨hW, hX⟩ := hP
  have hW0 : Wk (st μ 38 0 0 0) := Wk_st hW (by decide)
  have hLk := hW.1
  have hLk0 := hW0.1
  have hPk := hW.2.1
  have hPk0 := hW0.2.1
  have hGk := Gk_of hLk hW.2.2.2.2
  have hGk0 := Gk_of hLk0 hW0.2.2.2.2
  have hday := hX.1
  have hloc := hX.2.1.1
  have hrec := hX.2.2.1.1
  have hl0 := hLk.1
  refine run_k 2 ?_
  show ∃ σ : Mm, cl_X5_isLender.2.2.1 σ [vI l] μ ∧ (∀ ov μ', cl_X5_isLender.2.2.2.1 σ [vI l] μ ov μ' → Run fam0 none cd_X5_recall ER ET 4 0 [some (vR 38 0), some (vI l), some (vI s), some (vI n), some (vI f), none, none] (ov.toList ++ []) μ') ∧ ∀ kx, cl_X5_isLender.2.2.2.2 σ [vI l] μ kx → thr cd_X5_recall ET (Run fam0 none cd_X5_recall ER ET) 1 0 [some (vR 38 0), some (vI l), some (vI s), some (vI n), some (vI f), none, none] μ kx
  refine ⟨μ, ⟨rfl, show True from True.intro⟩, fun ov μ' hq => ?_, fun k hk => hk.elim⟩
  obtain ⟨hov, hmu⟩ : ov = some (vI (bi (0 ≤ l ∧ l ≤ 3))) ∧ μ' = μ := hq
  rw [hov, hmu]
  show Run fam0 none cd_X5_recall ER ET 4 0 [some (vR 38 0), some (vI l), some (vI s), some (vI n), some (vI f), none, none] [vI (bi (0 ≤ l ∧ l ≤ 3))] μ
  refine run_k 1 ?_
  show ((bi (0 ≤ l ∧ l ≤ 3)) = 0 → Run fam0 none cd_X5_recall ER ET 18 0 [some (vR 38 0), some (vI l), some (vI s), some (vI n), some (vI f), none, none] [] μ) ∧ ((bi (0 ≤ l ∧ l ≤ 3)) ≠ 0 → Run fam0 none cd_X5_recall ER ET 7 0 [some (vR 38 0), some (vI l), some (vI s), some (vI n), some (vI f), none, none] [] μ)
  refine ⟨fun c2 => ?_, fun c2 => ?_⟩
  · replace c2 := (bi_e0.mp c2)
    refine run_k 6 ?_
    show ∃ σ : Mm, cl_X5_in.2.2.1 σ [vI n, vI 1, vI 500] μ ∧ (∀ ov μ', cl_X5_in.2.2.2.1 σ [vI n, vI 1, vI 500] μ ov μ' → Run fam0 none cd_X5_recall ER ET 29 0 [some (vR 38 0), some (vI l), some (vI s), some (vI n), some (vI f), some (vI 0), none] (ov.toList ++ []) μ') ∧ ∀ kx, cl_X5_in.2.2.2.2 σ [vI n, vI 1, vI 500] μ kx → thr cd_X5_recall ET (Run fam0 none cd_X5_recall ER ET) 26 0 [some (vR 38 0), some (vI l), some (vI s), some (vI n), some (vI f), some (vI 0), none] μ kx
    refine ⟨μ, ⟨rfl, show True from True.intro⟩, fun ov μ' hq => ?_, fun k hk => hk.elim⟩
    obtain ⟨hov, hmu⟩ : ov = some (vI (bi (1 ≤ n ∧ n ≤ 500))) ∧ μ' = μ := hq
    rw [hov, hmu]
    show Run fam0 none cd_X5_recall ER ET 29 0 [some (vR 38 0), some (vI l), some (vI s), some (vI n), some (vI f), some (vI 0), none] [vI (bi (1 ≤ n ∧ n ≤ 500))] μ
    refine run_k 1 ?_
    show ((bi (1 ≤ n ∧ n ≤ 500)) = 0 → Run fam0 none cd_X5_recall ER ET 47 0 [some (vR 38 0), some (vI l), some (vI s), some (vI n), some (vI f), some (vI 0), none] [] μ) ∧ ((bi (1 ≤ n ∧ n ≤ 500)) ≠ 0 → Run fam0 none cd_X5_recall ER ET 32 0 [some (vR 38 0), some (vI l), some (vI s), some (vI n), some (vI f), some (vI 0), none] [] μ)
    refine ⟨fun c4 => ?_, fun c4 => ?_⟩
    · replace c4 := (bi_e0.mp c4)
      refine run_k 5 ?_
      show (0 ≠ 0 → Run fam0 none cd_X5_recall ER ET 60 0 [some (vR 38 0), some (vI l), some (vI s), some (vI n), some (vI f), some (vI 0), some (vI 0)] [vR 38 0] μ) ∧ (0 = 0 → Run fam0 none cd_X5_recall ER ET 56 0 [some (vR 38 0), some (vI l), some (vI s), some (vI n), some (vI f), some (vI 0), some (vI 0)] [vR 38 0] μ)
      refine ⟨fun c5 => absurd c5 (by decide), fun c5 => ?_⟩
      refine run_k 3 ?_
      show ∃ σ : Mm, cl_X5_refused.2.2.1 σ [vR 38 0, vI 1] μ ∧ (∀ ov μ', cl_X5_refused.2.2.2.1 σ [vR 38 0, vI 1] μ ov μ' → Run fam0 none cd_X5_recall ER ET 86 0 [some (vR 38 0), some (vI l), some (vI s), some (vI n), some (vI f), some (vI 0), some (vI 0)] (ov.toList ++ []) μ') ∧ ∀ kx, cl_X5_refused.2.2.2.2 σ [vR 38 0, vI 1] μ kx → thr cd_X5_recall ET (Run fam0 none cd_X5_recall ER ET) 83 0 [some (vR 38 0), some (vI l), some (vI s), some (vI n), some (vI f), some (vI 0), some (vI 0)] μ kx
      refine ⟨μ, ⟨rfl, show True from True.intro⟩, fun ov μ' hq => ?_, fun k hk => hk.elim⟩
      obtain ⟨hov, hmu⟩ : ov = some (vI 1) ∧ μ' = st μ 38 0 0 1 := hq
      rw [hov, hmu]
      show Run fam0 none cd_X5_recall ER ET 86 0 [some (vR 38 0), some (vI l), some (vI s), some (vI n), some (vI f), some (vI 0), some (vI 0)] [vI 1] (st μ 38 0 0 1)
      refine run_k 1 ?_
      show (1 = 0 → Run fam0 none cd_X5_recall ER ET 91 0 [some (vR 38 0), some (vI l), some (vI s), some (vI n), some (vI f), some (vI 0), some (vI 0)] [] (st μ 38 0 0 1)) ∧ (1 ≠ 0 → Run fam0 none cd_X5_recall ER ET 89 0 [some (vR 38 0), some (vI l), some (vI s), some (vI n), some (vI f), some (vI 0), some (vI 0)] [] (st μ 38 0 0 1))
      refine ⟨fun c7 => absurd c7 (by decide), fun c7 => ?_⟩
      refine run_k 2 ?_
      show ER (some (vI 0)) (st μ 38 0 0 1)
      refine hER _ _ ⟨fun h => ?_, fun h => ?_, fun h => ?_, fun h => ?_⟩ <;> first | (exfalso; omega) | exact ⟨congrArg (fun z => some (vI z)) (by omega), rfl⟩ | exact ⟨rfl, rfl⟩
    · replace c4 := (bi_n0.mp c4)
      refine run_k 4 ?_
      show ∃ σ : Mm, cl_X5_in.2.2.1 σ [vI f, vI 1, vI 10] μ ∧ (∀ ov μ', cl_X5_in.2.2.2.1 σ [vI f, vI 1, vI 10] μ ov μ' → Run fam0 none cd_X5_recall ER ET 40 0 [some (vR 38 0), some (vI l), some (vI s), some (vI n), some (vI f), some (vI 0), none] (ov.toList ++ []) μ') ∧ ∀ kx, cl_X5_in.2.2.2.2 σ [vI f, vI 1, vI 10] μ kx → thr cd_X5_recall ET (Run fam0 none cd_X5_recall ER ET) 37 0 [some (vR 38 0), some (vI l), some (vI s), some (vI n), some (vI f), some (vI 0), none] μ kx
      refine ⟨μ, ⟨rfl, show True from True.intro⟩, fun ov μ' hq => ?_, fun k hk => hk.elim⟩
      obtain ⟨hov, hmu⟩ : ov = some (vI (bi (1 ≤ f ∧ f ≤ 10))) ∧ μ' = μ := hq
      rw [hov, hmu]
      show Run fam0 none cd_X5_recall ER ET 40 0 [some (vR 38 0), some (vI l), some (vI s), some (vI n), some (vI f), some (vI 0), none] [vI (bi (1 ≤ f ∧ f ≤ 10))] μ
      refine run_k 1 ?_
      show ((bi (1 ≤ f ∧ f ≤ 10)) = 0 → Run fam0 none cd_X5_recall ER ET 47 0 [some (vR 38 0), some (vI l), some (vI s), some (vI n), some (vI f), some (vI 0), none] [] μ) ∧ ((bi (1 ≤ f ∧ f ≤ 10)) ≠ 0 → Run fam0 none cd_X5_recall ER ET 43 0 [some (vR 38 0), some (vI l), some (vI s), some (vI n), some (vI f), some (vI 0), none] [] μ)
      refine ⟨fun c10 => ?_, fun c10 => ?_⟩
      · replace c10 := (bi_e0.mp c10)
        refine run_k 5 ?_
        show (0 ≠ 0 → Run fam0 none cd_X5_recall ER ET 60 0 [some (vR 38 0), some (vI l), some (vI s), some (vI n), some (vI f), some (vI 0), some (vI 0)] [vR 38 0] μ) ∧ (0 = 0 → Run fam0 none cd_X5_recall ER ET 56 0 [some (vR 38 0), some (vI l), some (vI s), some (vI n), some (vI f), some (vI 0), some (vI 0)] [vR 38 0] μ)
        refine ⟨fun c11 => absurd c11 (by decide), fun c11 => ?_⟩
        refine run_k 3 ?_
        show ∃ σ : Mm, cl_X5_refused.2.2.1 σ [vR 38 0, vI 1] μ ∧ (∀ ov μ', cl_X5_refused.2.2.2.1 σ [vR 38 0, vI 1] μ ov μ' → Run fam0 none cd_X5_recall ER ET 86 0 [some (vR 38 0), some (vI l), some (vI s), some (vI n), some (vI f), some (vI 0), some (vI 0)] (ov.toList ++ []) μ') ∧ ∀ kx, cl_X5_refused.2.2.2.2 σ [vR 38 0, vI 1] μ kx → thr cd_X5_recall ET (Run fam0 none cd_X5_recall ER ET) 83 0 [some (vR 38 0), some (vI l), some (vI s), some (vI n), some (vI f), some (vI 0), some (vI 0)] μ kx
        refine ⟨μ, ⟨rfl, show True from True.intro⟩, fun ov μ' hq => ?_, fun k hk => hk.elim⟩
        obtain ⟨hov, hmu⟩ : ov = some (vI 1) ∧ μ' = st μ 38 0 0 1 := hq
        rw [hov, hmu]
        show Run fam0 none cd_X5_recall ER ET 86 0 [some (vR 38 0), some (vI l), some (vI s), some (vI n), some (vI f), some (vI 0), some (vI 0)] [vI 1] (st μ 38 0 0 1)
        refine run_k 1 ?_
        show (1 = 0 → Run fam0 none cd_X5_recall ER ET 91 0 [some (vR 38 0), some (vI l), some (vI s), some (vI n), some (vI f), some (vI 0), some (vI 0)] [] (st μ 38 0 0 1)) ∧ (1 ≠ 0 → Run fam0 none cd_X5_recall ER ET 89 0 [some (vR 38 0), some (vI l), some (vI s), some (vI n), some (vI f), some (vI 0), some (vI 0)] [] (st μ 38 0 0 1))
        refine ⟨fun c13 => absurd c13 (by decide), fun c13 => ?_⟩
        refine run_k 2 ?_
        show ER (some (vI 0)) (st μ 38 0 0 1)
        refine hER _ _ ⟨fun h => ?_, fun h => ?_, fun h => ?_, fun h => ?_⟩ <;> first | (exfalso; omega) | exact ⟨congrArg (fun z => some (vI z)) (by omega), rfl⟩ | exact ⟨rfl, rfl⟩
      · replace c10 := (bi_n0.mp c10)
        refine run_k 6 ?_
        show (0 ≠ 0 → Run fam0 none cd_X5_recall ER ET 60 0 [some (vR 38 0), some (vI l), some (vI s), some (vI n), some (vI f), some (vI 0), some (vI 1)] [vR 38 0] μ) ∧ (0 = 0 → Run fam0 none cd_X5_recall ER ET 56 0 [some (vR 38 0), some (vI l), some (vI s), some (vI n), some (vI f), some (vI 0), some (vI 1)] [vR 38 0] μ)
        refine ⟨fun c15 => absurd c15 (by decide), fun c15 => ?_⟩
        refine run_k 3 ?_
        show ∃ σ : Mm, cl_X5_refused.2.2.1 σ [vR 38 0, vI 1] μ ∧ (∀ ov μ', cl_X5_refused.2.2.2.1 σ [vR 38 0, vI 1] μ ov μ' → Run fam0 none cd_X5_recall ER ET 86 0 [some (vR 38 0), some (vI l), some (vI s), some (vI n), some (vI f), some (vI 0), some (vI 1)] (ov.toList ++ []) μ') ∧ ∀ kx, cl_X5_refused.2.2.2.2 σ [vR 38 0, vI 1] μ kx → thr cd_X5_recall ET (Run fam0 none cd_X5_recall ER ET) 83 0 [some (vR 38 0), some (vI l), some (vI s), some (vI n), some (vI f), some (vI 0), some (vI 1)] μ kx
        refine ⟨μ, ⟨rfl, show True from True.intro⟩, fun ov μ' hq => ?_, fun k hk => hk.elim⟩
        obtain ⟨hov, hmu⟩ : ov = some (vI 1) ∧ μ' = st μ 38 0 0 1 := hq
        rw [hov, hmu]
        show Run fam0 none cd_X5_recall ER ET 86 0 [some (vR 38 0), some (vI l), some (vI s), some (vI n), some (vI f), some (vI 0), some (vI 1)] [vI 1] (st μ 38 0 0 1)
        refine run_k 1 ?_
        show (1 = 0 → Run fam0 none cd_X5_recall ER ET 91 0 [some (vR 38 0), some (vI l), some (vI s), some (vI n), some (vI f), some (vI 0), some (vI 1)] [] (st μ 38 0 0 1)) ∧ (1 ≠ 0 → Run fam0 none cd_X5_recall ER ET 89 0 [some (vR 38 0), some (vI l), some (vI s), some (vI n), some (vI f), some (vI 0), some (vI 1)] [] (st μ 38 0 0 1))
        refine ⟨fun c17 => absurd c17 (by decide), fun c17 => ?_⟩
        refine run_k 2 ?_
        show ER (some (vI 0)) (st μ 38 0 0 1)
        refine hER _ _ ⟨fun h => ?_, fun h => ?_, fun h => ?_, fun h => ?_⟩ <;> first | (exfalso; omega) | exact ⟨congrArg (fun z => some (vI z)) (by omega), rfl⟩ | exact ⟨rfl, rfl⟩
  · replace c2 := (bi_n0.mp c2)
    refine run_k 2 ?_
    show ∃ σ : Mm, cl_X5_isStock.2.2.1 σ [vI s] μ ∧ (∀ ov μ', cl_X5_isStock.2.2.2.1 σ [vI s] μ ov μ' → Run fam0 none cd_X5_recall ER ET 11 0 [some (vR 38 0), some (vI l), some (vI s), some (vI n), some (vI f), none, none] (ov.toList ++ []) μ') ∧ ∀ kx, cl_X5_isStock.2.2.2.2 σ [vI s] μ kx → thr cd_X5_recall ET (Run fam0 none cd_X5_recall ER ET) 8 0 [some (vR 38 0), some (vI l), some (vI s), some (vI n), some (vI f), none, none] μ kx
    refine ⟨μ, ⟨rfl, show True from True.intro⟩, fun ov μ' hq => ?_, fun k hk => hk.elim⟩
    obtain ⟨hov, hmu⟩ : ov = some (vI (bi (0 ≤ s ∧ s ≤ 3))) ∧ μ' = μ := hq
    rw [hov, hmu]
    show Run fam0 none cd_X5_recall ER ET 11 0 [some (vR 38 0), some (vI l), some (vI s), some (vI n), some (vI f), none, none] [vI (bi (0 ≤ s ∧ s ≤ 3))] μ
    refine run_k 1 ?_
    show ((bi (0 ≤ s ∧ s ≤ 3)) = 0 → Run fam0 none cd_X5_recall ER ET 18 0 [some (vR 38 0), some (vI l), some (vI s), some (vI n), some (vI f), none, none] [] μ) ∧ ((bi (0 ≤ s ∧ s ≤ 3)) ≠ 0 → Run fam0 none cd_X5_recall ER ET 14 0 [some (vR 38 0), some (vI l), some (vI s), some (vI n), some (vI f), none, none] [] μ)
    refine ⟨fun c20 => ?_, fun c20 => ?_⟩
    · replace c20 := (bi_e0.mp c20)
      refine run_k 6 ?_
      show ∃ σ : Mm, cl_X5_in.2.2.1 σ [vI n, vI 1, vI 500] μ ∧ (∀ ov μ', cl_X5_in.2.2.2.1 σ [vI n, vI 1, vI 500] μ ov μ' → Run fam0 none cd_X5_recall ER ET 29 0 [some (vR 38 0), some (vI l), some (vI s), some (vI n), some (vI f), some (vI 0), none] (ov.toList ++ []) μ') ∧ ∀ kx, cl_X5_in.2.2.2.2 σ [vI n, vI 1, vI 500] μ kx → thr cd_X5_recall ET (Run fam0 none cd_X5_recall ER ET) 26 0 [some (vR 38 0), some (vI l), some (vI s), some (vI n), some (vI f), some (vI 0), none] μ kx
      refine ⟨μ, ⟨rfl, show True from True.intro⟩, fun ov μ' hq => ?_, fun k hk => hk.elim⟩
      obtain ⟨hov, hmu⟩ : ov = some (vI (bi (1 ≤ n ∧ n ≤ 500))) ∧ μ' = μ := hq
      rw [hov, hmu]
      show Run fam0 none cd_X5_recall ER ET 29 0 [some (vR 38 0), some (vI l), some (vI s), some (vI n), some (vI f), some (vI 0), none] [vI (bi (1 ≤ n ∧ n ≤ 500))] μ
      refine run_k 1 ?_
      show ((bi (1 ≤ n ∧ n ≤ 500)) = 0 → Run fam0 none cd_X5_recall ER ET 47 0 [some (vR 38 0), some (vI l), some (vI s), some (vI n), some (vI f), some (vI 0), none] [] μ) ∧ ((bi (1 ≤ n ∧ n ≤ 500)) ≠ 0 → Run fam0 none cd_X5_recall ER ET 32 0 [some (vR 38 0), some (vI l), some (vI s), some (vI n), some (vI f), some (vI 0), none] [] μ)
      refine ⟨fun c22 => ?_, fun c22 => ?_⟩
      · replace c22 := (bi_e0.mp c22)
        refine run_k 5 ?_
        show (0 ≠ 0 → Run fam0 none cd_X5_recall ER ET 60 0 [some (vR 38 0), some (vI l), some (vI s), some (vI n), some (vI f), some (vI 0), some (vI 0)] [vR 38 0] μ) ∧ (0 = 0 → Run fam0 none cd_X5_recall ER ET 56 0 [some (vR 38 0), some (vI l), some (vI s), some (vI n), some (vI f), some (vI 0), some (vI 0)] [vR 38 0] μ)
        refine ⟨fun c23 => absurd c23 (by decide), fun c23 => ?_⟩
        refine run_k 3 ?_
        show ∃ σ : Mm, cl_X5_refused.2.2.1 σ [vR 38 0, vI 1] μ ∧ (∀ ov μ', cl_X5_refused.2.2.2.1 σ [vR 38 0, vI 1] μ ov μ' → Run fam0 none cd_X5_recall ER ET 86 0 [some (vR 38 0), some (vI l), some (vI s), some (vI n), some (vI f), some (vI 0), some (vI 0)] (ov.toList ++ []) μ') ∧ ∀ kx, cl_X5_refused.2.2.2.2 σ [vR 38 0, vI 1] μ kx → thr cd_X5_recall ET (Run fam0 none cd_X5_recall ER ET) 83 0 [some (vR 38 0), some (vI l), some (vI s), some (vI n), some (vI f), some (vI 0), some (vI 0)] μ kx
        refine ⟨μ, ⟨rfl, show True from True.intro⟩, fun ov μ' hq => ?_, fun k hk => hk.elim⟩
        obtain ⟨hov, hmu⟩ : ov = some (vI 1) ∧ μ' = st μ 38 0 0 1 := hq
        rw [hov, hmu]
        show Run fam0 none cd_X5_recall ER ET 86 0 [some (vR 38 0), some (vI l), some (vI s), some (vI n), some (vI f), some (vI 0), some (vI 0)] [vI 1] (st μ 38 0 0 1)
        refine run_k 1 ?_
        show (1 = 0 → Run fam0 none cd_X5_recall ER ET 91 0 [some (vR 38 0), some (vI l), some (vI s), some (vI n), some (vI f), some (vI 0), some (vI 0)] [] (st μ 38 0 0 1)) ∧ (1 ≠ 0 → Run fam0 none cd_X5_recall ER ET 89 0 [some (vR 38 0), some (vI l), some (vI s), some (vI n), some (vI f), some (vI 0), some (vI 0)] [] (st μ 38 0 0 1))
        refine ⟨fun c25 => absurd c25 (by decide), fun c25 => ?_⟩
        refine run_k 2 ?_
        show ER (some (vI 0)) (st μ 38 0 0 1)
        refine hER _ _ ⟨fun h => ?_, fun h => ?_, fun h => ?_, fun h => ?_⟩ <;> first | (exfalso; omega) | exact ⟨congrArg (fun z => some (vI z)) (by omega), rfl⟩ | exact ⟨rfl, rfl⟩
      · replace c22 := (bi_n0.mp c22)
        refine run_k 4 ?_
        show ∃ σ : Mm, cl_X5_in.2.2.1 σ [vI f, vI 1, vI 10] μ ∧ (∀ ov μ', cl_X5_in.2.2.2.1 σ [vI f, vI 1, vI 10] μ ov μ' → Run fam0 none cd_X5_recall ER ET 40 0 [some (vR 38 0), some (vI l), some (vI s), some (vI n), some (vI f), some (vI 0), none] (ov.toList ++ []) μ') ∧ ∀ kx, cl_X5_in.2.2.2.2 σ [vI f, vI 1, vI 10] μ kx → thr cd_X5_recall ET (Run fam0 none cd_X5_recall ER ET) 37 0 [some (vR 38 0), some (vI l), some (vI s), some (vI n), some (vI f), some (vI 0), none] μ kx
        refine ⟨μ, ⟨rfl, show True from True.intro⟩, fun ov μ' hq => ?_, fun k hk => hk.elim⟩
        obtain ⟨hov, hmu⟩ : ov = some (vI (bi (1 ≤ f ∧ f ≤ 10))) ∧ μ' = μ := hq
        rw [hov, hmu]
        show Run fam0 none cd_X5_recall ER ET 40 0 [some (vR 38 0), some (vI l), some (vI s), some (vI n), some (vI f), some (vI 0), none] [vI (bi (1 ≤ f ∧ f ≤ 10))] μ
        refine run_k 1 ?_
        show ((bi (1 ≤ f ∧ f ≤ 10)) = 0 → Run fam0 none cd_X5_recall ER ET 47 0 [some (vR 38 0), some (vI l), some (vI s), some (vI n), some (vI f), some (vI 0), none] [] μ) ∧ ((bi (1 ≤ f ∧ f ≤ 10)) ≠ 0 → Run fam0 none cd_X5_recall ER ET 43 0 [some (vR 38 0), some (vI l), some (vI s), some (vI n), some (vI f), some (vI 0), none] [] μ)
        refine ⟨fun c28 => ?_, fun c28 => ?_⟩
        · replace c28 := (bi_e0.mp c28)
          refine run_k 5 ?_
          show (0 ≠ 0 → Run fam0 none cd_X5_recall ER ET 60 0 [some (vR 38 0), some (vI l), some (vI s), some (vI n), some (vI f), some (vI 0), some (vI 0)] [vR 38 0] μ) ∧ (0 = 0 → Run fam0 none cd_X5_recall ER ET 56 0 [some (vR 38 0), some (vI l), some (vI s), some (vI n), some (vI f), some (vI 0), some (vI 0)] [vR 38 0] μ)
          refine ⟨fun c29 => absurd c29 (by decide), fun c29 => ?_⟩
          refine run_k 3 ?_
          show ∃ σ : Mm, cl_X5_refused.2.2.1 σ [vR 38 0, vI 1] μ ∧ (∀ ov μ', cl_X5_refused.2.2.2.1 σ [vR 38 0, vI 1] μ ov μ' → Run fam0 none cd_X5_recall ER ET 86 0 [some (vR 38 0), some (vI l), some (vI s), some (vI n), some (vI f), some (vI 0), some (vI 0)] (ov.toList ++ []) μ') ∧ ∀ kx, cl_X5_refused.2.2.2.2 σ [vR 38 0, vI 1] μ kx → thr cd_X5_recall ET (Run fam0 none cd_X5_recall ER ET) 83 0 [some (vR 38 0), some (vI l), some (vI s), some (vI n), some (vI f), some (vI 0), some (vI 0)] μ kx
          refine ⟨μ, ⟨rfl, show True from True.intro⟩, fun ov μ' hq => ?_, fun k hk => hk.elim⟩
          obtain ⟨hov, hmu⟩ : ov = some (vI 1) ∧ μ' = st μ 38 0 0 1 := hq
          rw [hov, hmu]
          show Run fam0 none cd_X5_recall ER ET 86 0 [some (vR 38 0), some (vI l), some (vI s), some (vI n), some (vI f), some (vI 0), some (vI 0)] [vI 1] (st μ 38 0 0 1)
          refine run_k 1 ?_
          show (1 = 0 → Run fam0 none cd_X5_recall ER ET 91 0 [some (vR 38 0), some (vI l), some (vI s), some (vI n), some (vI f), some (vI 0), some (vI 0)] [] (st μ 38 0 0 1)) ∧ (1 ≠ 0 → Run fam0 none cd_X5_recall ER ET 89 0 [some (vR 38 0), some (vI l), some (vI s), some (vI n), some (vI f), some (vI 0), some (vI 0)] [] (st μ 38 0 0 1))
          refine ⟨fun c31 => absurd c31 (by decide), fun c31 => ?_⟩
          refine run_k 2 ?_
          show ER (some (vI 0)) (st μ 38 0 0 1)
          refine hER _ _ ⟨fun h => ?_, fun h => ?_, fun h => ?_, fun h => ?_⟩ <;> first | (exfalso; omega) | exact ⟨congrArg (fun z => some (vI z)) (by omega), rfl⟩ | exact ⟨rfl, rfl⟩
        · replace c28 := (bi_n0.mp c28)
          refine run_k 6 ?_
          show (0 ≠ 0 → Run fam0 none cd_X5_recall ER ET 60 0 [some (vR 38 0), some (vI l), some (vI s), some (vI n), some (vI f), some (vI 0), some (vI 1)] [vR 38 0] μ) ∧ (0 = 0 → Run fam0 none cd_X5_recall ER ET 56 0 [some (vR 38 0), some (vI l), some (vI s), some (vI n), some (vI f), some (vI 0), some (vI 1)] [vR 38 0] μ)
          refine ⟨fun c33 => absurd c33 (by decide), fun c33 => ?_⟩
          refine run_k 3 ?_
          show ∃ σ : Mm, cl_X5_refused.2.2.1 σ [vR 38 0, vI 1] μ ∧ (∀ ov μ', cl_X5_refused.2.2.2.1 σ [vR 38 0, vI 1] μ ov μ' → Run fam0 none cd_X5_recall ER ET 86 0 [some (vR 38 0), some (vI l), some (vI s), some (vI n), some (vI f), some (vI 0), some (vI 1)] (ov.toList ++ []) μ') ∧ ∀ kx, cl_X5_refused.2.2.2.2 σ [vR 38 0, vI 1] μ kx → thr cd_X5_recall ET (Run fam0 none cd_X5_recall ER ET) 83 0 [some (vR 38 0), some (vI l), some (vI s), some (vI n), some (vI f), some (vI 0), some (vI 1)] μ kx
          refine ⟨μ, ⟨rfl, show True from True.intro⟩, fun ov μ' hq => ?_, fun k hk => hk.elim⟩
          obtain ⟨hov, hmu⟩ : ov = some (vI 1) ∧ μ' = st μ 38 0 0 1 := hq
          rw [hov, hmu]
          show Run fam0 none cd_X5_recall ER ET 86 0 [some (vR 38 0), some (vI l), some (vI s), some (vI n), some (vI f), some (vI 0), some (vI 1)] [vI 1] (st μ 38 0 0 1)
          refine run_k 1 ?_
          show (1 = 0 → Run fam0 none cd_X5_recall ER ET 91 0 [some (vR 38 0), some (vI l), some (vI s), some (vI n), some (vI f), some (vI 0), some (vI 1)] [] (st μ 38 0 0 1)) ∧ (1 ≠ 0 → Run fam0 none cd_X5_recall ER ET 89 0 [some (vR 38 0), some (vI l), some (vI s), some (vI n), some (vI f), some (vI 0), some (vI 1)] [] (st μ 38 0 0 1))
          refine ⟨fun c35 => absurd c35 (by decide), fun c35 => ?_⟩
          refine run_k 2 ?_
          show ER (some (vI 0)) (st μ 38 0 0 1)
          refine hER _ _ ⟨fun h => ?_, fun h => ?_, fun h => ?_, fun h => ?_⟩ <;> first | (exfalso; omega) | exact ⟨congrArg (fun z => some (vI z)) (by omega), rfl⟩ | exact ⟨rfl, rfl⟩
    · replace c20 := (bi_n0.mp c20)
      refine run_k 7 ?_
      show ∃ σ : Mm, cl_X5_in.2.2.1 σ [vI n, vI 1, vI 500] μ ∧ (∀ ov μ', cl_X5_in.2.2.2.1 σ [vI n, vI 1, vI 500] μ ov μ' → Run fam0 none cd_X5_recall ER ET 29 0 [some (vR 38 0), some (vI l), some (vI s), some (vI n), some (vI f), some (vI 1), none] (ov.toList ++ []) μ') ∧ ∀ kx, cl_X5_in.2.2.2.2 σ [vI n, vI 1, vI 500] μ kx → thr cd_X5_recall ET (Run fam0 none cd_X5_recall ER ET) 26 0 [some (vR 38 0), some (vI l), some (vI s), some (vI n), some (vI f), some (vI 1), none] μ kx
      refine ⟨μ, ⟨rfl, show True from True.intro⟩, fun ov μ' hq => ?_, fun k hk => hk.elim⟩
      obtain ⟨hov, hmu⟩ : ov = some (vI (bi (1 ≤ n ∧ n ≤ 500))) ∧ μ' = μ := hq
      rw [hov, hmu]
      show Run fam0 none cd_X5_recall ER ET 29 0 [some (vR 38 0), some (vI l), some (vI s), some (vI n), some (vI f), some (vI 1), none] [vI (bi (1 ≤ n ∧ n ≤ 500))] μ
      refine run_k 1 ?_
      show ((bi (1 ≤ n ∧ n ≤ 500)) = 0 → Run fam0 none cd_X5_recall ER ET 47 0 [some (vR 38 0), some (vI l), some (vI s), some (vI n), some (vI f), some (vI 1), none] [] μ) ∧ ((bi (1 ≤ n ∧ n ≤ 500)) ≠ 0 → Run fam0 none cd_X5_recall ER ET 32 0 [some (vR 38 0), some (vI l), some (vI s), some (vI n), some (vI f), some (vI 1), none] [] μ)
      refine ⟨fun c38 => ?_, fun c38 => ?_⟩
      · replace c38 := (bi_e0.mp c38)
        refine run_k 5 ?_
        show (1 ≠ 0 → Run fam0 none cd_X5_recall ER ET 60 0 [some (vR 38 0), some (vI l), some (vI s), some (vI n), some (vI f), some (vI 1), some (vI 0)] [vR 38 0] μ) ∧ (1 = 0 → Run fam0 none cd_X5_recall ER ET 56 0 [some (vR 38 0), some (vI l), some (vI s), some (vI n), some (vI f), some (vI 1), some (vI 0)] [vR 38 0] μ)
        refine ⟨fun c39 => ?_, fun c39 => absurd c39 (by decide)⟩
        refine run_k 2 ?_
        show (0 ≠ 0 → Run fam0 none cd_X5_recall ER ET 69 0 [some (vR 38 0), some (vI l), some (vI s), some (vI n), some (vI f), some (vI 1), some (vI 0)] [vR 38 0] μ) ∧ (0 = 0 → Run fam0 none cd_X5_recall ER ET 65 0 [some (vR 38 0), some (vI l), some (vI s), some (vI n), some (vI f), some (vI 1), some (vI 0)] [vR 38 0] μ)
        refine ⟨fun c40 => absurd c40 (by decide), fun c40 => ?_⟩
        refine run_k 3 ?_
        show ∃ σ : Mm, cl_X5_refused.2.2.1 σ [vR 38 0, vI 2] μ ∧ (∀ ov μ', cl_X5_refused.2.2.2.1 σ [vR 38 0, vI 2] μ ov μ' → Run fam0 none cd_X5_recall ER ET 86 0 [some (vR 38 0), some (vI l), some (vI s), some (vI n), some (vI f), some (vI 1), some (vI 0)] (ov.toList ++ []) μ') ∧ ∀ kx, cl_X5_refused.2.2.2.2 σ [vR 38 0, vI 2] μ kx → thr cd_X5_recall ET (Run fam0 none cd_X5_recall ER ET) 83 0 [some (vR 38 0), some (vI l), some (vI s), some (vI n), some (vI f), some (vI 1), some (vI 0)] μ kx
        refine ⟨μ, ⟨rfl, show True from True.intro⟩, fun ov μ' hq => ?_, fun k hk => hk.elim⟩
        obtain ⟨hov, hmu⟩ : ov = some (vI 1) ∧ μ' = st μ 38 0 0 2 := hq
        rw [hov, hmu]
        show Run fam0 none cd_X5_recall ER ET 86 0 [some (vR 38 0), some (vI l), some (vI s), some (vI n), some (vI f), some (vI 1), some (vI 0)] [vI 1] (st μ 38 0 0 2)
        refine run_k 1 ?_
        show (1 = 0 → Run fam0 none cd_X5_recall ER ET 91 0 [some (vR 38 0), some (vI l), some (vI s), some (vI n), some (vI f), some (vI 1), some (vI 0)] [] (st μ 38 0 0 2)) ∧ (1 ≠ 0 → Run fam0 none cd_X5_recall ER ET 89 0 [some (vR 38 0), some (vI l), some (vI s), some (vI n), some (vI f), some (vI 1), some (vI 0)] [] (st μ 38 0 0 2))
        refine ⟨fun c42 => absurd c42 (by decide), fun c42 => ?_⟩
        refine run_k 2 ?_
        show ER (some (vI 0)) (st μ 38 0 0 2)
        refine hER _ _ ⟨fun h => ?_, fun h => ?_, fun h => ?_, fun h => ?_⟩ <;> first | (exfalso; omega) | exact ⟨congrArg (fun z => some (vI z)) (by omega), rfl⟩ | exact ⟨rfl, rfl⟩
      · replace c38 := (bi_n0.mp c38)
        refine run_k 4 ?_
        show ∃ σ : Mm, cl_X5_in.2.2.1 σ [vI f, vI 1, vI 10] μ ∧ (∀ ov μ', cl_X5_in.2.2.2.1 σ [vI f, vI 1, vI 10] μ ov μ' → Run fam0 none cd_X5_recall ER ET 40 0 [some (vR 38 0), some (vI l), some (vI s), some (vI n), some (vI f), some (vI 1), none] (ov.toList ++ []) μ') ∧ ∀ kx, cl_X5_in.2.2.2.2 σ [vI f, vI 1, vI 10] μ kx → thr cd_X5_recall ET (Run fam0 none cd_X5_recall ER ET) 37 0 [some (vR 38 0), some (vI l), some (vI s), some (vI n), some (vI f), some (vI 1), none] μ kx
        refine ⟨μ, ⟨rfl, show True from True.intro⟩, fun ov μ' hq => ?_, fun k hk => hk.elim⟩
        obtain ⟨hov, hmu⟩ : ov = some (vI (bi (1 ≤ f ∧ f ≤ 10))) ∧ μ' = μ := hq
        rw [hov, hmu]
        show Run fam0 none cd_X5_recall ER ET 40 0 [some (vR 38 0), some (vI l), some (vI s), some (vI n), some (vI f), some (vI 1), none] [vI (bi (1 ≤ f ∧ f ≤ 10))] μ
        refine run_k 1 ?_
        show ((bi (1 ≤ f ∧ f ≤ 10)) = 0 → Run fam0 none cd_X5_recall ER ET 47 0 [some (vR 38 0), some (vI l), some (vI s), some (vI n), some (vI f), some (vI 1), none] [] μ) ∧ ((bi (1 ≤ f ∧ f ≤ 10)) ≠ 0 → Run fam0 none cd_X5_recall ER ET 43 0 [some (vR 38 0), some (vI l), some (vI s), some (vI n), some (vI f), some (vI 1), none] [] μ)
        refine ⟨fun c45 => ?_, fun c45 => ?_⟩
        · replace c45 := (bi_e0.mp c45)
          refine run_k 5 ?_
          show (1 ≠ 0 → Run fam0 none cd_X5_recall ER ET 60 0 [some (vR 38 0), some (vI l), some (vI s), some (vI n), some (vI f), some (vI 1), some (vI 0)] [vR 38 0] μ) ∧ (1 = 0 → Run fam0 none cd_X5_recall ER ET 56 0 [some (vR 38 0), some (vI l), some (vI s), some (vI n), some (vI f), some (vI 1), some (vI 0)] [vR 38 0] μ)
          refine ⟨fun c46 => ?_, fun c46 => absurd c46 (by decide)⟩
          refine run_k 2 ?_
          show (0 ≠ 0 → Run fam0 none cd_X5_recall ER ET 69 0 [some (vR 38 0), some (vI l), some (vI s), some (vI n), some (vI f), some (vI 1), some (vI 0)] [vR 38 0] μ) ∧ (0 = 0 → Run fam0 none cd_X5_recall ER ET 65 0 [some (vR 38 0), some (vI l), some (vI s), some (vI n), some (vI f), some (vI 1), some (vI 0)] [vR 38 0] μ)
          refine ⟨fun c47 => absurd c47 (by decide), fun c47 => ?_⟩
          refine run_k 3 ?_
          show ∃ σ : Mm, cl_X5_refused.2.2.1 σ [vR 38 0, vI 2] μ ∧ (∀ ov μ', cl_X5_refused.2.2.2.1 σ [vR 38 0, vI 2] μ ov μ' → Run fam0 none cd_X5_recall ER ET 86 0 [some (vR 38 0), some (vI l), some (vI s), some (vI n), some (vI f), some (vI 1), some (vI 0)] (ov.toList ++ []) μ') ∧ ∀ kx, cl_X5_refused.2.2.2.2 σ [vR 38 0, vI 2] μ kx → thr cd_X5_recall ET (Run fam0 none cd_X5_recall ER ET) 83 0 [some (vR 38 0), some (vI l), some (vI s), some (vI n), some (vI f), some (vI 1), some (vI 0)] μ kx
          refine ⟨μ, ⟨rfl, show True from True.intro⟩, fun ov μ' hq => ?_, fun k hk => hk.elim⟩
          obtain ⟨hov, hmu⟩ : ov = some (vI 1) ∧ μ' = st μ 38 0 0 2 := hq
          rw [hov, hmu]
          show Run fam0 none cd_X5_recall ER ET 86 0 [some (vR 38 0), some (vI l), some (vI s), some (vI n), some (vI f), some (vI 1), some (vI 0)] [vI 1] (st μ 38 0 0 2)
          refine run_k 1 ?_
          show (1 = 0 → Run fam0 none cd_X5_recall ER ET 91 0 [some (vR 38 0), some (vI l), some (vI s), some (vI n), some (vI f), some (vI 1), some (vI 0)] [] (st μ 38 0 0 2)) ∧ (1 ≠ 0 → Run fam0 none cd_X5_recall ER ET 89 0 [some (vR 38 0), some (vI l), some (vI s), some (vI n), some (vI f), some (vI 1), some (vI 0)] [] (st μ 38 0 0 2))
          refine ⟨fun c49 => absurd c49 (by decide), fun c49 => ?_⟩
          refine run_k 2 ?_
          show ER (some (vI 0)) (st μ 38 0 0 2)
          refine hER _ _ ⟨fun h => ?_, fun h => ?_, fun h => ?_, fun h => ?_⟩ <;> first | (exfalso; omega) | exact ⟨congrArg (fun z => some (vI z)) (by omega), rfl⟩ | exact ⟨rfl, rfl⟩
        · replace c45 := (bi_n0.mp c45)
          refine run_k 6 ?_
          show (1 ≠ 0 → Run fam0 none cd_X5_recall ER ET 60 0 [some (vR 38 0), some (vI l), some (vI s), some (vI n), some (vI f), some (vI 1), some (vI 1)] [vR 38 0] μ) ∧ (1 = 0 → Run fam0 none cd_X5_recall ER ET 56 0 [some (vR 38 0), some (vI l), some (vI s), some (vI n), some (vI f), some (vI 1), some (vI 1)] [vR 38 0] μ)
          refine ⟨fun c51 => ?_, fun c51 => absurd c51 (by decide)⟩
          refine run_k 2 ?_
          show (1 ≠ 0 → Run fam0 none cd_X5_recall ER ET 69 0 [some (vR 38 0), some (vI l), some (vI s), some (vI n), some (vI f), some (vI 1), some (vI 1)] [vR 38 0] μ) ∧ (1 = 0 → Run fam0 none cd_X5_recall ER ET 65 0 [some (vR 38 0), some (vI l), some (vI s), some (vI n), some (vI f), some (vI 1), some (vI 1)] [vR 38 0] μ)
          refine ⟨fun c52 => ?_, fun c52 => absurd c52 (by decide)⟩
          refine run_k 4 ?_
          show ((μ 38 0 23) ≠ 40 → Run fam0 none cd_X5_recall ER ET 82 0 [some (vR 38 0), some (vI l), some (vI s), some (vI n), some (vI f), some (vI 1), some (vI 1)] [vR 38 0] μ) ∧ ((μ 38 0 23) = 40 → Run fam0 none cd_X5_recall ER ET 78 0 [some (vR 38 0), some (vI l), some (vI s), some (vI n), some (vI f), some (vI 1), some (vI 1)] [vR 38 0] μ)
          refine ⟨fun c53 => ?_, fun c53 => ?_⟩
          · refine run_k 2 ?_
            show ∃ σ : Mm, cl_X5_refused.2.2.1 σ [vR 38 0, vI 0] μ ∧ (∀ ov μ', cl_X5_refused.2.2.2.1 σ [vR 38 0, vI 0] μ ov μ' → Run fam0 none cd_X5_recall ER ET 86 0 [some (vR 38 0), some (vI l), some (vI s), some (vI n), some (vI f), some (vI 1), some (vI 1)] (ov.toList ++ []) μ') ∧ ∀ kx, cl_X5_refused.2.2.2.2 σ [vR 38 0, vI 0] μ kx → thr cd_X5_recall ET (Run fam0 none cd_X5_recall ER ET) 83 0 [some (vR 38 0), some (vI l), some (vI s), some (vI n), some (vI f), some (vI 1), some (vI 1)] μ kx
            refine ⟨μ, ⟨rfl, show True from True.intro⟩, fun ov μ' hq => ?_, fun k hk => hk.elim⟩
            obtain ⟨hov, hmu⟩ : ov = some (vI 0) ∧ μ' = st μ 38 0 0 0 := hq
            rw [hov, hmu]
            show Run fam0 none cd_X5_recall ER ET 86 0 [some (vR 38 0), some (vI l), some (vI s), some (vI n), some (vI f), some (vI 1), some (vI 1)] [vI 0] (st μ 38 0 0 0)
            refine run_k 1 ?_
            show (0 = 0 → Run fam0 none cd_X5_recall ER ET 91 0 [some (vR 38 0), some (vI l), some (vI s), some (vI n), some (vI f), some (vI 1), some (vI 1)] [] (st μ 38 0 0 0)) ∧ (0 ≠ 0 → Run fam0 none cd_X5_recall ER ET 89 0 [some (vR 38 0), some (vI l), some (vI s), some (vI n), some (vI f), some (vI 1), some (vI 1)] [] (st μ 38 0 0 0))
            refine ⟨fun c55 => ?_, fun c55 => absurd c55 (by decide)⟩
            refine run_k 38 ?_
            show (0 ≤ (μ 38 0 23) ∧ (μ 38 0 23) < 40) ∧ ((0 ≤ (μ 38 0 23) ∧ (μ 38 0 23) < 40) ∧ ((0 ≤ (μ 38 0 23) ∧ (μ 38 0 23) < 40) ∧ ((0 ≤ (μ 38 0 23) ∧ (μ 38 0 23) < 40) ∧ (ER (some (vI (w32 ((w32 ((μ 38 0 23) + 1)) - 1)))) (st (st (st (st (st (st μ 38 0 0 0) 58 0 (μ 38 0 23) l) 59 0 (μ 38 0 23) s) 60 0 (μ 38 0 23) n) 61 0 (μ 38 0 23) (w32 ((μ 38 0 1) + f))) 38 0 23 (w32 ((μ 38 0 23) + 1)))))))
            rw [show w32 ((μ 38 0 1) + f) = (μ 38 0 1) + f from w32_id (by simp only [in32]; omega)]
            rw [show w32 ((μ 38 0 23) + 1) = (μ 38 0 23) + 1 from w32_id (by simp only [in32]; omega)]
            rw [show w32 (((μ 38 0 23) + 1) - 1) = ((μ 38 0 23) + 1) - 1 from w32_id (by simp only [in32]; omega)]
            refine ⟨by omega, ?_⟩
            refine ⟨by omega, ?_⟩
            refine ⟨by omega, ?_⟩
            refine ⟨by omega, ?_⟩
            refine hER _ _ ⟨fun h => ?_, fun h => ?_, fun h => ?_, fun h => ?_⟩ <;> first | (exfalso; omega) | exact ⟨congrArg (fun z => some (vI z)) (by omega), rfl⟩ | exact ⟨rfl, rfl⟩
          · refine run_k 3 ?_
            show ∃ σ : Mm, cl_X5_refused.2.2.1 σ [vR 38 0, vI 3] μ ∧ (∀ ov μ', cl_X5_refused.2.2.2.1 σ [vR 38 0, vI 3] μ ov μ' → Run fam0 none cd_X5_recall ER ET 86 0 [some (vR 38 0), some (vI l), some (vI s), some (vI n), some (vI f), some (vI 1), some (vI 1)] (ov.toList ++ []) μ') ∧ ∀ kx, cl_X5_refused.2.2.2.2 σ [vR 38 0, vI 3] μ kx → thr cd_X5_recall ET (Run fam0 none cd_X5_recall ER ET) 83 0 [some (vR 38 0), some (vI l), some (vI s), some (vI n), some (vI f), some (vI 1), some (vI 1)] μ kx
            refine ⟨μ, ⟨rfl, show True from True.intro⟩, fun ov μ' hq => ?_, fun k hk => hk.elim⟩
            obtain ⟨hov, hmu⟩ : ov = some (vI 1) ∧ μ' = st μ 38 0 0 3 := hq
            rw [hov, hmu]
            show Run fam0 none cd_X5_recall ER ET 86 0 [some (vR 38 0), some (vI l), some (vI s), some (vI n), some (vI f), some (vI 1), some (vI 1)] [vI 1] (st μ 38 0 0 3)
            refine run_k 1 ?_
            show (1 = 0 → Run fam0 none cd_X5_recall ER ET 91 0 [some (vR 38 0), some (vI l), some (vI s), some (vI n), some (vI f), some (vI 1), some (vI 1)] [] (st μ 38 0 0 3)) ∧ (1 ≠ 0 → Run fam0 none cd_X5_recall ER ET 89 0 [some (vR 38 0), some (vI l), some (vI s), some (vI n), some (vI f), some (vI 1), some (vI 1)] [] (st μ 38 0 0 3))
            refine ⟨fun c58 => absurd c58 (by decide), fun c58 => ?_⟩
            refine run_k 2 ?_
            show ER (some (vI 0)) (st μ 38 0 0 3)
            refine hER _ _ ⟨fun h => ?_, fun h => ?_, fun h => ?_, fun h => ?_⟩ <;> first | (exfalso; omega) | exact ⟨congrArg (fun z => some (vI z)) (by omega), rfl⟩ | exact ⟨rfl, rfl⟩
set_option maxRecDepth 20000 in
theorem con_X5_recall (l : Launch) (htr : l.stackTraces = false) (σ : Mm) : CON fam0 63 l yX5_recall (Cond.code yX5_recall cX5_recall 7 (some .int) :: wm) 2 42 0 (cl_X5_recall.2.2.1 σ) (cl_X5_recall.2.2.2.1 σ) (cl_X5_recall.2.2.2.2 σ) :=
  con_of (cd := cd_X5_recall) (own := RX5) (rk := 1) (sc_of htr (by decide) k_X5_recall_ok (by decide +kernel) co_X5_ok fl_X5_ok (all_cons ⟨RX5, yX5_refused, cX5_refused, 2, (some .boolean), 0, 0, 1, con_X5_refused l htr, rfl, vw_X5_127, ⟨rfl, by decide, by decide, by decide +kernel⟩, ⟨by decide, by decide⟩, fun σ as μ h => ⟨38, 0, _, h.1, rfl, TX5, 31, rfl⟩⟩ all_nil) (all_cons ⟨yX5_isLender, cX5_isLender, 1, (some .boolean), 1, 22, con_X5_isLender l htr, vw_X5_150, ⟨by decide, by decide, by decide +kernel⟩, ⟨by decide, by decide⟩⟩ (all_cons ⟨yX5_isStock, cX5_isStock, 1, (some .boolean), 1, 22, con_X5_isStock l htr, vw_X5_122, ⟨by decide, by decide, by decide +kernel⟩, ⟨by decide, by decide⟩⟩ (all_cons ⟨yX5_in, cX5_in, 3, (some .boolean), 0, 0, con_X5_in l htr, vw_X5_85, ⟨by decide, by decide, by decide +kernel⟩, ⟨by decide, by decide⟩⟩ all_nil))) all_nil) rfl (by decide +kernel) rfl rfl rfl rfl (fun as μ hs => by rw [hs.1]; exact Nat.le_of_ble_eq_true rfl)
    (fun as μ hs hM hrg => by
      have hs1 := hs.1
      have hmem : ∀ v, v ∈ ([vR 38 0, vI (iaI as 1), vI (iaI as 2), vI (iaI as 3), vI (iaI as 4)] : List AV) → rg fam0 v := by rw [← hs1]; exact hrg
      have key := run_X5_recall (ER := cl_X5_recall.2.2.2.1 σ as μ) (ET := fun k μ' => cl_X5_recall.2.2.2.2 σ as μ k ∧ μ' = μ) σ μ (iaI as 1) (iaI as 2) (iaI as 3) (iaI as 4) hM (hmem (vI (iaI as 1)) (by simp)) (hmem (vI (iaI as 2)) (by simp)) (hmem (vI (iaI as 3)) (by simp)) (hmem (vI (iaI as 4)) (by simp)) hs.2 (fun ov μ' h => h)
      have e : entL as 7 = [some (vR 38 0), some (vI (iaI as 1)), some (vI (iaI as 2)), some (vI (iaI as 3)), some (vI (iaI as 4)), none, none] := by rw [hs1]; rfl
      rw [e]; exact key)
