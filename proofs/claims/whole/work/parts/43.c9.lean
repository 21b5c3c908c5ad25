/-! ===== the class: its calls -/
def CV (μ : Mm) : Prop := KI μ ∧ Wk (al μ) ∧ Xk (al μ) ∧ CMt (μ 0 0 14) 40 μ
def R38 (μ μ' : Mm) : Prop := ∀ (g : Nat) (r j : Int), 38 ≤ g → μ' g r j = μ g r j
/-- what a call of the class leaves behind -/
def PB (μ μ' : Mm) : Prop := KI μ' ∧ CMt (μ' 0 0 14) 40 μ' ∧ R38 μ μ'
theorem PB_rf {μ : Mm} (h : CV μ) : PB μ μ := ⟨h.1, h.2.2.2, fun _ _ _ _ => rfl⟩
theorem KI_fr {M M' : Mm} (h : KI M) (hr : ∀ (g : Nat) (r j : Int), (g = 5 ∨ g = 7 ∨ g = 9 ∨ g = 11 ∨ (14 ≤ g ∧ g ≤ 20) ∨ g = 35 ∨ g = 37) → M' g r j = M g r j) : KI M' := by
  have q : ∀ (g : Nat) (j : Int), (g = 42 ∨ g = 44 ∨ g = 45 ∨ g = 46 ∨ g = 48 ∨ g = 49 ∨ g = 50 ∨ g = 51 ∨ g = 52) → al M' g 0 j = al M g 0 j := fun g j hg => by
    rcases hg with rfl | rfl | rfl | rfl | rfl | rfl | rfl | rfl | rfl
    · exact hr 7 _ _ (by decide)
    · exact hr 5 _ _ (by decide)
    · exact hr 9 _ _ (by decide)
    · exact hr 11 _ _ (by decide)
    · exact hr 16 _ _ (by decide)
    · exact hr 17 _ _ (by decide)
    · exact hr 18 _ _ (by decide)
    · exact hr 19 _ _ (by decide)
    · exact hr 20 _ _ (by decide)
  have q11 : al M' 38 0 11 = al M 38 0 11 := hr 15 _ _ (by decide)
  exact KI_cg h (VB_cg h.1 q11 (fun g j z => q g j (by omega))) q11 (fun g j z => q g j (by omega)) (fun g r j z => hr g r j (by omega))
theorem CMt_fr {d k : Int} {M M' : Mm} (h : CMt d k M) (hr : ∀ (g : Nat) (r j : Int), (g = 27 ∨ g = 31 ∨ g = 32) → M' g r j = M g r j) : CMt d k M' := fun i i0 => by
  rw [hr 32 0 i (by decide), hr 27 0 5 (by decide), hr 31 0 i (by decide)]
  exact h i i0
theorem PB_st {μ M : Mm} (h : PB μ M) {f : Nat} {r i v : Int} (hf : f = 1 ∨ f = 2 ∨ f = 3 ∨ f = 4 ∨ f = 12 ∨ (21 ≤ f ∧ f ≤ 26)) : PB μ (st M f r i v) := by
  refine ⟨KI_fr h.1 (fun g r j q => st_o (by omega)), ?_, fun g r j q => (st_o (by omega)).trans (h.2.2 g r j q)⟩
  rw [st_o (by omega)]
  exact CMt_fr h.2.1 (fun g r j q => st_o (by omega))
theorem PB_of {μ M : Mm} (hC : CMt (μ 0 0 14) 40 μ) (hK : KI M) (hF : Fr μ M) (hd : M 0 0 14 = μ 0 0 14) : PB μ M := ⟨hK, by rw [hd]; exact CMt_fr hC (fun g r j q => hF g r j (by omega)), fun g r j q => hF g r j (by omega)⟩
theorem al_s4 {μ : Mm} {c v : Int} (h : μ 5 0 c = 0) : al (st μ 4 0 c v) = st (al μ) 43 0 c v := by
  funext f t j
  unfold al mtF st
  split <;> first | (simp; done) | (simp; intro q; exact absurd q (by assumption)) | skip
  simp
  by_cases q0 : t = 0
  · by_cases q : j = c
    · subst q; simp [q0, h]
    · simp [q, q0]
  · simp [q0]
/-! ### Primeborrow.day -/
def cl_X4_day : Cl := (1, 0, fun σ as μ => as = [vR 0 0] ∧ (True), fun σ as μ ov μ' => ov = some (vI (μ 0 0 14)) ∧ μ' = μ, fun σ as μ k => False)
def cd_X4_day : Cd := mkcd k_X4_day co_X4 fl_X4 [] [] [] [] 1 1 0
set_option maxHeartbeats 4000000 in
set_option maxRecDepth 20000 in
theorem run_X4_day {ER : Option AV → Mm → Prop} {ET : Nat → Mm → Prop} (σ μ : Mm) (hM : MR fam0 μ)  (hP : True) (hER : ∀ ov μ', (ov = some (vI (μ 0 0 14)) ∧ μ' = μ) → ER ov μ') : Run fam0 none cd_X4_day ER ET 0 0 [some (vR 0 0)] [] μ := by
  refine run_k 3 ?_
  show ER (some (vI (μ 0 0 14))) μ
  exact hER _ _ ⟨rfl, rfl⟩
set_option maxRecDepth 20000 in
theorem con_X4_day (l : Launch) (htr : l.stackTraces = false) (σ : Mm) : CON fam0 63 l yX4_day (Cond.code yX4_day cX4_day 1 (some .int) :: wm) 0 0 0 (cl_X4_day.2.2.1 σ) (cl_X4_day.2.2.2.1 σ) (cl_X4_day.2.2.2.2 σ) :=
  con_of (cd := cd_X4_day) (own := RX4) (rk := 1) (sc_of htr (by decide) k_X4_day_ok (by decide +kernel) co_X4_ok fl_X4_ok all_nil all_nil all_nil) rfl (by decide +kernel) rfl rfl rfl rfl (fun as μ hs => by rw [hs.1]; exact Nat.le_of_ble_eq_true rfl)
    (fun as μ hs hM hrg => by
      have hs1 := hs.1
      have hmem : ∀ v, v ∈ ([vR 0 0] : List AV) → rg fam0 v := by rw [← hs1]; exact hrg
      have key := run_X4_day (ER := cl_X4_day.2.2.2.1 σ as μ) (ET := fun k μ' => cl_X4_day.2.2.2.2 σ as μ k ∧ μ' = μ) σ μ  hM  hs.2 (fun ov μ' h => h)
      have e : entL as 1 = [some (vR 0 0)] := by rw [hs1]; rfl
      rw [e]; exact key)
/-! ### Primeborrow.price -/
def cl_X4_price : Cl := (3, 2, fun σ as μ => as = [vR 0 0, vI (iaI as 1), vI (iaI as 2)] ∧ (CV μ), fun σ as μ ov μ' => ((0 ≤ (iaI as 1) ∧ (iaI as 1) ≤ 3) ∧ (1 ≤ (iaI as 2) ∧ (iaI as 2) ≤ 100000)) ∧ ov = some (vI (μ 1 0 (iaI as 1))) ∧ al μ' = st (al μ) 39 0 (iaI as 1) (iaI as 2) ∧ PB μ μ', fun σ as μ k => (k = 1 ∧ ¬ (0 ≤ (iaI as 1) ∧ (iaI as 1) ≤ 3)) ∨ (k = 2 ∧ (0 ≤ (iaI as 1) ∧ (iaI as 1) ≤ 3) ∧ ¬ (1 ≤ (iaI as 2) ∧ (iaI as 2) ≤ 100000)))
def cd_X4_price : Cd := mkcd k_X4_price co_X4 fl_X4 [] [(72, cl_X4_needStock), (77, cl_X4_needRange)] [] [] 4 1 2
set_option maxHeartbeats 4000000 in
set_option maxRecDepth 20000 in
theorem run_X4_price {ER : Option AV → Mm → Prop} {ET : Nat → Mm → Prop} (σ μ : Mm) (s v : Int) (hM : MR fam0 μ) (h_s : in32 s) (h_v : in32 v) (hP : CV μ) (hER : ∀ ov μ', (((0 ≤ s ∧ s ≤ 3) ∧ (1 ≤ v ∧ v ≤ 100000)) ∧ ov = some (vI (μ 1 0 s)) ∧ al μ' = st (al μ) 39 0 s v ∧ PB μ μ') → ER ov μ') (hET : ∀ k, ((k = 1 ∧ ¬ (0 ≤ s ∧ s ≤ 3)) ∨ (k = 2 ∧ (0 ≤ s ∧ s ≤ 3) ∧ ¬ (1 ≤ v ∧ v ≤ 100000))) → ET k μ) : Run fam0 none cd_X4_price ER ET 0 0 [some (vR 0 0), some (vI s), some (vI v), none] [] μ := by
  have hP0 := hP
  obtain ⟨hK, hW, hX, hC⟩ := hP
  refine run_k 2 ?_
  show ∃ σ : Mm, cl_X4_needStock.2.2.1 σ [vI s] μ ∧ (∀ ov μ', cl_X4_needStock.2.2.2.1 σ [vI s] μ ov μ' → Run fam0 none cd_X4_price ER ET 4 1 [some (vR 0 0), some (vI s), some (vI v), none] (ov.toList ++ []) μ') ∧ ∀ kx, cl_X4_needStock.2.2.2.2 σ [vI s] μ kx → thr cd_X4_price ET (Run fam0 none cd_X4_price ER ET) 1 1 [some (vR 0 0), some (vI s), some (vI v), none] μ kx
  refine ⟨μ, ⟨rfl, show True from True.intro⟩, fun ov μ' hq => ?_, fun kx hk => (by have hk : kx = 1 ∧ ¬ (0 ≤ s ∧ s ≤ 3) := hk; exact hET kx (by omega))⟩
  obtain ⟨hov, hmu, hc1⟩ : ov = none ∧ μ' = μ ∧ (0 ≤ s ∧ s ≤ 3) := hq
  rw [hov, hmu]
  show Run fam0 none cd_X4_price ER ET 4 1 [some (vR 0 0), some (vI s), some (vI v), none] [] μ
  refine run_k 4 ?_
  show ∃ σ : Mm, cl_X4_needRange.2.2.1 σ [vI v, vI 1, vI 100000] μ ∧ (∀ ov μ', cl_X4_needRange.2.2.2.1 σ [vI v, vI 1, vI 100000] μ ov μ' → Run fam0 none cd_X4_price ER ET 11 2 [some (vR 0 0), some (vI s), some (vI v), none] (ov.toList ++ []) μ') ∧ ∀ kx, cl_X4_needRange.2.2.2.2 σ [vI v, vI 1, vI 100000] μ kx → thr cd_X4_price ET (Run fam0 none cd_X4_price ER ET) 8 2 [some (vR 0 0), some (vI s), some (vI v), none] μ kx
  refine ⟨μ, ⟨rfl, show True from True.intro⟩, fun ov μ' hq => ?_, fun kx hk => (by have hk : kx = 2 ∧ ¬ (1 ≤ v ∧ v ≤ 100000) := hk; exact hET kx (by omega))⟩
  obtain ⟨hov, hmu, hc2⟩ : ov = none ∧ μ' = μ ∧ (1 ≤ v ∧ v ≤ 100000) := hq
  rw [hov, hmu]
  show Run fam0 none cd_X4_price ER ET 11 2 [some (vR 0 0), some (vI s), some (vI v), none] [] μ
  refine run_k 12 ?_
  show (0 ≤ s ∧ s < 4) ∧ ((0 ≤ s ∧ s < 4) ∧ (ER (some (vI (μ 1 0 s))) (st μ 1 0 s v)))
  refine ⟨by omega, ?_⟩
  refine ⟨by omega, ?_⟩
  exact hER _ _ ⟨by omega, rfl, al_s1 _ _ _ _, PB_st (PB_rf hP0) (by decide)⟩
theorem vw_X4_77 : ∀ w ∈ ([.methodLink RX4 77 yX4_needRange, .static yX4_needRange, .initialized yX4_needRange.cls, .code yX4_needRange cX4_needRange 3 none] : List Cond), w ∈ wm := wm_ps _ [320, 321, 50, 322] (by decide +kernel)
theorem vw_X4_72 : ∀ w ∈ ([.methodLink RX4 72 yX4_needStock, .static yX4_needStock, .initialized yX4_needStock.cls, .code yX4_needStock cX4_needStock 1 none] : List Cond), w ∈ wm := wm_ps _ [248, 249, 50, 250] (by decide +kernel)
set_option maxRecDepth 20000 in
theorem con_X4_price (l : Launch) (htr : l.stackTraces = false) (σ : Mm) : CON fam0 63 l yX4_price (Cond.code yX4_price cX4_price 4 (some .int) :: wm) 7 104 2 (cl_X4_price.2.2.1 σ) (cl_X4_price.2.2.2.1 σ) (cl_X4_price.2.2.2.2 σ) :=
  con_of (cd := cd_X4_price) (own := RX4) (rk := 1) (sc_of htr (by decide) k_X4_price_ok (by decide +kernel) co_X4_ok fl_X4_ok all_nil (all_cons ⟨yX4_needStock, cX4_needStock, 1, none, 6, 82, con_X4_needStock l htr, vw_X4_72, ⟨by decide, by decide, by decide +kernel⟩, ⟨by decide, by decide⟩⟩ (all_cons ⟨yX4_needRange, cX4_needRange, 3, none, 6, 82, con_X4_needRange l htr, vw_X4_77, ⟨by decide, by decide, by decide +kernel⟩, ⟨by decide, by decide⟩⟩ all_nil)) all_nil) rfl (by decide +kernel) rfl rfl rfl rfl (fun as μ hs => by rw [hs.1]; exact Nat.le_of_ble_eq_true rfl)
    (fun as μ hs hM hrg => by
      have hs1 := hs.1
      have hmem : ∀ v, v ∈ ([vR 0 0, vI (iaI as 1), vI (iaI as 2)] : List AV) → rg fam0 v := by rw [← hs1]; exact hrg
      have key := run_X4_price (ER := cl_X4_price.2.2.2.1 σ as μ) (ET := fun k μ' => cl_X4_price.2.2.2.2 σ as μ k ∧ μ' = μ) σ μ (iaI as 1) (iaI as 2) hM (hmem (vI (iaI as 1)) (by simp)) (hmem (vI (iaI as 2)) (by simp)) hs.2 (fun ov μ' h => h) (fun k h => ⟨h, rfl⟩)
      have e : entL as 4 = [some (vR 0 0), some (vI (iaI as 1)), some (vI (iaI as 2)), none] := by rw [hs1]; rfl
      rw [e]; exact key)
/-! ### Primeborrow.margin -/
def cl_X4_margin : Cl := (3, 2, fun σ as μ => as = [vR 0 0, vI (iaI as 1), vI (iaI as 2)] ∧ (CV μ), fun σ as μ ov μ' => ((0 ≤ (iaI as 1) ∧ (iaI as 1) ≤ 3) ∧ (10 ≤ (iaI as 2) ∧ (iaI as 2) ≤ 100)) ∧ ov = some (vI (μ 2 0 (iaI as 1))) ∧ al μ' = st (al μ) 40 0 (iaI as 1) (iaI as 2) ∧ PB μ μ', fun σ as μ k => (k = 1 ∧ ¬ (0 ≤ (iaI as 1) ∧ (iaI as 1) ≤ 3)) ∨ (k = 2 ∧ (0 ≤ (iaI as 1) ∧ (iaI as 1) ≤ 3) ∧ ¬ (10 ≤ (iaI as 2) ∧ (iaI as 2) ≤ 100)))
def cd_X4_margin : Cd := mkcd k_X4_margin co_X4 fl_X4 [] [(72, cl_X4_needStock), (77, cl_X4_needRange)] [] [] 4 1 2
set_option maxHeartbeats 4000000 in
set_option maxRecDepth 20000 in
theorem run_X4_margin {ER : Option AV → Mm → Prop} {ET : Nat → Mm → Prop} (σ μ : Mm) (s v : Int) (hM : MR fam0 μ) (h_s : in32 s) (h_v : in32 v) (hP : CV μ) (hER : ∀ ov μ', (((0 ≤ s ∧ s ≤ 3) ∧ (10 ≤ v ∧ v ≤ 100)) ∧ ov = some (vI (μ 2 0 s)) ∧ al μ' = st (al μ) 40 0 s v ∧ PB μ μ') → ER ov μ') (hET : ∀ k, ((k = 1 ∧ ¬ (0 ≤ s ∧ s ≤ 3)) ∨ (k = 2 ∧ (0 ≤ s ∧ s ≤ 3) ∧ ¬ (10 ≤ v ∧ v ≤ 100))) → ET k μ) : Run fam0 none cd_X4_margin ER ET 0 0 [some (vR 0 0), some (vI s), some (vI v), none] [] μ := by
  have hP0 := hP
  obtain ⟨hK, hW, hX, hC⟩ := hP
  refine run_k 2 ?_
  show ∃ σ : Mm, cl_X4_needStock.2.2.1 σ [vI s] μ ∧ (∀ ov μ', cl_X4_needStock.2.2.2.1 σ [vI s] μ ov μ' → Run fam0 none cd_X4_margin ER ET 4 1 [some (vR 0 0), some (vI s), some (vI v), none] (ov.toList ++ []) μ') ∧ ∀ kx, cl_X4_needStock.2.2.2.2 σ [vI s] μ kx → thr cd_X4_margin ET (Run fam0 none cd_X4_margin ER ET) 1 1 [some (vR 0 0), some (vI s), some (vI v), none] μ kx
  refine ⟨μ, ⟨rfl, show True from True.intro⟩, fun ov μ' hq => ?_, fun kx hk => (by have hk : kx = 1 ∧ ¬ (0 ≤ s ∧ s ≤ 3) := hk; exact hET kx (by omega))⟩
  obtain ⟨hov, hmu, hc1⟩ : ov = none ∧ μ' = μ ∧ (0 ≤ s ∧ s ≤ 3) := hq
  rw [hov, hmu]
  show Run fam0 none cd_X4_margin ER ET 4 1 [some (vR 0 0), some (vI s), some (vI v), none] [] μ
  refine run_k 4 ?_
  show ∃ σ : Mm, cl_X4_needRange.2.2.1 σ [vI v, vI 10, vI 100] μ ∧ (∀ ov μ', cl_X4_needRange.2.2.2.1 σ [vI v, vI 10, vI 100] μ ov μ' → Run fam0 none cd_X4_margin ER ET 12 2 [some (vR 0 0), some (vI s), some (vI v), none] (ov.toList ++ []) μ') ∧ ∀ kx, cl_X4_needRange.2.2.2.2 σ [vI v, vI 10, vI 100] μ kx → thr cd_X4_margin ET (Run fam0 none cd_X4_margin ER ET) 9 2 [some (vR 0 0), some (vI s), some (vI v), none] μ kx
  refine ⟨μ, ⟨rfl, show True from True.intro⟩, fun ov μ' hq => ?_, fun kx hk => (by have hk : kx = 2 ∧ ¬ (10 ≤ v ∧ v ≤ 100) := hk; exact hET kx (by omega))⟩
  obtain ⟨hov, hmu, hc2⟩ : ov = none ∧ μ' = μ ∧ (10 ≤ v ∧ v ≤ 100) := hq
  rw [hov, hmu]
  show Run fam0 none cd_X4_margin ER ET 12 2 [some (vR 0 0), some (vI s), some (vI v), none] [] μ
  refine run_k 12 ?_
  show (0 ≤ s ∧ s < 4) ∧ ((0 ≤ s ∧ s < 4) ∧ (ER (some (vI (μ 2 0 s))) (st μ 2 0 s v)))
  refine ⟨by omega, ?_⟩
  refine ⟨by omega, ?_⟩
  exact hER _ _ ⟨by omega, rfl, al_s2 _ _ _ _, PB_st (PB_rf hP0) (by decide)⟩
set_option maxRecDepth 20000 in
theorem con_X4_margin (l : Launch) (htr : l.stackTraces = false) (σ : Mm) : CON fam0 63 l yX4_margin (Cond.code yX4_margin cX4_margin 4 (some .int) :: wm) 7 104 2 (cl_X4_margin.2.2.1 σ) (cl_X4_margin.2.2.2.1 σ) (cl_X4_margin.2.2.2.2 σ) :=
  con_of (cd := cd_X4_margin) (own := RX4) (rk := 1) (sc_of htr (by decide) k_X4_margin_ok (by decide +kernel) co_X4_ok fl_X4_ok all_nil (all_cons ⟨yX4_needStock, cX4_needStock, 1, none, 6, 82, con_X4_needStock l htr, vw_X4_72, ⟨by decide, by decide, by decide +kernel⟩, ⟨by decide, by decide⟩⟩ (all_cons ⟨yX4_needRange, cX4_needRange, 3, none, 6, 82, con_X4_needRange l htr, vw_X4_77, ⟨by decide, by decide, by decide +kernel⟩, ⟨by decide, by decide⟩⟩ all_nil)) all_nil) rfl (by decide +kernel) rfl rfl rfl rfl (fun as μ hs => by rw [hs.1]; exact Nat.le_of_ble_eq_true rfl)
    (fun as μ hs hM hrg => by
      have hs1 := hs.1
      have hmem : ∀ v, v ∈ ([vR 0 0, vI (iaI as 1), vI (iaI as 2)] : List AV) → rg fam0 v := by rw [← hs1]; exact hrg
      have key := run_X4_margin (ER := cl_X4_margin.2.2.2.1 σ as μ) (ET := fun k μ' => cl_X4_margin.2.2.2.2 σ as μ k ∧ μ' = μ) σ μ (iaI as 1) (iaI as 2) hM (hmem (vI (iaI as 1)) (by simp)) (hmem (vI (iaI as 2)) (by simp)) hs.2 (fun ov μ' h => h) (fun k h => ⟨h, rfl⟩)
      have e : entL as 4 = [some (vR 0 0), some (vI (iaI as 1)), some (vI (iaI as 2)), none] := by rw [hs1]; rfl
      rw [e]; exact key)
/-! ### Primeborrow.cash -/
def cl_X4_cash : Cl := (3, 5, fun σ as μ => as = [vR 0 0, vI (iaI as 1), vI (iaI as 2)] ∧ (CV μ), fun σ as μ ov μ' => ((0 ≤ (iaI as 1) ∧ (iaI as 1) ≤ 5) ∧ (-100000000 ≤ (iaI as 2) ∧ (iaI as 2) ≤ 100000000) ∧ (μ 5 0 (iaI as 1) = 0 ∧ (0 ≤ (iaI as 2) ∨ ¬ w64 (equityF (al μ) (iaI as 1) + (iaI as 2)) < needF (al μ) (iaI as 1)))) ∧ ov = some (vL (w64 (μ 3 0 (iaI as 1) + (iaI as 2)))) ∧ al μ' = st (al μ) 41 0 (iaI as 1) (w64 (μ 3 0 (iaI as 1) + (iaI as 2))) ∧ PB μ μ', fun σ as μ k => (k = 1 ∧ ¬ (0 ≤ (iaI as 1) ∧ (iaI as 1) ≤ 5)) ∨ (k = 2 ∧ (0 ≤ (iaI as 1) ∧ (iaI as 1) ≤ 5) ∧ ¬ (-100000000 ≤ (iaI as 2) ∧ (iaI as 2) ≤ 100000000)) ∨ (k = 3 ∧ (0 ≤ (iaI as 1) ∧ (iaI as 1) ≤ 5) ∧ (-100000000 ≤ (iaI as 2) ∧ (iaI as 2) ≤ 100000000) ∧ ¬ (μ 5 0 (iaI as 1) = 0 ∧ (0 ≤ (iaI as 2) ∨ ¬ w64 (equityF (al μ) (iaI as 1) + (iaI as 2)) < needF (al μ) (iaI as 1)))))
def cd_X4_cash : Cd := mkcd k_X4_cash co_X4 fl_X4 [(90, cl_X4_equity), (94, cl_X4_need)] [(81, cl_X4_needClient), (77, cl_X4_needRange), (86, cl_X4_needState)] [] [] 3 2 5
set_option maxHeartbeats 4000000 in
set_option maxRecDepth 20000 in
theorem run_X4_cash {ER : Option AV → Mm → Prop} {ET : Nat → Mm → Prop} (σ μ : Mm) (c v : Int) (hM : MR fam0 μ) (h_c : in32 c) (h_v : in32 v) (hP : CV μ) (hER : ∀ ov μ', (((0 ≤ c ∧ c ≤ 5) ∧ (-100000000 ≤ v ∧ v ≤ 100000000) ∧ (μ 5 0 c = 0 ∧ (0 ≤ v ∨ ¬ w64 (equityF (al μ) c + v) < needF (al μ) c))) ∧ ov = some (vL (w64 (μ 3 0 c + v))) ∧ al μ' = st (al μ) 41 0 c (w64 (μ 3 0 c + v)) ∧ PB μ μ') → ER ov μ') (hET : ∀ k, ((k = 1 ∧ ¬ (0 ≤ c ∧ c ≤ 5)) ∨ (k = 2 ∧ (0 ≤ c ∧ c ≤ 5) ∧ ¬ (-100000000 ≤ v ∧ v ≤ 100000000)) ∨ (k = 3 ∧ (0 ≤ c ∧ c ≤ 5) ∧ (-100000000 ≤ v ∧ v ≤ 100000000) ∧ ¬ (μ 5 0 c = 0 ∧ (0 ≤ v ∨ ¬ w64 (equityF (al μ) c + v) < needF (al μ) c)))) → ET k μ) : Run fam0 none cd_X4_cash ER ET 0 0 [some (vR 0 0), some (vI c), some (vI v)] [] μ := by
  have hP0 := hP
  obtain ⟨hK, hW, hX, hC⟩ := hP
  refine run_k 2 ?_
  show ∃ σ : Mm, cl_X4_needClient.2.2.1 σ [vI c] μ ∧ (∀ ov μ', cl_X4_needClient.2.2.2.1 σ [vI c] μ ov μ' → Run fam0 none cd_X4_cash ER ET 4 1 [some (vR 0 0), some (vI c), some (vI v)] (ov.toList ++ []) μ') ∧ ∀ kx, cl_X4_needClient.2.2.2.2 σ [vI c] μ kx → thr cd_X4_cash ET (Run fam0 none cd_X4_cash ER ET) 1 1 [some (vR 0 0), some (vI c), some (vI v)] μ kx
  refine ⟨μ, ⟨rfl, show True from True.intro⟩, fun ov μ' hq => ?_, fun kx hk => (by have hk : kx = 1 ∧ ¬ (0 ≤ c ∧ c ≤ 5) := hk; exact hET kx (by omega))⟩
  obtain ⟨hov, hmu, hc1⟩ : ov = none ∧ μ' = μ ∧ (0 ≤ c ∧ c ≤ 5) := hq
  rw [hov, hmu]
  show Run fam0 none cd_X4_cash ER ET 4 1 [some (vR 0 0), some (vI c), some (vI v)] [] μ
  refine run_k 4 ?_
  show ∃ σ : Mm, cl_X4_needRange.2.2.1 σ [vI v, vI (-100000000), vI 100000000] μ ∧ (∀ ov μ', cl_X4_needRange.2.2.2.1 σ [vI v, vI (-100000000), vI 100000000] μ ov μ' → Run fam0 none cd_X4_cash ER ET 12 2 [some (vR 0 0), some (vI c), some (vI v)] (ov.toList ++ []) μ') ∧ ∀ kx, cl_X4_needRange.2.2.2.2 σ [vI v, vI (-100000000), vI 100000000] μ kx → thr cd_X4_cash ET (Run fam0 none cd_X4_cash ER ET) 9 2 [some (vR 0 0), some (vI c), some (vI v)] μ kx
  refine ⟨μ, ⟨rfl, show True from True.intro⟩, fun ov μ' hq => ?_, fun kx hk => (by have hk : kx = 2 ∧ ¬ ((-100000000) ≤ v ∧ v ≤ 100000000) := hk; exact hET kx (by omega))⟩
  obtain ⟨hov, hmu, hc2⟩ : ov = none ∧ μ' = μ ∧ ((-100000000) ≤ v ∧ v ≤ 100000000) := hq
  rw [hov, hmu]
  show Run fam0 none cd_X4_cash ER ET 12 2 [some (vR 0 0), some (vI c), some (vI v)] [] μ
  refine run_k 5 ?_
  show (0 ≤ c ∧ c < 6) ∧ (((μ 5 0 c) ≠ 0 → Run fam0 none cd_X4_cash ER ET 25 2 [some (vR 0 0), some (vI c), some (vI v)] [] μ) ∧ ((μ 5 0 c) = 0 → Run fam0 none cd_X4_cash ER ET 21 2 [some (vR 0 0), some (vI c), some (vI v)] [] μ))
  refine ⟨by omega, ?_⟩
  refine ⟨fun c3 => ?_, fun c3 => ?_⟩
  · refine run_k 2 ?_
    show ∃ σ : Mm, cl_X4_needState.2.2.1 σ [vI 0] μ ∧ (∀ ov μ', cl_X4_needState.2.2.2.1 σ [vI 0] μ ov μ' → Run fam0 none cd_X4_cash ER ET 29 3 [some (vR 0 0), some (vI c), some (vI v)] (ov.toList ++ []) μ') ∧ ∀ kx, cl_X4_needState.2.2.2.2 σ [vI 0] μ kx → thr cd_X4_cash ET (Run fam0 none cd_X4_cash ER ET) 26 3 [some (vR 0 0), some (vI c), some (vI v)] μ kx
    refine ⟨μ, ⟨rfl, show True from True.intro⟩, fun ov μ' hq => ?_, fun kx hk => (by have hk : kx = 3 ∧ ¬ ((0 : Int) ≠ 0) := hk; exact hET kx (by omega))⟩
    exact absurd rfl hq.2.2
  · refine run_k 3 ?_
    show ∃ σ : Mm, cl_X4_needState.2.2.1 σ [vI 1] μ ∧ (∀ ov μ', cl_X4_needState.2.2.2.1 σ [vI 1] μ ov μ' → Run fam0 none cd_X4_cash ER ET 29 3 [some (vR 0 0), some (vI c), some (vI v)] (ov.toList ++ []) μ') ∧ ∀ kx, cl_X4_needState.2.2.2.2 σ [vI 1] μ kx → thr cd_X4_cash ET (Run fam0 none cd_X4_cash ER ET) 26 3 [some (vR 0 0), some (vI c), some (vI v)] μ kx
    refine ⟨μ, ⟨rfl, show True from True.intro⟩, fun ov μ' hq => ?_, fun kx hk => (by have hk : kx = 3 ∧ ¬ ((1 : Int) ≠ 0) := hk; exact hET kx (by omega))⟩
    obtain ⟨hov, hmu, hc5⟩ : ov = none ∧ μ' = μ ∧ ((1 : Int) ≠ 0) := hq
    rw [hov, hmu]
    show Run fam0 none cd_X4_cash ER ET 29 3 [some (vR 0 0), some (vI c), some (vI v)] [] μ
    refine run_k 2 ?_
    show (0 ≤ v → Run fam0 none cd_X4_cash ER ET 50 3 [some (vR 0 0), some (vI c), some (vI v)] [] μ) ∧ (v < 0 → Run fam0 none cd_X4_cash ER ET 33 3 [some (vR 0 0), some (vI c), some (vI v)] [] μ)
    refine ⟨fun c6 => ?_, fun c6 => ?_⟩
    · refine run_k 3 ?_
      show ∃ σ : Mm, cl_X4_needState.2.2.1 σ [vI 1] μ ∧ (∀ ov μ', cl_X4_needState.2.2.2.1 σ [vI 1] μ ov μ' → Run fam0 none cd_X4_cash ER ET 58 4 [some (vR 0 0), some (vI c), some (vI v)] (ov.toList ++ []) μ') ∧ ∀ kx, cl_X4_needState.2.2.2.2 σ [vI 1] μ kx → thr cd_X4_cash ET (Run fam0 none cd_X4_cash ER ET) 55 4 [some (vR 0 0), some (vI c), some (vI v)] μ kx
      refine ⟨μ, ⟨rfl, show True from True.intro⟩, fun ov μ' hq => ?_, fun kx hk => (by have hk : kx = 3 ∧ ¬ ((1 : Int) ≠ 0) := hk; exact hET kx (by omega))⟩
      obtain ⟨hov, hmu, hc7⟩ : ov = none ∧ μ' = μ ∧ ((1 : Int) ≠ 0) := hq
      rw [hov, hmu]
      show Run fam0 none cd_X4_cash ER ET 58 4 [some (vR 0 0), some (vI c), some (vI v)] [] μ
      refine run_k 14 ?_
      show (0 ≤ c ∧ c < 6) ∧ ((0 ≤ c ∧ c < 6) ∧ ((0 ≤ c ∧ c < 6) ∧ (ER (some (vL ((st μ 3 0 c (w64 ((μ 3 0 c) + v))) 3 0 c))) (st μ 3 0 c (w64 ((μ 3 0 c) + v))))))
      refine ⟨by omega, ?_⟩
      refine ⟨by omega, ?_⟩
      refine ⟨by omega, ?_⟩
      exact hER _ _ ⟨by omega, by rw [st_s], al_s3 _ _ _ _, PB_st (PB_rf hP0) (by decide)⟩
    · refine run_k 3 ?_
      show ∃ σ : Mm, cl_X4_equity.2.2.1 σ [vR 0 0, vI c] μ ∧ (∀ ov μ', cl_X4_equity.2.2.2.1 σ [vR 0 0, vI c] μ ov μ' → Run fam0 none cd_X4_cash ER ET 38 3 [some (vR 0 0), some (vI c), some (vI v)] (ov.toList ++ []) μ') ∧ ∀ kx, cl_X4_equity.2.2.2.2 σ [vR 0 0, vI c] μ kx → thr cd_X4_cash ET (Run fam0 none cd_X4_cash ER ET) 35 3 [some (vR 0 0), some (vI c), some (vI v)] μ kx
      refine ⟨μ, ⟨rfl, show (0 ≤ c ∧ c ≤ 5) from by omega⟩, fun ov μ' hq => ?_, fun k hk => hk.elim⟩
      obtain ⟨hov, hmu⟩ : ov = some (vL (equityF (al μ) c)) ∧ μ' = μ := hq
      rw [hov, hmu]
      show Run fam0 none cd_X4_cash ER ET 38 3 [some (vR 0 0), some (vI c), some (vI v)] [vL (equityF (al μ) c)] μ
      refine run_k 6 ?_
      show ∃ σ : Mm, cl_X4_need.2.2.1 σ [vR 0 0, vI c] μ ∧ (∀ ov μ', cl_X4_need.2.2.2.1 σ [vR 0 0, vI c] μ ov μ' → Run fam0 none cd_X4_cash ER ET 46 3 [some (vR 0 0), some (vI c), some (vI v)] (ov.toList ++ [vL (w64 ((equityF (al μ) c) + v))]) μ') ∧ ∀ kx, cl_X4_need.2.2.2.2 σ [vR 0 0, vI c] μ kx → thr cd_X4_cash ET (Run fam0 none cd_X4_cash ER ET) 43 3 [some (vR 0 0), some (vI c), some (vI v)] μ kx
      refine ⟨μ, ⟨rfl, show (0 ≤ c ∧ c ≤ 5) from by omega⟩, fun ov μ' hq => ?_, fun k hk => hk.elim⟩
      obtain ⟨hov, hmu⟩ : ov = some (vL (needF (al μ) c)) ∧ μ' = μ := hq
      rw [hov, hmu]
      show Run fam0 none cd_X4_cash ER ET 46 3 [some (vR 0 0), some (vI c), some (vI v)] [vL (needF (al μ) c), vL (w64 ((equityF (al μ) c) + v))] μ
      refine run_k 2 ?_
      show ((cmpL (w64 ((equityF (al μ) c) + v)) (needF (al μ) c)) < 0 → Run fam0 none cd_X4_cash ER ET 54 3 [some (vR 0 0), some (vI c), some (vI v)] [] μ) ∧ (0 ≤ (cmpL (w64 ((equityF (al μ) c) + v)) (needF (al μ) c)) → Run fam0 none cd_X4_cash ER ET 50 3 [some (vR 0 0), some (vI c), some (vI v)] [] μ)
      refine ⟨fun c11 => ?_, fun c11 => ?_⟩
      · replace c11 := cmpL_n.mp c11
        refine run_k 2 ?_
        show ∃ σ : Mm, cl_X4_needState.2.2.1 σ [vI 0] μ ∧ (∀ ov μ', cl_X4_needState.2.2.2.1 σ [vI 0] μ ov μ' → Run fam0 none cd_X4_cash ER ET 58 4 [some (vR 0 0), some (vI c), some (vI v)] (ov.toList ++ []) μ') ∧ ∀ kx, cl_X4_needState.2.2.2.2 σ [vI 0] μ kx → thr cd_X4_cash ET (Run fam0 none cd_X4_cash ER ET) 55 4 [some (vR 0 0), some (vI c), some (vI v)] μ kx
        refine ⟨μ, ⟨rfl, show True from True.intro⟩, fun ov μ' hq => ?_, fun kx hk => (by have hk : kx = 3 ∧ ¬ ((0 : Int) ≠ 0) := hk; exact hET kx (by omega))⟩
        exact absurd rfl hq.2.2
      · replace c11 := (show ¬ _ from fun q => (Int.not_lt.mpr c11) (cmpL_n.mpr q))
        refine run_k 3 ?_
        show ∃ σ : Mm, cl_X4_needState.2.2.1 σ [vI 1] μ ∧ (∀ ov μ', cl_X4_needState.2.2.2.1 σ [vI 1] μ ov μ' → Run fam0 none cd_X4_cash ER ET 58 4 [some (vR 0 0), some (vI c), some (vI v)] (ov.toList ++ []) μ') ∧ ∀ kx, cl_X4_needState.2.2.2.2 σ [vI 1] μ kx → thr cd_X4_cash ET (Run fam0 none cd_X4_cash ER ET) 55 4 [some (vR 0 0), some (vI c), some (vI v)] μ kx
        refine ⟨μ, ⟨rfl, show True from True.intro⟩, fun ov μ' hq => ?_, fun kx hk => (by have hk : kx = 3 ∧ ¬ ((1 : Int) ≠ 0) := hk; exact hET kx (by omega))⟩
        obtain ⟨hov, hmu, hc13⟩ : ov = none ∧ μ' = μ ∧ ((1 : Int) ≠ 0) := hq
        rw [hov, hmu]
        show Run fam0 none cd_X4_cash ER ET 58 4 [some (vR 0 0), some (vI c), some (vI v)] [] μ
        refine run_k 14 ?_
        show (0 ≤ c ∧ c < 6) ∧ ((0 ≤ c ∧ c < 6) ∧ ((0 ≤ c ∧ c < 6) ∧ (ER (some (vL ((st μ 3 0 c (w64 ((μ 3 0 c) + v))) 3 0 c))) (st μ 3 0 c (w64 ((μ 3 0 c) + v))))))
        refine ⟨by omega, ?_⟩
        refine ⟨by omega, ?_⟩
        refine ⟨by omega, ?_⟩
        exact hER _ _ ⟨by omega, by rw [st_s], al_s3 _ _ _ _, PB_st (PB_rf hP0) (by decide)⟩
theorem vw_X4_86 : ∀ w ∈ ([.methodLink RX4 86 yX4_needState, .static yX4_needState, .initialized yX4_needState.cls, .code yX4_needState cX4_needState 1 none] : List Cond), w ∈ wm := wm_ps _ [360, 361, 50, 362] (by decide +kernel)
theorem vw_X4_81 : ∀ w ∈ ([.methodLink RX4 81 yX4_needClient, .static yX4_needClient, .initialized yX4_needClient.cls, .code yX4_needClient cX4_needClient 1 none] : List Cond), w ∈ wm := wm_ps _ [354, 355, 50, 356] (by decide +kernel)
set_option maxRecDepth 20000 in
theorem con_X4_cash (l : Launch) (htr : l.stackTraces = false) (σ : Mm) : CON fam0 63 l yX4_cash (Cond.code yX4_cash cX4_cash 3 (some .long) :: wm) 7 104 5 (cl_X4_cash.2.2.1 σ) (cl_X4_cash.2.2.2.1 σ) (cl_X4_cash.2.2.2.2 σ) :=
  con_of (cd := cd_X4_cash) (own := RX4) (rk := 2) (sc_of htr (by decide) k_X4_cash_ok (by decide +kernel) co_X4_ok fl_X4_ok (all_cons ⟨RX4, yX4_equity, cX4_equity, 5, (some .long), 1, 22, 1, con_X4_equity l htr, rfl, vw_X4_90, ⟨rfl, by decide, by decide, by decide +kernel⟩, ⟨by decide, by decide⟩, fun σ as μ h => ⟨0, 0, _, h.1, rfl, TX4, 17, rfl⟩⟩ (all_cons ⟨RX4, yX4_need, cX4_need, 9, (some .long), 1, 22, 1, con_X4_need l htr, rfl, vw_X4_94, ⟨rfl, by decide, by decide, by decide +kernel⟩, ⟨by decide, by decide⟩, fun σ as μ h => ⟨0, 0, _, h.1, rfl, TX4, 17, rfl⟩⟩ all_nil)) (all_cons ⟨yX4_needClient, cX4_needClient, 1, none, 6, 82, con_X4_needClient l htr, vw_X4_81, ⟨by decide, by decide, by decide +kernel⟩, ⟨by decide, by decide⟩⟩ (all_cons ⟨yX4_needRange, cX4_needRange, 3, none, 6, 82, con_X4_needRange l htr, vw_X4_77, ⟨by decide, by decide, by decide +kernel⟩, ⟨by decide, by decide⟩⟩ (all_cons ⟨yX4_needState, cX4_needState, 1, none, 6, 82, con_X4_needState l htr, vw_X4_86, ⟨by decide, by decide, by decide +kernel⟩, ⟨by decide, by decide⟩⟩ all_nil))) all_nil) rfl (by decide +kernel) rfl rfl rfl rfl (fun as μ hs => by rw [hs.1]; exact Nat.le_of_ble_eq_true rfl)
    (fun as μ hs hM hrg => by
      have hs1 := hs.1
      have hmem : ∀ v, v ∈ ([vR 0 0, vI (iaI as 1), vI (iaI as 2)] : List AV) → rg fam0 v := by rw [← hs1]; exact hrg
      have key := run_X4_cash (ER := cl_X4_cash.2.2.2.1 σ as μ) (ET := fun k μ' => cl_X4_cash.2.2.2.2 σ as μ k ∧ μ' = μ) σ μ (iaI as 1) (iaI as 2) hM (hmem (vI (iaI as 1)) (by simp)) (hmem (vI (iaI as 2)) (by simp)) hs.2 (fun ov μ' h => h) (fun k h => ⟨h, rfl⟩)
      have e : entL as 3 = [some (vR 0 0), some (vI (iaI as 1)), some (vI (iaI as 2))] := by rw [hs1]; rfl
      rw [e]; exact key)
/-! ### Primeborrow.allow -/
def cl_X4_allow : Cl := (3, 2, fun σ as μ => as = [vR 0 0, vI (iaI as 1), vI (iaI as 2)] ∧ (CV μ ∧ ((iaI as 2) = 0 ∨ (iaI as 2) = 1)), fun σ as μ ov μ' => ((0 ≤ (iaI as 1) ∧ (iaI as 1) ≤ 5) ∧ (μ 5 0 (iaI as 1) = 0)) ∧ ov = some (vI (μ 4 0 (iaI as 1))) ∧ al μ' = st (al μ) 43 0 (iaI as 1) (iaI as 2) ∧ PB μ μ', fun σ as μ k => (k = 1 ∧ ¬ (0 ≤ (iaI as 1) ∧ (iaI as 1) ≤ 5)) ∨ (k = 3 ∧ (0 ≤ (iaI as 1) ∧ (iaI as 1) ≤ 5) ∧ ¬ (μ 5 0 (iaI as 1) = 0)))
def cd_X4_allow : Cd := mkcd k_X4_allow co_X4 fl_X4 [] [(81, cl_X4_needClient), (86, cl_X4_needState)] [] [] 4 3 2
set_option maxHeartbeats 4000000 in
set_option maxRecDepth 20000 in
theorem run_X4_allow {ER : Option AV → Mm → Prop} {ET : Nat → Mm → Prop} (σ μ : Mm) (c m : Int) (hM : MR fam0 μ) (h_c : in32 c) (h_m : in32 m) (hP : CV μ ∧ (m = 0 ∨ m = 1)) (hER : ∀ ov μ', (((0 ≤ c ∧ c ≤ 5) ∧ (μ 5 0 c = 0)) ∧ ov = some (vI (μ 4 0 c)) ∧ al μ' = st (al μ) 43 0 c m ∧ PB μ μ') → ER ov μ') (hET : ∀ k, ((k = 1 ∧ ¬ (0 ≤ c ∧ c ≤ 5)) ∨ (k = 3 ∧ (0 ≤ c ∧ c ≤ 5) ∧ ¬ (μ 5 0 c = 0))) → ET k μ) : Run fam0 none cd_X4_allow ER ET 0 0 [some (vR 0 0), some (vI c), some (vI m), none] [] μ := by
  obtain ⟨hP0, hm⟩ := hP
  obtain ⟨hK, hW, hX, hC⟩ := hP0
  have hbl := hX.2.2.2 c
  have e43 := al_43 μ c
  have h4 : μ 5 0 c = 0 → 0 ≤ c → c ≤ 5 → μ 4 0 c = 0 ∨ μ 4 0 c = 1 := fun q c0 c1 => by
    rw [if_neg (by omega)] at e43
    rw [← e43]; exact (hbl c0 c1).1
  refine run_k 2 ?_
  show ∃ σ : Mm, cl_X4_needClient.2.2.1 σ [vI c] μ ∧ (∀ ov μ', cl_X4_needClient.2.2.2.1 σ [vI c] μ ov μ' → Run fam0 none cd_X4_allow ER ET 4 1 [some (vR 0 0), some (vI c), some (vI m), none] (ov.toList ++ []) μ') ∧ ∀ kx, cl_X4_needClient.2.2.2.2 σ [vI c] μ kx → thr cd_X4_allow ET (Run fam0 none cd_X4_allow ER ET) 1 1 [some (vR 0 0), some (vI c), some (vI m), none] μ kx
  refine ⟨μ, ⟨rfl, show True from True.intro⟩, fun ov μ' hq => ?_, fun kx hk => (by have hk : kx = 1 ∧ ¬ (0 ≤ c ∧ c ≤ 5) := hk; exact hET kx (by omega))⟩
  obtain ⟨hov, hmu, hc1⟩ : ov = none ∧ μ' = μ ∧ (0 ≤ c ∧ c ≤ 5) := hq
  rw [hov, hmu]
  show Run fam0 none cd_X4_allow ER ET 4 1 [some (vR 0 0), some (vI c), some (vI m), none] [] μ
  refine run_k 5 ?_
  show (0 ≤ c ∧ c < 6) ∧ (((μ 5 0 c) ≠ 0 → Run fam0 none cd_X4_allow ER ET 17 1 [some (vR 0 0), some (vI c), some (vI m), none] [] μ) ∧ ((μ 5 0 c) = 0 → Run fam0 none cd_X4_allow ER ET 13 1 [some (vR 0 0), some (vI c), some (vI m), none] [] μ))
  refine ⟨by omega, ?_⟩
  refine ⟨fun c2 => ?_, fun c2 => ?_⟩
  · refine run_k 2 ?_
    show ∃ σ : Mm, cl_X4_needState.2.2.1 σ [vI 0] μ ∧ (∀ ov μ', cl_X4_needState.2.2.2.1 σ [vI 0] μ ov μ' → Run fam0 none cd_X4_allow ER ET 21 2 [some (vR 0 0), some (vI c), some (vI m), none] (ov.toList ++ []) μ') ∧ ∀ kx, cl_X4_needState.2.2.2.2 σ [vI 0] μ kx → thr cd_X4_allow ET (Run fam0 none cd_X4_allow ER ET) 18 2 [some (vR 0 0), some (vI c), some (vI m), none] μ kx
    refine ⟨μ, ⟨rfl, show True from True.intro⟩, fun ov μ' hq => ?_, fun kx hk => (by have hk : kx = 3 ∧ ¬ ((0 : Int) ≠ 0) := hk; exact hET kx (by omega))⟩
    exact absurd rfl hq.2.2
  · refine run_k 3 ?_
    show ∃ σ : Mm, cl_X4_needState.2.2.1 σ [vI 1] μ ∧ (∀ ov μ', cl_X4_needState.2.2.2.1 σ [vI 1] μ ov μ' → Run fam0 none cd_X4_allow ER ET 21 2 [some (vR 0 0), some (vI c), some (vI m), none] (ov.toList ++ []) μ') ∧ ∀ kx, cl_X4_needState.2.2.2.2 σ [vI 1] μ kx → thr cd_X4_allow ET (Run fam0 none cd_X4_allow ER ET) 18 2 [some (vR 0 0), some (vI c), some (vI m), none] μ kx
    refine ⟨μ, ⟨rfl, show True from True.intro⟩, fun ov μ' hq => ?_, fun kx hk => (by have hk : kx = 3 ∧ ¬ ((1 : Int) ≠ 0) := hk; exact hET kx (by omega))⟩
    obtain ⟨hov, hmu, hc4⟩ : ov = none ∧ μ' = μ ∧ ((1 : Int) ≠ 0) := hq
    rw [hov, hmu]
    show Run fam0 none cd_X4_allow ER ET 21 2 [some (vR 0 0), some (vI c), some (vI m), none] [] μ
    refine run_k 12 ?_
    show (0 ≤ c ∧ c < 6) ∧ ((0 ≤ c ∧ c < 6) ∧ ((m = 0 ∨ m = 1) ∧ (((μ 4 0 c) = 0 ∨ (μ 4 0 c) = 1) ∧ ER (some (vI (μ 4 0 c))) (st μ 4 0 c m))))
    refine ⟨by omega, ?_⟩
    refine ⟨by omega, ?_⟩
    refine ⟨by omega, ?_⟩
    refine ⟨by omega, ?_⟩
    exact hER _ _ ⟨by omega, rfl, al_s4 (by omega), PB_st (PB_rf ⟨hK, hW, hX, hC⟩) (by decide)⟩
set_option maxRecDepth 20000 in
theorem con_X4_allow (l : Launch) (htr : l.stackTraces = false) (σ : Mm) : CON fam0 63 l yX4_allow (Cond.code yX4_allow cX4_allow 4 (some .boolean) :: wm) 7 102 2 (cl_X4_allow.2.2.1 σ) (cl_X4_allow.2.2.2.1 σ) (cl_X4_allow.2.2.2.2 σ) :=
  con_of (cd := cd_X4_allow) (own := RX4) (rk := 3) (sc_of htr (by decide) k_X4_allow_ok (by decide +kernel) co_X4_ok fl_X4_ok all_nil (all_cons ⟨yX4_needClient, cX4_needClient, 1, none, 6, 82, con_X4_needClient l htr, vw_X4_81, ⟨by decide, by decide, by decide +kernel⟩, ⟨by decide, by decide⟩⟩ (all_cons ⟨yX4_needState, cX4_needState, 1, none, 6, 82, con_X4_needState l htr, vw_X4_86, ⟨by decide, by decide, by decide +kernel⟩, ⟨by decide, by decide⟩⟩ all_nil)) all_nil) rfl (by decide +kernel) rfl rfl rfl rfl (fun as μ hs => by rw [hs.1]; exact Nat.le_of_ble_eq_true rfl)
    (fun as μ hs hM hrg => by
      have hs1 := hs.1
      have hmem : ∀ v, v ∈ ([vR 0 0, vI (iaI as 1), vI (iaI as 2)] : List AV) → rg fam0 v := by rw [← hs1]; exact hrg
      have key := run_X4_allow (ER := cl_X4_allow.2.2.2.1 σ as μ) (ET := fun k μ' => cl_X4_allow.2.2.2.2 σ as μ k ∧ μ' = μ) σ μ (iaI as 1) (iaI as 2) hM (hmem (vI (iaI as 1)) (by simp)) (hmem (vI (iaI as 2)) (by simp)) hs.2 (fun ov μ' h => h) (fun k h => ⟨h, rfl⟩)
      have e : entL as 4 = [some (vR 0 0), some (vI (iaI as 1)), some (vI (iaI as 2)), none] := by rw [hs1]; rfl
      rw [e]; exact key)
theorem KI_off {μ : Mm} (hK : KI μ) {l s n f : Int} (hl : 0 ≤ l ∧ l ≤ 3) (hs : 0 ≤ s ∧ s ≤ 3) (hn : 0 ≤ n ∧ n ≤ 500) (hf : 0 ≤ f ∧ f ≤ 10000) (hm : μ 9 l s + n ≤ 2000) : KI (st (st μ 9 l s (μ 9 l s + n)) 11 l s f) := by
  have ha : al (st (st μ 9 l s (μ 9 l s + n)) 11 l s f) = st (st (al μ) 45 0 (4 * l + s) (μ 9 l s + n)) 46 0 (4 * l + s) f := by rw [al_s11 _ _ _ _ hs, al_s9 _ _ _ _ hs]
  have hkl := ki_len hK hl hs
  obtain ⟨hL, hP, h5, h6⟩ := hK.1
  have q : ∀ (g : Nat) (t j : Int), g ≠ 45 → g ≠ 46 → st (st (al μ) 45 0 (4 * l + s) (μ 9 l s + n)) 46 0 (4 * l + s) f g t j = al μ g t j := fun g t j q1 q2 => by rw [st_o q2, st_o q1]
  have ql := lentF_cg (q 38 0 11 (by decide) (by decide)) (fun j => q 48 0 j (by decide) (by decide)) (fun j => q 49 0 j (by decide) (by decide)) (fun j => q 51 0 j (by decide) (by decide))
  refine KI_cg hK ?_ (by rw [ha]; exact q 38 0 11 (by decide) (by decide)) (fun g j z => by rw [ha]; exact q g 0 j (by omega) (by omega)) (fun g r j z => (st_o (by omega)).trans (st_o (by omega)))
  rw [ha]
  refine ⟨Lk_cg hL (q 38 0 11 (by decide) (by decide)) (fun j => q 48 0 j (by decide) (by decide)) (fun j => q 49 0 j (by decide) (by decide)) (fun j => q 50 0 j (by decide) (by decide)) (fun j => q 51 0 j (by decide) (by decide)) (fun j => q 52 0 j (by decide) (by decide)), fun i i0 i1 => by rw [q 42 0 i (by decide) (by decide)]; exact hP i i0 i1, fun c t c0 c1 t0 t1 => by rw [ql, q 42 0 _ (by decide) (by decide)]; exact h5 c t c0 c1 t0 t1, fun a t a0 a1 t0 t1 => ?_⟩
  have h := h6 a t a0 a1 t0 t1
  have h45 : ∀ j, st (st (al μ) 45 0 (4 * l + s) (μ 9 l s + n)) 46 0 (4 * l + s) f 45 0 j = if j = 4 * l + s then μ 9 l s + n else al μ 45 0 j := fun j => by
    rw [st_o (show (45 : Nat) ≠ 46 by decide)]
    by_cases q : j = 4 * l + s
    · rw [if_pos q, q]; exact st_s
    · rw [if_neg q]; exact st_i q
  have h46 : ∀ j, st (st (al μ) 45 0 (4 * l + s) (μ 9 l s + n)) 46 0 (4 * l + s) f 46 0 j = if j = 4 * l + s then f else al μ 46 0 j := fun j => by
    by_cases q : j = 4 * l + s
    · rw [if_pos q, q]; exact st_s
    · rw [if_neg q, st_i q]; exact st_o (by decide)
  rw [ql, h45, h46]
  by_cases z : 4 * a + t = 4 * l + s
  · rw [if_pos z, if_pos z]
    have : a = l ∧ t = s := by omega
    rw [this.1, this.2]
    rw [hkl.2.2.1] at hkl
    omega
  · rw [if_neg z, if_neg z]
    exact h
/-! ### Primeborrow.offer -/
def cl_X4_offer : Cl := (5, 5, fun σ as μ => as = [vR 0 0, vI (iaI as 1), vI (iaI as 2), vI (iaI as 3), vI (iaI as 4)] ∧ (CV μ), fun σ as μ ov μ' => (((0 ≤ (iaI as 1) ∧ (iaI as 1) ≤ 3) ∧ (0 ≤ (iaI as 2) ∧ (iaI as 2) ≤ 3)) ∧ ((0 ≤ (iaI as 3) ∧ (iaI as 3) ≤ 500) ∧ (0 ≤ (iaI as 4) ∧ (iaI as 4) ≤ 10000)) ∧ (μ 9 (iaI as 1) (iaI as 2) + (iaI as 3) ≤ 2000)) ∧ ov = some (vI (μ 9 (iaI as 1) (iaI as 2) + (iaI as 3))) ∧ al μ' = st (st (al μ) 45 0 (4 * (iaI as 1) + (iaI as 2)) (μ 9 (iaI as 1) (iaI as 2) + (iaI as 3))) 46 0 (4 * (iaI as 1) + (iaI as 2)) (iaI as 4) ∧ PB μ μ', fun σ as μ k => (k = 1 ∧ ¬ ((0 ≤ (iaI as 1) ∧ (iaI as 1) ≤ 3) ∧ (0 ≤ (iaI as 2) ∧ (iaI as 2) ≤ 3))) ∨ (k = 2 ∧ ((0 ≤ (iaI as 1) ∧ (iaI as 1) ≤ 3) ∧ (0 ≤ (iaI as 2) ∧ (iaI as 2) ≤ 3)) ∧ ¬ ((0 ≤ (iaI as 3) ∧ (iaI as 3) ≤ 500) ∧ (0 ≤ (iaI as 4) ∧ (iaI as 4) ≤ 10000))) ∨ (k = 3 ∧ ((0 ≤ (iaI as 1) ∧ (iaI as 1) ≤ 3) ∧ (0 ≤ (iaI as 2) ∧ (iaI as 2) ≤ 3)) ∧ ((0 ≤ (iaI as 3) ∧ (iaI as 3) ≤ 500) ∧ (0 ≤ (iaI as 4) ∧ (iaI as 4) ≤ 10000)) ∧ ¬ (μ 9 (iaI as 1) (iaI as 2) + (iaI as 3) ≤ 2000)))
def cd_X4_offer : Cd := mkcd k_X4_offer co_X4 fl_X4 [] [(97, cl_X4_needLender), (72, cl_X4_needStock), (77, cl_X4_needRange), (86, cl_X4_needState)] [] [] 5 1 5
set_option maxHeartbeats 4000000 in
set_option maxRecDepth 20000 in
theorem run_X4_offer {ER : Option AV → Mm → Prop} {ET : Nat → Mm → Prop} (σ μ : Mm) (l s n f : Int) (hM : MR fam0 μ) (h_l : in32 l) (h_s : in32 s) (h_n : in32 n) (h_f : in32 f) (hP : CV μ) (hER : ∀ ov μ', ((((0 ≤ l ∧ l ≤ 3) ∧ (0 ≤ s ∧ s ≤ 3)) ∧ ((0 ≤ n ∧ n ≤ 500) ∧ (0 ≤ f ∧ f ≤ 10000)) ∧ (μ 9 l s + n ≤ 2000)) ∧ ov = some (vI (μ 9 l s + n)) ∧ al μ' = st (st (al μ) 45 0 (4 * l + s) (μ 9 l s + n)) 46 0 (4 * l + s) f ∧ PB μ μ') → ER ov μ') (hET : ∀ k, ((k = 1 ∧ ¬ ((0 ≤ l ∧ l ≤ 3) ∧ (0 ≤ s ∧ s ≤ 3))) ∨ (k = 2 ∧ ((0 ≤ l ∧ l ≤ 3) ∧ (0 ≤ s ∧ s ≤ 3)) ∧ ¬ ((0 ≤ n ∧ n ≤ 500) ∧ (0 ≤ f ∧ f ≤ 10000))) ∨ (k = 3 ∧ ((0 ≤ l ∧ l ≤ 3) ∧ (0 ≤ s ∧ s ≤ 3)) ∧ ((0 ≤ n ∧ n ≤ 500) ∧ (0 ≤ f ∧ f ≤ 10000)) ∧ ¬ (μ 9 l s + n ≤ 2000))) → ET k μ) : Run fam0 none cd_X4_offer ER ET 0 0 [some (vR 0 0), some (vI l), some (vI s), some (vI n), some (vI f)] [] μ := by
  have hP0 := hP
  obtain ⟨hK, hW, hX, hC⟩ := hP
  have hkl : (0 ≤ l ∧ l ≤ 3) → (0 ≤ s ∧ s ≤ 3) → _ := fun q1 q2 => ki_len hK q1 q2
  refine run_k 2 ?_
  show ∃ σ : Mm, cl_X4_needLender.2.2.1 σ [vI l] μ ∧ (∀ ov μ', cl_X4_needLender.2.2.2.1 σ [vI l] μ ov μ' → Run fam0 none cd_X4_offer ER ET 4 1 [some (vR 0 0), some (vI l), some (vI s), some (vI n), some (vI f)] (ov.toList ++ []) μ') ∧ ∀ kx, cl_X4_needLender.2.2.2.2 σ [vI l] μ kx → thr cd_X4_offer ET (Run fam0 none cd_X4_offer ER ET) 1 1 [some (vR 0 0), some (vI l), some (vI s), some (vI n), some (vI f)] μ kx
  refine ⟨μ, ⟨rfl, show True from True.intro⟩, fun ov μ' hq => ?_, fun kx hk => (by have hk : kx = 1 ∧ ¬ (0 ≤ l ∧ l ≤ 3) := hk; exact hET kx (by omega))⟩
  obtain ⟨hov, hmu, hc1⟩ : ov = none ∧ μ' = μ ∧ (0 ≤ l ∧ l ≤ 3) := hq
  rw [hov, hmu]
  show Run fam0 none cd_X4_offer ER ET 4 1 [some (vR 0 0), some (vI l), some (vI s), some (vI n), some (vI f)] [] μ
  refine run_k 2 ?_
  show ∃ σ : Mm, cl_X4_needStock.2.2.1 σ [vI s] μ ∧ (∀ ov μ', cl_X4_needStock.2.2.2.1 σ [vI s] μ ov μ' → Run fam0 none cd_X4_offer ER ET 8 2 [some (vR 0 0), some (vI l), some (vI s), some (vI n), some (vI f)] (ov.toList ++ []) μ') ∧ ∀ kx, cl_X4_needStock.2.2.2.2 σ [vI s] μ kx → thr cd_X4_offer ET (Run fam0 none cd_X4_offer ER ET) 5 2 [some (vR 0 0), some (vI l), some (vI s), some (vI n), some (vI f)] μ kx
  refine ⟨μ, ⟨rfl, show True from True.intro⟩, fun ov μ' hq => ?_, fun kx hk => (by have hk : kx = 1 ∧ ¬ (0 ≤ s ∧ s ≤ 3) := hk; exact hET kx (by omega))⟩
  obtain ⟨hov, hmu, hc2⟩ : ov = none ∧ μ' = μ ∧ (0 ≤ s ∧ s ≤ 3) := hq
  rw [hov, hmu]
  show Run fam0 none cd_X4_offer ER ET 8 2 [some (vR 0 0), some (vI l), some (vI s), some (vI n), some (vI f)] [] μ
  refine run_k 4 ?_
  show ∃ σ : Mm, cl_X4_needRange.2.2.1 σ [vI n, vI 0, vI 500] μ ∧ (∀ ov μ', cl_X4_needRange.2.2.2.1 σ [vI n, vI 0, vI 500] μ ov μ' → Run fam0 none cd_X4_offer ER ET 16 3 [some (vR 0 0), some (vI l), some (vI s), some (vI n), some (vI f)] (ov.toList ++ []) μ') ∧ ∀ kx, cl_X4_needRange.2.2.2.2 σ [vI n, vI 0, vI 500] μ kx → thr cd_X4_offer ET (Run fam0 none cd_X4_offer ER ET) 13 3 [some (vR 0 0), some (vI l), some (vI s), some (vI n), some (vI f)] μ kx
  refine ⟨μ, ⟨rfl, show True from True.intro⟩, fun ov μ' hq => ?_, fun kx hk => (by have hk : kx = 2 ∧ ¬ (0 ≤ n ∧ n ≤ 500) := hk; exact hET kx (by omega))⟩
  obtain ⟨hov, hmu, hc3⟩ : ov = none ∧ μ' = μ ∧ (0 ≤ n ∧ n ≤ 500) := hq
  rw [hov, hmu]
  show Run fam0 none cd_X4_offer ER ET 16 3 [some (vR 0 0), some (vI l), some (vI s), some (vI n), some (vI f)] [] μ
  refine run_k 4 ?_
  show ∃ σ : Mm, cl_X4_needRange.2.2.1 σ [vI f, vI 0, vI 10000] μ ∧ (∀ ov μ', cl_X4_needRange.2.2.2.1 σ [vI f, vI 0, vI 10000] μ ov μ' → Run fam0 none cd_X4_offer ER ET 25 4 [some (vR 0 0), some (vI l), some (vI s), some (vI n), some (vI f)] (ov.toList ++ []) μ') ∧ ∀ kx, cl_X4_needRange.2.2.2.2 σ [vI f, vI 0, vI 10000] μ kx → thr cd_X4_offer ET (Run fam0 none cd_X4_offer ER ET) 22 4 [some (vR 0 0), some (vI l), some (vI s), some (vI n), some (vI f)] μ kx
  refine ⟨μ, ⟨rfl, show True from True.intro⟩, fun ov μ' hq => ?_, fun kx hk => (by have hk : kx = 2 ∧ ¬ (0 ≤ f ∧ f ≤ 10000) := hk; exact hET kx (by omega))⟩
  obtain ⟨hov, hmu, hc4⟩ : ov = none ∧ μ' = μ ∧ (0 ≤ f ∧ f ≤ 10000) := hq
  rw [hov, hmu]
  show Run fam0 none cd_X4_offer ER ET 25 4 [some (vR 0 0), some (vI l), some (vI s), some (vI n), some (vI f)] [] μ
  refine run_k 10 ?_
  show (0 ≤ l ∧ l < 4) ∧ ((0 ≤ s ∧ s < 4) ∧ ((2000 < (w32 ((μ 9 l s) + n)) → Run fam0 none cd_X4_offer ER ET 45 4 [some (vR 0 0), some (vI l), some (vI s), some (vI n), some (vI f)] [] μ) ∧ ((w32 ((μ 9 l s) + n)) ≤ 2000 → Run fam0 none cd_X4_offer ER ET 41 4 [some (vR 0 0), some (vI l), some (vI s), some (vI n), some (vI f)] [] μ)))
  rw [show w32 ((μ 9 l s) + n) = (μ 9 l s) + n from w32_id (by simp only [in32]; omega)]
  refine ⟨by omega, ?_⟩
  refine ⟨by omega, ?_⟩
  refine ⟨fun c5 => ?_, fun c5 => ?_⟩
  · refine run_k 2 ?_
    show ∃ σ : Mm, cl_X4_needState.2.2.1 σ [vI 0] μ ∧ (∀ ov μ', cl_X4_needState.2.2.2.1 σ [vI 0] μ ov μ' → Run fam0 none cd_X4_offer ER ET 49 5 [some (vR 0 0), some (vI l), some (vI s), some (vI n), some (vI f)] (ov.toList ++ []) μ') ∧ ∀ kx, cl_X4_needState.2.2.2.2 σ [vI 0] μ kx → thr cd_X4_offer ET (Run fam0 none cd_X4_offer ER ET) 46 5 [some (vR 0 0), some (vI l), some (vI s), some (vI n), some (vI f)] μ kx
    refine ⟨μ, ⟨rfl, show True from True.intro⟩, fun ov μ' hq => ?_, fun kx hk => (by have hk : kx = 3 ∧ ¬ ((0 : Int) ≠ 0) := hk; exact hET kx (by omega))⟩
    exact absurd rfl hq.2.2
  · refine run_k 3 ?_
    show ∃ σ : Mm, cl_X4_needState.2.2.1 σ [vI 1] μ ∧ (∀ ov μ', cl_X4_needState.2.2.2.1 σ [vI 1] μ ov μ' → Run fam0 none cd_X4_offer ER ET 49 5 [some (vR 0 0), some (vI l), some (vI s), some (vI n), some (vI f)] (ov.toList ++ []) μ') ∧ ∀ kx, cl_X4_needState.2.2.2.2 σ [vI 1] μ kx → thr cd_X4_offer ET (Run fam0 none cd_X4_offer ER ET) 46 5 [some (vR 0 0), some (vI l), some (vI s), some (vI n), some (vI f)] μ kx
    refine ⟨μ, ⟨rfl, show True from True.intro⟩, fun ov μ' hq => ?_, fun kx hk => (by have hk : kx = 3 ∧ ¬ ((1 : Int) ≠ 0) := hk; exact hET kx (by omega))⟩
    obtain ⟨hov, hmu, hc7⟩ : ov = none ∧ μ' = μ ∧ ((1 : Int) ≠ 0) := hq
    rw [hov, hmu]
    show Run fam0 none cd_X4_offer ER ET 49 5 [some (vR 0 0), some (vI l), some (vI s), some (vI n), some (vI f)] [] μ
    refine run_k 24 ?_
    show (0 ≤ l ∧ l < 4) ∧ ((0 ≤ s ∧ s < 4) ∧ ((0 ≤ s ∧ s < 4) ∧ ((0 ≤ l ∧ l < 4) ∧ ((0 ≤ s ∧ s < 4) ∧ ((0 ≤ l ∧ l < 4) ∧ ((0 ≤ s ∧ s < 4) ∧ (ER (some (vI ((st μ 9 l s (w32 ((μ 9 l s) + n))) 9 l s))) (st (st μ 9 l s (w32 ((μ 9 l s) + n))) 11 l s f))))))))
    rw [show w32 ((μ 9 l s) + n) = (μ 9 l s) + n from w32_id (by simp only [in32]; omega)]
    refine ⟨by omega, ?_⟩
    refine ⟨by omega, ?_⟩
    refine ⟨by omega, ?_⟩
    refine ⟨by omega, ?_⟩
    refine ⟨by omega, ?_⟩
    refine ⟨by omega, ?_⟩
    refine ⟨by omega, ?_⟩
    have hs : 0 ≤ s ∧ s ≤ 3 := by omega
    refine hER _ _ ⟨by omega, by first | rfl | rw [st_s], by rw [al_s11 _ _ _ _ hs, al_s9 _ _ _ _ hs], KI_off hK (by omega) hs (by omega) (by omega) (by omega), ?_, fun g r j q => (st_o (by omega)).trans (st_o (by omega))⟩
    exact CMt_fr hC (fun g r j q => (st_o (by omega)).trans (st_o (by omega)))
theorem vw_X4_97 : ∀ w ∈ ([.methodLink RX4 97 yX4_needLender, .static yX4_needLender, .initialized yX4_needLender.cls, .code yX4_needLender cX4_needLender 1 none] : List Cond), w ∈ wm := wm_ps _ [411, 412, 50, 413] (by decide +kernel)
set_option maxRecDepth 20000 in
theorem con_X4_offer (l : Launch) (htr : l.stackTraces = false) (σ : Mm) : CON fam0 63 l yX4_offer (Cond.code yX4_offer cX4_offer 5 (some .int) :: wm) 7 104 5 (cl_X4_offer.2.2.1 σ) (cl_X4_offer.2.2.2.1 σ) (cl_X4_offer.2.2.2.2 σ) :=
  con_of (cd := cd_X4_offer) (own := RX4) (rk := 1) (sc_of htr (by decide) k_X4_offer_ok (by decide +kernel) co_X4_ok fl_X4_ok all_nil (all_cons ⟨yX4_needLender, cX4_needLender, 1, none, 6, 82, con_X4_needLender l htr, vw_X4_97, ⟨by decide, by decide, by decide +kernel⟩, ⟨by decide, by decide⟩⟩ (all_cons ⟨yX4_needStock, cX4_needStock, 1, none, 6, 82, con_X4_needStock l htr, vw_X4_72, ⟨by decide, by decide, by decide +kernel⟩, ⟨by decide, by decide⟩⟩ (all_cons ⟨yX4_needRange, cX4_needRange, 3, none, 6, 82, con_X4_needRange l htr, vw_X4_77, ⟨by decide, by decide, by decide +kernel⟩, ⟨by decide, by decide⟩⟩ (all_cons ⟨yX4_needState, cX4_needState, 1, none, 6, 82, con_X4_needState l htr, vw_X4_86, ⟨by decide, by decide, by decide +kernel⟩, ⟨by decide, by decide⟩⟩ all_nil)))) all_nil) rfl (by decide +kernel) rfl rfl rfl rfl (fun as μ hs => by rw [hs.1]; exact Nat.le_of_ble_eq_true rfl)
    (fun as μ hs hM hrg => by
      have hs1 := hs.1
      have hmem : ∀ v, v ∈ ([vR 0 0, vI (iaI as 1), vI (iaI as 2), vI (iaI as 3), vI (iaI as 4)] : List AV) → rg fam0 v := by rw [← hs1]; exact hrg
      have key := run_X4_offer (ER := cl_X4_offer.2.2.2.1 σ as μ) (ET := fun k μ' => cl_X4_offer.2.2.2.2 σ as μ k ∧ μ' = μ) σ μ (iaI as 1) (iaI as 2) (iaI as 3) (iaI as 4) hM (hmem (vI (iaI as 1)) (by simp)) (hmem (vI (iaI as 2)) (by simp)) (hmem (vI (iaI as 3)) (by simp)) (hmem (vI (iaI as 4)) (by simp)) hs.2 (fun ov μ' h => h) (fun k h => ⟨h, rfl⟩)
      have e : entL as 5 = [some (vR 0 0), some (vI (iaI as 1)), some (vI (iaI as 2)), some (vI (iaI as 3)), some (vI (iaI as 4))] := by rw [hs1]; rfl
      rw [e]; exact key)
/-! ### Primeborrow.position -/
def cl_X4_position : Cl := (3, 2, fun σ as μ => as = [vR 0 0, vI (iaI as 1), vI (iaI as 2)] ∧ (CV μ), fun σ as μ ov μ' => (((0 ≤ (iaI as 1) ∧ (iaI as 1) ≤ 5) ∧ (0 ≤ (iaI as 2) ∧ (iaI as 2) ≤ 3))) ∧ ov = some (vI (μ 7 (iaI as 1) (iaI as 2))) ∧ μ' = μ ∧ PB μ μ', fun σ as μ k => (k = 1 ∧ ¬ ((0 ≤ (iaI as 1) ∧ (iaI as 1) ≤ 5) ∧ (0 ≤ (iaI as 2) ∧ (iaI as 2) ≤ 3))))
def cd_X4_position : Cd := mkcd k_X4_position co_X4 fl_X4 [] [(81, cl_X4_needClient), (72, cl_X4_needStock)] [] [] 3 1 2
set_option maxHeartbeats 4000000 in
set_option maxRecDepth 20000 in
theorem run_X4_position {ER : Option AV → Mm → Prop} {ET : Nat → Mm → Prop} (σ μ : Mm) (c s : Int) (hM : MR fam0 μ) (h_c : in32 c) (h_s : in32 s) (hP : CV μ) (hER : ∀ ov μ', ((((0 ≤ c ∧ c ≤ 5) ∧ (0 ≤ s ∧ s ≤ 3))) ∧ ov = some (vI (μ 7 c s)) ∧ μ' = μ ∧ PB μ μ') → ER ov μ') (hET : ∀ k, ((k = 1 ∧ ¬ ((0 ≤ c ∧ c ≤ 5) ∧ (0 ≤ s ∧ s ≤ 3)))) → ET k μ) : Run fam0 none cd_X4_position ER ET 0 0 [some (vR 0 0), some (vI c), some (vI s)] [] μ := by
  have hP0 := hP
  obtain ⟨hK, hW, hX, hC⟩ := hP
  refine run_k 2 ?_
  show ∃ σ : Mm, cl_X4_needClient.2.2.1 σ [vI c] μ ∧ (∀ ov μ', cl_X4_needClient.2.2.2.1 σ [vI c] μ ov μ' → Run fam0 none cd_X4_position ER ET 4 1 [some (vR 0 0), some (vI c), some (vI s)] (ov.toList ++ []) μ') ∧ ∀ kx, cl_X4_needClient.2.2.2.2 σ [vI c] μ kx → thr cd_X4_position ET (Run fam0 none cd_X4_position ER ET) 1 1 [some (vR 0 0), some (vI c), some (vI s)] μ kx
  refine ⟨μ, ⟨rfl, show True from True.intro⟩, fun ov μ' hq => ?_, fun kx hk => (by have hk : kx = 1 ∧ ¬ (0 ≤ c ∧ c ≤ 5) := hk; exact hET kx (by omega))⟩
  obtain ⟨hov, hmu, hc1⟩ : ov = none ∧ μ' = μ ∧ (0 ≤ c ∧ c ≤ 5) := hq
  rw [hov, hmu]
  show Run fam0 none cd_X4_position ER ET 4 1 [some (vR 0 0), some (vI c), some (vI s)] [] μ
  refine run_k 2 ?_
  show ∃ σ : Mm, cl_X4_needStock.2.2.1 σ [vI s] μ ∧ (∀ ov μ', cl_X4_needStock.2.2.2.1 σ [vI s] μ ov μ' → Run fam0 none cd_X4_position ER ET 8 2 [some (vR 0 0), some (vI c), some (vI s)] (ov.toList ++ []) μ') ∧ ∀ kx, cl_X4_needStock.2.2.2.2 σ [vI s] μ kx → thr cd_X4_position ET (Run fam0 none cd_X4_position ER ET) 5 2 [some (vR 0 0), some (vI c), some (vI s)] μ kx
  refine ⟨μ, ⟨rfl, show True from True.intro⟩, fun ov μ' hq => ?_, fun kx hk => (by have hk : kx = 1 ∧ ¬ (0 ≤ s ∧ s ≤ 3) := hk; exact hET kx (by omega))⟩
  obtain ⟨hov, hmu, hc2⟩ : ov = none ∧ μ' = μ ∧ (0 ≤ s ∧ s ≤ 3) := hq
  rw [hov, hmu]
  show Run fam0 none cd_X4_position ER ET 8 2 [some (vR 0 0), some (vI c), some (vI s)] [] μ
  refine run_k 7 ?_
  show (0 ≤ c ∧ c < 6) ∧ ((0 ≤ s ∧ s < 4) ∧ (ER (some (vI (μ 7 c s))) μ))
  refine ⟨by omega, ?_⟩
  refine ⟨by omega, ?_⟩
  exact hER _ _ ⟨by omega, congrArg (fun z => some (vI z)) (by rfl), rfl, PB_rf hP0⟩
set_option maxRecDepth 20000 in
theorem con_X4_position (l : Launch) (htr : l.stackTraces = false) (σ : Mm) : CON fam0 63 l yX4_position (Cond.code yX4_position cX4_position 3 (some .int) :: wm) 7 102 2 (cl_X4_position.2.2.1 σ) (cl_X4_position.2.2.2.1 σ) (cl_X4_position.2.2.2.2 σ) :=
  con_of (cd := cd_X4_position) (own := RX4) (rk := 1) (sc_of htr (by decide) k_X4_position_ok (by decide +kernel) co_X4_ok fl_X4_ok all_nil (all_cons ⟨yX4_needClient, cX4_needClient, 1, none, 6, 82, con_X4_needClient l htr, vw_X4_81, ⟨by decide, by decide, by decide +kernel⟩, ⟨by decide, by decide⟩⟩ (all_cons ⟨yX4_needStock, cX4_needStock, 1, none, 6, 82, con_X4_needStock l htr, vw_X4_72, ⟨by decide, by decide, by decide +kernel⟩, ⟨by decide, by decide⟩⟩ all_nil)) all_nil) rfl (by decide +kernel) rfl rfl rfl rfl (fun as μ hs => by rw [hs.1]; exact Nat.le_of_ble_eq_true rfl)
    (fun as μ hs hM hrg => by
      have hs1 := hs.1
      have hmem : ∀ v, v ∈ ([vR 0 0, vI (iaI as 1), vI (iaI as 2)] : List AV) → rg fam0 v := by rw [← hs1]; exact hrg
      have key := run_X4_position (ER := cl_X4_position.2.2.2.1 σ as μ) (ET := fun k μ' => cl_X4_position.2.2.2.2 σ as μ k ∧ μ' = μ) σ μ (iaI as 1) (iaI as 2) hM (hmem (vI (iaI as 1)) (by simp)) (hmem (vI (iaI as 2)) (by simp)) hs.2 (fun ov μ' h => h) (fun k h => ⟨h, rfl⟩)
      have e : entL as 3 = [some (vR 0 0), some (vI (iaI as 1)), some (vI (iaI as 2))] := by rw [hs1]; rfl
      rw [e]; exact key)
/-! ### Primeborrow.part -/
def cl_X4_part : Cl := (3, 2, fun σ as μ => as = [vR 0 0, vI (iaI as 1), vI (iaI as 2)] ∧ (CV μ), fun σ as μ ov μ' => (((0 ≤ (iaI as 1) ∧ (iaI as 1) ≤ 5) ∧ (0 ≤ (iaI as 2) ∧ (iaI as 2) ≤ 3))) ∧ ov = some (vI (partF (al μ) (iaI as 1) (iaI as 2))) ∧ μ' = μ ∧ PB μ μ', fun σ as μ k => (k = 1 ∧ ¬ ((0 ≤ (iaI as 1) ∧ (iaI as 1) ≤ 5) ∧ (0 ≤ (iaI as 2) ∧ (iaI as 2) ≤ 3))))
def cd_X4_part : Cd := mkcd k_X4_part co_X4 fl_X4 [(173, cl_X4_inBox)] [(81, cl_X4_needClient), (72, cl_X4_needStock)] [] [] 3 1 2
set_option maxHeartbeats 4000000 in
set_option maxRecDepth 20000 in
theorem run_X4_part {ER : Option AV → Mm → Prop} {ET : Nat → Mm → Prop} (σ μ : Mm) (c s : Int) (hM : MR fam0 μ) (h_c : in32 c) (h_s : in32 s) (hP : CV μ) (hER : ∀ ov μ', ((((0 ≤ c ∧ c ≤ 5) ∧ (0 ≤ s ∧ s ≤ 3))) ∧ ov = some (vI (partF (al μ) c s)) ∧ μ' = μ ∧ PB μ μ') → ER ov μ') (hET : ∀ k, ((k = 1 ∧ ¬ ((0 ≤ c ∧ c ≤ 5) ∧ (0 ≤ s ∧ s ≤ 3)))) → ET k μ) : Run fam0 none cd_X4_part ER ET 0 0 [some (vR 0 0), some (vI c), some (vI s)] [] μ := by
  have hP0 := hP
  obtain ⟨hK, hW, hX, hC⟩ := hP
  refine run_k 2 ?_
  show ∃ σ : Mm, cl_X4_needClient.2.2.1 σ [vI c] μ ∧ (∀ ov μ', cl_X4_needClient.2.2.2.1 σ [vI c] μ ov μ' → Run fam0 none cd_X4_part ER ET 4 1 [some (vR 0 0), some (vI c), some (vI s)] (ov.toList ++ []) μ') ∧ ∀ kx, cl_X4_needClient.2.2.2.2 σ [vI c] μ kx → thr cd_X4_part ET (Run fam0 none cd_X4_part ER ET) 1 1 [some (vR 0 0), some (vI c), some (vI s)] μ kx
  refine ⟨μ, ⟨rfl, show True from True.intro⟩, fun ov μ' hq => ?_, fun kx hk => (by have hk : kx = 1 ∧ ¬ (0 ≤ c ∧ c ≤ 5) := hk; exact hET kx (by omega))⟩
  obtain ⟨hov, hmu, hc1⟩ : ov = none ∧ μ' = μ ∧ (0 ≤ c ∧ c ≤ 5) := hq
  rw [hov, hmu]
  show Run fam0 none cd_X4_part ER ET 4 1 [some (vR 0 0), some (vI c), some (vI s)] [] μ
  refine run_k 2 ?_
  show ∃ σ : Mm, cl_X4_needStock.2.2.1 σ [vI s] μ ∧ (∀ ov μ', cl_X4_needStock.2.2.2.1 σ [vI s] μ ov μ' → Run fam0 none cd_X4_part ER ET 8 2 [some (vR 0 0), some (vI c), some (vI s)] (ov.toList ++ []) μ') ∧ ∀ kx, cl_X4_needStock.2.2.2.2 σ [vI s] μ kx → thr cd_X4_part ET (Run fam0 none cd_X4_part ER ET) 5 2 [some (vR 0 0), some (vI c), some (vI s)] μ kx
  refine ⟨μ, ⟨rfl, show True from True.intro⟩, fun ov μ' hq => ?_, fun kx hk => (by have hk : kx = 1 ∧ ¬ (0 ≤ s ∧ s ≤ 3) := hk; exact hET kx (by omega))⟩
  obtain ⟨hov, hmu, hc2⟩ : ov = none ∧ μ' = μ ∧ (0 ≤ s ∧ s ≤ 3) := hq
  rw [hov, hmu]
  show Run fam0 none cd_X4_part ER ET 8 2 [some (vR 0 0), some (vI c), some (vI s)] [] μ
  refine run_k 4 ?_
  show ∃ σ : Mm, cl_X4_inBox.2.2.1 σ [vR 0 0, vI c, vI s] μ ∧ (∀ ov μ', cl_X4_inBox.2.2.2.1 σ [vR 0 0, vI c, vI s] μ ov μ' → Run fam0 none cd_X4_part ER ET 14 2 [some (vR 0 0), some (vI c), some (vI s)] (ov.toList ++ []) μ') ∧ ∀ kx, cl_X4_inBox.2.2.2.2 σ [vR 0 0, vI c, vI s] μ kx → thr cd_X4_part ET (Run fam0 none cd_X4_part ER ET) 11 2 [some (vR 0 0), some (vI c), some (vI s)] μ kx
  refine ⟨μ, ⟨rfl, show KI μ ∧ (0 ≤ c ∧ c ≤ 5) ∧ (0 ≤ s ∧ s ≤ 3) from ⟨by assumption, by omega, by omega⟩⟩, fun ov μ' hq => ?_, fun k hk => hk.elim⟩
  obtain ⟨hov, hmu⟩ : ov = some (vI (partF (al μ) c s)) ∧ μ' = μ := hq
  rw [hov, hmu]
  show Run fam0 none cd_X4_part ER ET 14 2 [some (vR 0 0), some (vI c), some (vI s)] [vI (partF (al μ) c s)] μ
  refine run_k 1 ?_
  show ER (some (vI (partF (al μ) c s))) μ
  exact hER _ _ ⟨by omega, congrArg (fun z => some (vI z)) (by rfl), rfl, PB_rf hP0⟩
set_option maxRecDepth 20000 in
theorem con_X4_part (l : Launch) (htr : l.stackTraces = false) (σ : Mm) : CON fam0 63 l yX4_part (Cond.code yX4_part cX4_part 3 (some .int) :: wm) 7 102 2 (cl_X4_part.2.2.1 σ) (cl_X4_part.2.2.2.1 σ) (cl_X4_part.2.2.2.2 σ) :=
  con_of (cd := cd_X4_part) (own := RX4) (rk := 1) (sc_of htr (by decide) k_X4_part_ok (by decide +kernel) co_X4_ok fl_X4_ok (all_cons ⟨RX4, yX4_inBox, cX4_inBox, 4, (some .int), 0, 0, 2, con_X4_inBox l htr, rfl, vw_X4_173, ⟨rfl, by decide, by decide, by decide +kernel⟩, ⟨by decide, by decide⟩, fun σ as μ h => ⟨0, 0, _, h.1, rfl, TX4, 17, rfl⟩⟩ all_nil) (all_cons ⟨yX4_needClient, cX4_needClient, 1, none, 6, 82, con_X4_needClient l htr, vw_X4_81, ⟨by decide, by decide, by decide +kernel⟩, ⟨by decide, by decide⟩⟩ (all_cons ⟨yX4_needStock, cX4_needStock, 1, none, 6, 82, con_X4_needStock l htr, vw_X4_72, ⟨by decide, by decide, by decide +kernel⟩, ⟨by decide, by decide⟩⟩ all_nil)) all_nil) rfl (by decide +kernel) rfl rfl rfl rfl (fun as μ hs => by rw [hs.1]; exact Nat.le_of_ble_eq_true rfl)
    (fun as μ hs hM hrg => by
      have hs1 := hs.1
      have hmem : ∀ v, v ∈ ([vR 0 0, vI (iaI as 1), vI (iaI as 2)] : List AV) → rg fam0 v := by rw [← hs1]; exact hrg
      have key := run_X4_part (ER := cl_X4_part.2.2.2.1 σ as μ) (ET := fun k μ' => cl_X4_part.2.2.2.2 σ as μ k ∧ μ' = μ) σ μ (iaI as 1) (iaI as 2) hM (hmem (vI (iaI as 1)) (by simp)) (hmem (vI (iaI as 2)) (by simp)) hs.2 (fun ov μ' h => h) (fun k h => ⟨h, rfl⟩)
      have e : entL as 3 = [some (vR 0 0), some (vI (iaI as 1)), some (vI (iaI as 2))] := by rw [hs1]; rfl
      rw [e]; exact key)
/-! ### Primeborrow.partAnew -/
def cl_X4_partAnew : Cl := (3, 2, fun σ as μ => as = [vR 0 0, vI (iaI as 1), vI (iaI as 2)] ∧ (CV μ), fun σ as μ ov μ' => (((0 ≤ (iaI as 1) ∧ (iaI as 1) ≤ 5) ∧ (0 ≤ (iaI as 2) ∧ (iaI as 2) ≤ 3))) ∧ ov = some (vI (partF (al μ) (iaI as 1) (iaI as 2))) ∧ μ' = μ ∧ PB μ μ', fun σ as μ k => (k = 1 ∧ ¬ ((0 ≤ (iaI as 1) ∧ (iaI as 1) ≤ 5) ∧ (0 ≤ (iaI as 2) ∧ (iaI as 2) ≤ 3))))
def cd_X4_partAnew : Cd := mkcd k_X4_partAnew co_X4 fl_X4 [(176, cl_X0_inBox)] [(81, cl_X4_needClient), (72, cl_X4_needStock)] [] [] 3 1 2
set_option maxHeartbeats 4000000 in
set_option maxRecDepth 20000 in
theorem run_X4_partAnew {ER : Option AV → Mm → Prop} {ET : Nat → Mm → Prop} (σ μ : Mm) (c s : Int) (hM : MR fam0 μ) (h_c : in32 c) (h_s : in32 s) (hP : CV μ) (hER : ∀ ov μ', ((((0 ≤ c ∧ c ≤ 5) ∧ (0 ≤ s ∧ s ≤ 3))) ∧ ov = some (vI (partF (al μ) c s)) ∧ μ' = μ ∧ PB μ μ') → ER ov μ') (hET : ∀ k, ((k = 1 ∧ ¬ ((0 ≤ c ∧ c ≤ 5) ∧ (0 ≤ s ∧ s ≤ 3)))) → ET k μ) : Run fam0 none cd_X4_partAnew ER ET 0 0 [some (vR 0 0), some (vI c), some (vI s)] [] μ := by
  have hP0 := hP
  obtain ⟨hK, hW, hX, hC⟩ := hP
  refine run_k 2 ?_
  show ∃ σ : Mm, cl_X4_needClient.2.2.1 σ [vI c] μ ∧ (∀ ov μ', cl_X4_needClient.2.2.2.1 σ [vI c] μ ov μ' → Run fam0 none cd_X4_partAnew ER ET 4 1 [some (vR 0 0), some (vI c), some (vI s)] (ov.toList ++ []) μ') ∧ ∀ kx, cl_X4_needClient.2.2.2.2 σ [vI c] μ kx → thr cd_X4_partAnew ET (Run fam0 none cd_X4_partAnew ER ET) 1 1 [some (vR 0 0), some (vI c), some (vI s)] μ kx
  refine ⟨μ, ⟨rfl, show True from True.intro⟩, fun ov μ' hq => ?_, fun kx hk => (by have hk : kx = 1 ∧ ¬ (0 ≤ c ∧ c ≤ 5) := hk; exact hET kx (by omega))⟩
  obtain ⟨hov, hmu, hc1⟩ : ov = none ∧ μ' = μ ∧ (0 ≤ c ∧ c ≤ 5) := hq
  rw [hov, hmu]
  show Run fam0 none cd_X4_partAnew ER ET 4 1 [some (vR 0 0), some (vI c), some (vI s)] [] μ
  refine run_k 2 ?_
  show ∃ σ : Mm, cl_X4_needStock.2.2.1 σ [vI s] μ ∧ (∀ ov μ', cl_X4_needStock.2.2.2.1 σ [vI s] μ ov μ' → Run fam0 none cd_X4_partAnew ER ET 8 2 [some (vR 0 0), some (vI c), some (vI s)] (ov.toList ++ []) μ') ∧ ∀ kx, cl_X4_needStock.2.2.2.2 σ [vI s] μ kx → thr cd_X4_partAnew ET (Run fam0 none cd_X4_partAnew ER ET) 5 2 [some (vR 0 0), some (vI c), some (vI s)] μ kx
  refine ⟨μ, ⟨rfl, show True from True.intro⟩, fun ov μ' hq => ?_, fun kx hk => (by have hk : kx = 1 ∧ ¬ (0 ≤ s ∧ s ≤ 3) := hk; exact hET kx (by omega))⟩
  obtain ⟨hov, hmu, hc2⟩ : ov = none ∧ μ' = μ ∧ (0 ≤ s ∧ s ≤ 3) := hq
  rw [hov, hmu]
  show Run fam0 none cd_X4_partAnew ER ET 8 2 [some (vR 0 0), some (vI c), some (vI s)] [] μ
  refine run_k 5 ?_
  show ∃ σ : Mm, cl_X0_inBox.2.2.1 σ [vR 33 0, vI s, vI c] μ ∧ (∀ ov μ', cl_X0_inBox.2.2.2.1 σ [vR 33 0, vI s, vI c] μ ov μ' → Run fam0 none cd_X4_partAnew ER ET 17 2 [some (vR 0 0), some (vI c), some (vI s)] (ov.toList ++ []) μ') ∧ ∀ kx, cl_X0_inBox.2.2.2.2 σ [vR 33 0, vI s, vI c] μ kx → thr cd_X4_partAnew ET (Run fam0 none cd_X4_partAnew ER ET) 14 2 [some (vR 0 0), some (vI c), some (vI s)] μ kx
  refine ⟨μ, ⟨rfl, show 0 ≤ s ∧ s ≤ 3 from by omega⟩, fun ov μ' hq => ?_, fun k hk => hk.elim⟩
  obtain ⟨hov, hmu⟩ : ov = some (vI (cnP μ s (pH 1 c) 3000)) ∧ μ' = μ := hq
  rw [hov, hmu]
  show Run fam0 none cd_X4_partAnew ER ET 17 2 [some (vR 0 0), some (vI c), some (vI s)] [vI (cnP μ s (pH 1 c) 3000)] μ
  refine run_k 1 ?_
  show ER (some (vI (cnP μ s (pH 1 c) 3000))) μ
  exact hER _ _ ⟨by omega, congrArg (fun z => some (vI z)) ((hK.2.2.1 s (by omega) (by omega)).2 c (by omega) (by omega)).1, rfl, PB_rf hP0⟩
theorem vw_X4_176 : ∀ w ∈ ([.methodLink RX4 176 yX0_inBox, .instanceMethod yX0_inBox, .selects RX0 yX0_inBox yX0_inBox, .initialized RX0, .code yX0_inBox cX0_inBox 5 (some .int)] : List Cond), w ∈ wm := wm_ps _ [616, 617, 618, 54, 619] (by decide +kernel)
set_option maxRecDepth 20000 in
theorem con_X4_partAnew (l : Launch) (htr : l.stackTraces = false) (σ : Mm) : CON fam0 63 l yX4_partAnew (Cond.code yX4_partAnew cX4_partAnew 3 (some .int) :: wm) 7 102 2 (cl_X4_partAnew.2.2.1 σ) (cl_X4_partAnew.2.2.2.1 σ) (cl_X4_partAnew.2.2.2.2 σ) :=
  con_of (cd := cd_X4_partAnew) (own := RX4) (rk := 1) (sc_of htr (by decide) k_X4_partAnew_ok (by decide +kernel) co_X4_ok fl_X4_ok (all_cons ⟨RX0, yX0_inBox, cX0_inBox, 5, (some .int), 0, 0, 2, con_X0_inBox l htr, rfl, vw_X4_176, ⟨rfl, by decide, by decide, by decide +kernel⟩, ⟨by decide, by decide⟩, fun σ as μ h => ⟨33, 0, _, h.1, rfl, TX0, 2, rfl⟩⟩ all_nil) (all_cons ⟨yX4_needClient, cX4_needClient, 1, none, 6, 82, con_X4_needClient l htr, vw_X4_81, ⟨by decide, by decide, by decide +kernel⟩, ⟨by decide, by decide⟩⟩ (all_cons ⟨yX4_needStock, cX4_needStock, 1, none, 6, 82, con_X4_needStock l htr, vw_X4_72, ⟨by decide, by decide, by decide +kernel⟩, ⟨by decide, by decide⟩⟩ all_nil)) all_nil) rfl (by decide +kernel) rfl rfl rfl rfl (fun as μ hs => by rw [hs.1]; exact Nat.le_of_ble_eq_true rfl)
    (fun as μ hs hM hrg => by
      have hs1 := hs.1
      have hmem : ∀ v, v ∈ ([vR 0 0, vI (iaI as 1), vI (iaI as 2)] : List AV) → rg fam0 v := by rw [← hs1]; exact hrg
      have key := run_X4_partAnew (ER := cl_X4_partAnew.2.2.2.1 σ as μ) (ET := fun k μ' => cl_X4_partAnew.2.2.2.2 σ as μ k ∧ μ' = μ) σ μ (iaI as 1) (iaI as 2) hM (hmem (vI (iaI as 1)) (by simp)) (hmem (vI (iaI as 2)) (by simp)) hs.2 (fun ov μ' h => h) (fun k h => ⟨h, rfl⟩)
      have e : entL as 3 = [some (vR 0 0), some (vI (iaI as 1)), some (vI (iaI as 2))] := by rw [hs1]; rfl
      rw [e]; exact key)
/-! ### Primeborrow.clientOf -/
def cl_X4_clientOf : Cl := (3, 3, fun σ as μ => as = [vR 0 0, vI (iaI as 1), vI (iaI as 2)] ∧ (CV μ), fun σ as μ ov μ' => ((0 ≤ (iaI as 1) ∧ (iaI as 1) ≤ 5) ∧ (0 ≤ (iaI as 2) ∧ (iaI as 2) ≤ 4)) ∧ ov = some (vL (if (iaI as 2) = 0 then μ 3 0 (iaI as 1) else if (iaI as 2) = 1 then equityF (al μ) (iaI as 1) else if (iaI as 2) = 2 then needF (al μ) (iaI as 1) else if (iaI as 2) = 3 then calledF (al μ) (iaI as 1) else μ 5 0 (iaI as 1))) ∧ μ' = μ ∧ PB μ μ', fun σ as μ k => (k = 1 ∧ ¬ (0 ≤ (iaI as 1) ∧ (iaI as 1) ≤ 5)) ∨ (k = 2 ∧ (0 ≤ (iaI as 1) ∧ (iaI as 1) ≤ 5) ∧ ¬ (0 ≤ (iaI as 2) ∧ (iaI as 2) ≤ 4)))
def cd_X4_clientOf : Cd := mkcd k_X4_clientOf co_X4 fl_X4 [(90, cl_X4_equity), (94, cl_X4_need), (152, cl_X4_called)] [(81, cl_X4_needClient), (77, cl_X4_needRange)] [] [] 3 2 3
set_option maxHeartbeats 4000000 in
set_option maxRecDepth 20000 in
theorem run_X4_clientOf {ER : Option AV → Mm → Prop} {ET : Nat → Mm → Prop} (σ μ : Mm) (c w : Int) (hM : MR fam0 μ) (h_c : in32 c) (h_w : in32 w) (hP : CV μ) (hER : ∀ ov μ', (((0 ≤ c ∧ c ≤ 5) ∧ (0 ≤ w ∧ w ≤ 4)) ∧ ov = some (vL (if w = 0 then μ 3 0 c else if w = 1 then equityF (al μ) c else if w = 2 then needF (al μ) c else if w = 3 then calledF (al μ) c else μ 5 0 c)) ∧ μ' = μ ∧ PB μ μ') → ER ov μ') (hET : ∀ k, ((k = 1 ∧ ¬ (0 ≤ c ∧ c ≤ 5)) ∨ (k = 2 ∧ (0 ≤ c ∧ c ≤ 5) ∧ ¬ (0 ≤ w ∧ w ≤ 4))) → ET k μ) : Run fam0 none cd_X4_clientOf ER ET 0 0 [some (vR 0 0), some (vI c), some (vI w)] [] μ := by
  have hP0 := hP
  obtain ⟨hK, hW, hX, hC⟩ := hP
  have hbl := hX.2.2.2 c
  have e44 := al_r44 μ c
  have hcl : calledF (al μ) c = 0 ∨ calledF (al μ) c = 1 := bi_01
  refine run_k 2 ?_
  show ∃ σ : Mm, cl_X4_needClient.2.2.1 σ [vI c] μ ∧ (∀ ov μ', cl_X4_needClient.2.2.2.1 σ [vI c] μ ov μ' → Run fam0 none cd_X4_clientOf ER ET 4 1 [some (vR 0 0), some (vI c), some (vI w)] (ov.toList ++ []) μ') ∧ ∀ kx, cl_X4_needClient.2.2.2.2 σ [vI c] μ kx → thr cd_X4_clientOf ET (Run fam0 none cd_X4_clientOf ER ET) 1 1 [some (vR 0 0), some (vI c), some (vI w)] μ kx
  refine ⟨μ, ⟨rfl, show True from True.intro⟩, fun ov μ' hq => ?_, fun kx hk => (by have hk : kx = 1 ∧ ¬ (0 ≤ c ∧ c ≤ 5) := hk; exact hET kx (by omega))⟩
  obtain ⟨hov, hmu, hc1⟩ : ov = none ∧ μ' = μ ∧ (0 ≤ c ∧ c ≤ 5) := hq
  rw [hov, hmu]
  show Run fam0 none cd_X4_clientOf ER ET 4 1 [some (vR 0 0), some (vI c), some (vI w)] [] μ
  refine run_k 4 ?_
  show ∃ σ : Mm, cl_X4_needRange.2.2.1 σ [vI w, vI 0, vI 4] μ ∧ (∀ ov μ', cl_X4_needRange.2.2.2.1 σ [vI w, vI 0, vI 4] μ ov μ' → Run fam0 none cd_X4_clientOf ER ET 10 2 [some (vR 0 0), some (vI c), some (vI w)] (ov.toList ++ []) μ') ∧ ∀ kx, cl_X4_needRange.2.2.2.2 σ [vI w, vI 0, vI 4] μ kx → thr cd_X4_clientOf ET (Run fam0 none cd_X4_clientOf ER ET) 7 2 [some (vR 0 0), some (vI c), some (vI w)] μ kx
  refine ⟨μ, ⟨rfl, show True from True.intro⟩, fun ov μ' hq => ?_, fun kx hk => (by have hk : kx = 2 ∧ ¬ (0 ≤ w ∧ w ≤ 4) := hk; exact hET kx (by omega))⟩
  obtain ⟨hov, hmu, hc2⟩ : ov = none ∧ μ' = μ ∧ (0 ≤ w ∧ w ≤ 4) := hq
  rw [hov, hmu]
  show Run fam0 none cd_X4_clientOf ER ET 10 2 [some (vR 0 0), some (vI c), some (vI w)] [] μ
  refine run_k 2 ?_
  show ((w = 0 → Run fam0 none cd_X4_clientOf ER ET 40 2 [some (vR 0 0), some (vI c), some (vI w)] [] μ) ∧ (w = 0 + 1 → Run fam0 none cd_X4_clientOf ER ET 47 2 [some (vR 0 0), some (vI c), some (vI w)] [] μ) ∧ (w = 0 + 1 + 1 → Run fam0 none cd_X4_clientOf ER ET 53 2 [some (vR 0 0), some (vI c), some (vI w)] [] μ) ∧ (w = 0 + 1 + 1 + 1 → Run fam0 none cd_X4_clientOf ER ET 59 2 [some (vR 0 0), some (vI c), some (vI w)] [] μ) ∧ True) ∧ (w < 0 ∨ 0 + 4 ≤ w → Run fam0 none cd_X4_clientOf ER ET 73 2 [some (vR 0 0), some (vI c), some (vI w)] [] μ) ∧ 0 + 4 = 3 + 1
  refine ⟨⟨fun c3 => ?_, fun c3 => ?_, fun c3 => ?_, fun c3 => ?_, True.intro⟩, fun c3 => ?_, by decide⟩
  · refine run_k 5 ?_
    show (0 ≤ c ∧ c < 6) ∧ (ER (some (vL (μ 3 0 c))) μ)
    refine ⟨by omega, ?_⟩
    exact hER _ _ ⟨by omega, congrArg (fun z => some (vL z)) (by (first | rw [if_pos (by omega)] | (rw [if_neg (by omega)]; first | rw [if_pos (by omega)] | (rw [if_neg (by omega)]; first | rw [if_pos (by omega)] | (rw [if_neg (by omega)]; first | rw [if_pos (by omega)] | rw [if_neg (by omega)])))) <;> omega), rfl, PB_rf hP0⟩
  · refine run_k 3 ?_
    show ∃ σ : Mm, cl_X4_equity.2.2.1 σ [vR 0 0, vI c] μ ∧ (∀ ov μ', cl_X4_equity.2.2.2.1 σ [vR 0 0, vI c] μ ov μ' → Run fam0 none cd_X4_clientOf ER ET 52 2 [some (vR 0 0), some (vI c), some (vI w)] (ov.toList ++ []) μ') ∧ ∀ kx, cl_X4_equity.2.2.2.2 σ [vR 0 0, vI c] μ kx → thr cd_X4_clientOf ET (Run fam0 none cd_X4_clientOf ER ET) 49 2 [some (vR 0 0), some (vI c), some (vI w)] μ kx
    refine ⟨μ, ⟨rfl, show (0 ≤ c ∧ c ≤ 5) from by omega⟩, fun ov μ' hq => ?_, fun k hk => hk.elim⟩
    obtain ⟨hov, hmu⟩ : ov = some (vL (equityF (al μ) c)) ∧ μ' = μ := hq
    rw [hov, hmu]
    show Run fam0 none cd_X4_clientOf ER ET 52 2 [some (vR 0 0), some (vI c), some (vI w)] [vL (equityF (al μ) c)] μ
    refine run_k 1 ?_
    show ER (some (vL (equityF (al μ) c))) μ
    exact hER _ _ ⟨by omega, congrArg (fun z => some (vL z)) (by (first | rw [if_pos (by omega)] | (rw [if_neg (by omega)]; first | rw [if_pos (by omega)] | (rw [if_neg (by omega)]; first | rw [if_pos (by omega)] | (rw [if_neg (by omega)]; first | rw [if_pos (by omega)] | rw [if_neg (by omega)])))) <;> omega), rfl, PB_rf hP0⟩
  · refine run_k 3 ?_
    show ∃ σ : Mm, cl_X4_need.2.2.1 σ [vR 0 0, vI c] μ ∧ (∀ ov μ', cl_X4_need.2.2.2.1 σ [vR 0 0, vI c] μ ov μ' → Run fam0 none cd_X4_clientOf ER ET 58 2 [some (vR 0 0), some (vI c), some (vI w)] (ov.toList ++ []) μ') ∧ ∀ kx, cl_X4_need.2.2.2.2 σ [vR 0 0, vI c] μ kx → thr cd_X4_clientOf ET (Run fam0 none cd_X4_clientOf ER ET) 55 2 [some (vR 0 0), some (vI c), some (vI w)] μ kx
    refine ⟨μ, ⟨rfl, show (0 ≤ c ∧ c ≤ 5) from by omega⟩, fun ov μ' hq => ?_, fun k hk => hk.elim⟩
    obtain ⟨hov, hmu⟩ : ov = some (vL (needF (al μ) c)) ∧ μ' = μ := hq
    rw [hov, hmu]
    show Run fam0 none cd_X4_clientOf ER ET 58 2 [some (vR 0 0), some (vI c), some (vI w)] [vL (needF (al μ) c)] μ
    refine run_k 1 ?_
    show ER (some (vL (needF (al μ) c))) μ
    exact hER _ _ ⟨by omega, congrArg (fun z => some (vL z)) (by (first | rw [if_pos (by omega)] | (rw [if_neg (by omega)]; first | rw [if_pos (by omega)] | (rw [if_neg (by omega)]; first | rw [if_pos (by omega)] | (rw [if_neg (by omega)]; first | rw [if_pos (by omega)] | rw [if_neg (by omega)])))) <;> omega), rfl, PB_rf hP0⟩
  · refine run_k 3 ?_
    show ∃ σ : Mm, cl_X4_called.2.2.1 σ [vR 0 0, vI c] μ ∧ (∀ ov μ', cl_X4_called.2.2.2.1 σ [vR 0 0, vI c] μ ov μ' → Run fam0 none cd_X4_clientOf ER ET 64 2 [some (vR 0 0), some (vI c), some (vI w)] (ov.toList ++ []) μ') ∧ ∀ kx, cl_X4_called.2.2.2.2 σ [vR 0 0, vI c] μ kx → thr cd_X4_clientOf ET (Run fam0 none cd_X4_clientOf ER ET) 61 2 [some (vR 0 0), some (vI c), some (vI w)] μ kx
    refine ⟨μ, ⟨rfl, show (0 ≤ c ∧ c ≤ 5) from by omega⟩, fun ov μ' hq => ?_, fun k hk => hk.elim⟩
    obtain ⟨hov, hmu⟩ : ov = some (vI (calledF (al μ) c)) ∧ μ' = μ := hq
    rw [hov, hmu]
    show Run fam0 none cd_X4_clientOf ER ET 64 2 [some (vR 0 0), some (vI c), some (vI w)] [vI (calledF (al μ) c)] μ
    refine run_k 1 ?_
    show ((calledF (al μ) c) = 0 → Run fam0 none cd_X4_clientOf ER ET 71 2 [some (vR 0 0), some (vI c), some (vI w)] [] μ) ∧ ((calledF (al μ) c) ≠ 0 → Run fam0 none cd_X4_clientOf ER ET 67 2 [some (vR 0 0), some (vI c), some (vI w)] [] μ)
    refine ⟨fun c10 => ?_, fun c10 => ?_⟩
    · refine run_k 2 ?_
      show ER (some (vL 0)) μ
      exact hER _ _ ⟨by omega, congrArg (fun z => some (vL z)) (by (first | rw [if_pos (by omega)] | (rw [if_neg (by omega)]; first | rw [if_pos (by omega)] | (rw [if_neg (by omega)]; first | rw [if_pos (by omega)] | (rw [if_neg (by omega)]; first | rw [if_pos (by omega)] | rw [if_neg (by omega)])))) <;> omega), rfl, PB_rf hP0⟩
    · refine run_k 3 ?_
      show ER (some (vL 1)) μ
      exact hER _ _ ⟨by omega, congrArg (fun z => some (vL z)) (by (first | rw [if_pos (by omega)] | (rw [if_neg (by omega)]; first | rw [if_pos (by omega)] | (rw [if_neg (by omega)]; first | rw [if_pos (by omega)] | (rw [if_neg (by omega)]; first | rw [if_pos (by omega)] | rw [if_neg (by omega)])))) <;> omega), rfl, PB_rf hP0⟩
  · refine run_k 5 ?_
    show (0 ≤ c ∧ c < 6) ∧ (((μ 5 0 c) = 0 → Run fam0 none cd_X4_clientOf ER ET 86 2 [some (vR 0 0), some (vI c), some (vI w)] [] μ) ∧ ((μ 5 0 c) ≠ 0 → Run fam0 none cd_X4_clientOf ER ET 82 2 [some (vR 0 0), some (vI c), some (vI w)] [] μ))
    refine ⟨by omega, ?_⟩
    refine ⟨fun c13 => ?_, fun c13 => ?_⟩
    · refine run_k 2 ?_
      show ER (some (vL 0)) μ
      exact hER _ _ ⟨by omega, congrArg (fun z => some (vL z)) (by (first | rw [if_pos (by omega)] | (rw [if_neg (by omega)]; first | rw [if_pos (by omega)] | (rw [if_neg (by omega)]; first | rw [if_pos (by omega)] | (rw [if_neg (by omega)]; first | rw [if_pos (by omega)] | rw [if_neg (by omega)])))) <;> omega), rfl, PB_rf hP0⟩
    · refine run_k 3 ?_
      show ER (some (vL 1)) μ
      exact hER _ _ ⟨by omega, congrArg (fun z => some (vL z)) (by (first | rw [if_pos (by omega)] | (rw [if_neg (by omega)]; first | rw [if_pos (by omega)] | (rw [if_neg (by omega)]; first | rw [if_pos (by omega)] | (rw [if_neg (by omega)]; first | rw [if_pos (by omega)] | rw [if_neg (by omega)])))) <;> omega), rfl, PB_rf hP0⟩
theorem vw_X4_152 : ∀ w ∈ ([.methodLink RX4 152 yX4_called, .instanceMethod yX4_called, .selects RX4 yX4_called yX4_called, .initialized RX4, .code yX4_called cX4_called 2 (some .boolean)] : List Cond), w ∈ wm := wm_ps _ [573, 575, 22, 50, 576] (by decide +kernel)
set_option maxRecDepth 20000 in
theorem con_X4_clientOf (l : Launch) (htr : l.stackTraces = false) (σ : Mm) : CON fam0 63 l yX4_clientOf (Cond.code yX4_clientOf cX4_clientOf 3 (some .long) :: wm) 7 104 3 (cl_X4_clientOf.2.2.1 σ) (cl_X4_clientOf.2.2.2.1 σ) (cl_X4_clientOf.2.2.2.2 σ) :=
  con_of (cd := cd_X4_clientOf) (own := RX4) (rk := 2) (sc_of htr (by decide) k_X4_clientOf_ok (by decide +kernel) co_X4_ok fl_X4_ok (all_cons ⟨RX4, yX4_equity, cX4_equity, 5, (some .long), 1, 22, 1, con_X4_equity l htr, rfl, vw_X4_90, ⟨rfl, by decide, by decide, by decide +kernel⟩, ⟨by decide, by decide⟩, fun σ as μ h => ⟨0, 0, _, h.1, rfl, TX4, 17, rfl⟩⟩ (all_cons ⟨RX4, yX4_need, cX4_need, 9, (some .long), 1, 22, 1, con_X4_need l htr, rfl, vw_X4_94, ⟨rfl, by decide, by decide, by decide +kernel⟩, ⟨by decide, by decide⟩, fun σ as μ h => ⟨0, 0, _, h.1, rfl, TX4, 17, rfl⟩⟩ (all_cons ⟨RX4, yX4_called, cX4_called, 2, (some .boolean), 2, 50, 1, con_X4_called l htr, rfl, vw_X4_152, ⟨rfl, by decide, by decide, by decide +kernel⟩, ⟨by decide, by decide⟩, fun σ as μ h => ⟨0, 0, _, h.1, rfl, TX4, 17, rfl⟩⟩ all_nil))) (all_cons ⟨yX4_needClient, cX4_needClient, 1, none, 6, 82, con_X4_needClient l htr, vw_X4_81, ⟨by decide, by decide, by decide +kernel⟩, ⟨by decide, by decide⟩⟩ (all_cons ⟨yX4_needRange, cX4_needRange, 3, none, 6, 82, con_X4_needRange l htr, vw_X4_77, ⟨by decide, by decide, by decide +kernel⟩, ⟨by decide, by decide⟩⟩ all_nil)) all_nil) rfl (by decide +kernel) rfl rfl rfl rfl (fun as μ hs => by rw [hs.1]; exact Nat.le_of_ble_eq_true rfl)
    (fun as μ hs hM hrg => by
      have hs1 := hs.1
      have hmem : ∀ v, v ∈ ([vR 0 0, vI (iaI as 1), vI (iaI as 2)] : List AV) → rg fam0 v := by rw [← hs1]; exact hrg
      have key := run_X4_clientOf (ER := cl_X4_clientOf.2.2.2.1 σ as μ) (ET := fun k μ' => cl_X4_clientOf.2.2.2.2 σ as μ k ∧ μ' = μ) σ μ (iaI as 1) (iaI as 2) hM (hmem (vI (iaI as 1)) (by simp)) (hmem (vI (iaI as 2)) (by simp)) hs.2 (fun ov μ' h => h) (fun k h => ⟨h, rfl⟩)
      have e : entL as 3 = [some (vR 0 0), some (vI (iaI as 1)), some (vI (iaI as 2))] := by rw [hs1]; rfl
      rw [e]; exact key)
/-! ### Primeborrow.lenderOf -/
def cl_X4_lenderOf : Cl := (4, 3, fun σ as μ => as = [vR 0 0, vI (iaI as 1), vI (iaI as 2), vI (iaI as 3)] ∧ (CV μ), fun σ as μ ov μ' => (((0 ≤ (iaI as 1) ∧ (iaI as 1) ≤ 3) ∧ (0 ≤ (iaI as 2) ∧ (iaI as 2) ≤ 3)) ∧ (0 ≤ (iaI as 3) ∧ (iaI as 3) ≤ 3)) ∧ ov = some (vL (if (iaI as 3) = 0 then μ 9 (iaI as 1) (iaI as 2) else if (iaI as 3) = 1 then lentF (al μ) (10 + (iaI as 1)) (iaI as 2) else if (iaI as 3) = 2 then μ 11 (iaI as 1) (iaI as 2) else μ 12 0 (iaI as 1))) ∧ μ' = μ ∧ PB μ μ', fun σ as μ k => (k = 1 ∧ ¬ ((0 ≤ (iaI as 1) ∧ (iaI as 1) ≤ 3) ∧ (0 ≤ (iaI as 2) ∧ (iaI as 2) ≤ 3))) ∨ (k = 2 ∧ ((0 ≤ (iaI as 1) ∧ (iaI as 1) ≤ 3) ∧ (0 ≤ (iaI as 2) ∧ (iaI as 2) ≤ 3)) ∧ ¬ (0 ≤ (iaI as 3) ∧ (iaI as 3) ≤ 3)))
def cd_X4_lenderOf : Cd := mkcd k_X4_lenderOf co_X4 fl_X4 [] [(97, cl_X4_needLender), (72, cl_X4_needStock), (77, cl_X4_needRange)] [] [] 4 2 3
set_option maxHeartbeats 4000000 in
set_option maxRecDepth 20000 in
theorem run_X4_lenderOf {ER : Option AV → Mm → Prop} {ET : Nat → Mm → Prop} (σ μ : Mm) (l s w : Int) (hM : MR fam0 μ) (h_l : in32 l) (h_s : in32 s) (h_w : in32 w) (hP : CV μ) (hER : ∀ ov μ', ((((0 ≤ l ∧ l ≤ 3) ∧ (0 ≤ s ∧ s ≤ 3)) ∧ (0 ≤ w ∧ w ≤ 3)) ∧ ov = some (vL (if w = 0 then μ 9 l s else if w = 1 then lentF (al μ) (10 + l) s else if w = 2 then μ 11 l s else μ 12 0 l)) ∧ μ' = μ ∧ PB μ μ') → ER ov μ') (hET : ∀ k, ((k = 1 ∧ ¬ ((0 ≤ l ∧ l ≤ 3) ∧ (0 ≤ s ∧ s ≤ 3))) ∨ (k = 2 ∧ ((0 ≤ l ∧ l ≤ 3) ∧ (0 ≤ s ∧ s ≤ 3)) ∧ ¬ (0 ≤ w ∧ w ≤ 3))) → ET k μ) : Run fam0 none cd_X4_lenderOf ER ET 0 0 [some (vR 0 0), some (vI l), some (vI s), some (vI w)] [] μ := by
  have hP0 := hP
  obtain ⟨hK, hW, hX, hC⟩ := hP
  have hkl : (0 ≤ l ∧ l ≤ 3) → (0 ≤ s ∧ s ≤ 3) → _ := fun q1 q2 => ki_len hK q1 q2
  refine run_k 2 ?_
  show ∃ σ : Mm, cl_X4_needLender.2.2.1 σ [vI l] μ ∧ (∀ ov μ', cl_X4_needLender.2.2.2.1 σ [vI l] μ ov μ' → Run fam0 none cd_X4_lenderOf ER ET 4 1 [some (vR 0 0), some (vI l), some (vI s), some (vI w)] (ov.toList ++ []) μ') ∧ ∀ kx, cl_X4_needLender.2.2.2.2 σ [vI l] μ kx → thr cd_X4_lenderOf ET (Run fam0 none cd_X4_lenderOf ER ET) 1 1 [some (vR 0 0), some (vI l), some (vI s), some (vI w)] μ kx
  refine ⟨μ, ⟨rfl, show True from True.intro⟩, fun ov μ' hq => ?_, fun kx hk => (by have hk : kx = 1 ∧ ¬ (0 ≤ l ∧ l ≤ 3) := hk; exact hET kx (by omega))⟩
  obtain ⟨hov, hmu, hc1⟩ : ov = none ∧ μ' = μ ∧ (0 ≤ l ∧ l ≤ 3) := hq
  rw [hov, hmu]
  show Run fam0 none cd_X4_lenderOf ER ET 4 1 [some (vR 0 0), some (vI l), some (vI s), some (vI w)] [] μ
  refine run_k 2 ?_
  show ∃ σ : Mm, cl_X4_needStock.2.2.1 σ [vI s] μ ∧ (∀ ov μ', cl_X4_needStock.2.2.2.1 σ [vI s] μ ov μ' → Run fam0 none cd_X4_lenderOf ER ET 8 2 [some (vR 0 0), some (vI l), some (vI s), some (vI w)] (ov.toList ++ []) μ') ∧ ∀ kx, cl_X4_needStock.2.2.2.2 σ [vI s] μ kx → thr cd_X4_lenderOf ET (Run fam0 none cd_X4_lenderOf ER ET) 5 2 [some (vR 0 0), some (vI l), some (vI s), some (vI w)] μ kx
  refine ⟨μ, ⟨rfl, show True from True.intro⟩, fun ov μ' hq => ?_, fun kx hk => (by have hk : kx = 1 ∧ ¬ (0 ≤ s ∧ s ≤ 3) := hk; exact hET kx (by omega))⟩
  obtain ⟨hov, hmu, hc2⟩ : ov = none ∧ μ' = μ ∧ (0 ≤ s ∧ s ≤ 3) := hq
  rw [hov, hmu]
  show Run fam0 none cd_X4_lenderOf ER ET 8 2 [some (vR 0 0), some (vI l), some (vI s), some (vI w)] [] μ
  refine run_k 4 ?_
  show ∃ σ : Mm, cl_X4_needRange.2.2.1 σ [vI w, vI 0, vI 3] μ ∧ (∀ ov μ', cl_X4_needRange.2.2.2.1 σ [vI w, vI 0, vI 3] μ ov μ' → Run fam0 none cd_X4_lenderOf ER ET 14 3 [some (vR 0 0), some (vI l), some (vI s), some (vI w)] (ov.toList ++ []) μ') ∧ ∀ kx, cl_X4_needRange.2.2.2.2 σ [vI w, vI 0, vI 3] μ kx → thr cd_X4_lenderOf ET (Run fam0 none cd_X4_lenderOf ER ET) 11 3 [some (vR 0 0), some (vI l), some (vI s), some (vI w)] μ kx
  refine ⟨μ, ⟨rfl, show True from True.intro⟩, fun ov μ' hq => ?_, fun kx hk => (by have hk : kx = 2 ∧ ¬ (0 ≤ w ∧ w ≤ 3) := hk; exact hET kx (by omega))⟩
  obtain ⟨hov, hmu, hc3⟩ : ov = none ∧ μ' = μ ∧ (0 ≤ w ∧ w ≤ 3) := hq
  rw [hov, hmu]
  show Run fam0 none cd_X4_lenderOf ER ET 14 3 [some (vR 0 0), some (vI l), some (vI s), some (vI w)] [] μ
  refine run_k 2 ?_
  show ((w = 0 → Run fam0 none cd_X4_lenderOf ER ET 40 3 [some (vR 0 0), some (vI l), some (vI s), some (vI w)] [] μ) ∧ (w = 0 + 1 → Run fam0 none cd_X4_lenderOf ER ET 50 3 [some (vR 0 0), some (vI l), some (vI s), some (vI w)] [] μ) ∧ (w = 0 + 1 + 1 → Run fam0 none cd_X4_lenderOf ER ET 63 3 [some (vR 0 0), some (vI l), some (vI s), some (vI w)] [] μ) ∧ True) ∧ (w < 0 ∨ 0 + 3 ≤ w → Run fam0 none cd_X4_lenderOf ER ET 73 3 [some (vR 0 0), some (vI l), some (vI s), some (vI w)] [] μ) ∧ 0 + 3 = 2 + 1
  refine ⟨⟨fun c4 => ?_, fun c4 => ?_, fun c4 => ?_, True.intro⟩, fun c4 => ?_, by decide⟩
  · refine run_k 8 ?_
    show (0 ≤ l ∧ l < 4) ∧ ((0 ≤ s ∧ s < 4) ∧ (ER (some (vL (μ 9 l s))) μ))
    refine ⟨by omega, ?_⟩
    refine ⟨by omega, ?_⟩
    have hk9 := hkl (by omega) (by omega)
    exact hER _ _ ⟨by omega, congrArg (fun z => some (vL z)) (by (first | rw [if_pos (by omega)] | (rw [if_neg (by omega)]; first | rw [if_pos (by omega)] | (rw [if_neg (by omega)]; first | rw [if_pos (by omega)] | rw [if_neg (by omega)]))) <;> omega), rfl, PB_rf hP0⟩
  · refine run_k 10 ?_
    show (0 ≤ (w32 (10 + l)) ∧ (w32 (10 + l)) < 14) ∧ ((0 ≤ s ∧ s < 4) ∧ (ER (some (vL (μ 14 (w32 (10 + l)) s))) μ))
    rw [show w32 (10 + l) = 10 + l from w32_id (by simp only [in32]; omega)]
    refine ⟨by omega, ?_⟩
    refine ⟨by omega, ?_⟩
    have hk9 := hkl (by omega) (by omega)
    exact hER _ _ ⟨by omega, congrArg (fun z => some (vL z)) (by (first | rw [if_pos (by omega)] | (rw [if_neg (by omega)]; first | rw [if_pos (by omega)] | (rw [if_neg (by omega)]; first | rw [if_pos (by omega)] | rw [if_neg (by omega)]))) <;> omega), rfl, PB_rf hP0⟩
  · refine run_k 8 ?_
    show (0 ≤ l ∧ l < 4) ∧ ((0 ≤ s ∧ s < 4) ∧ (ER (some (vL (μ 11 l s))) μ))
    refine ⟨by omega, ?_⟩
    refine ⟨by omega, ?_⟩
    have hk9 := hkl (by omega) (by omega)
    exact hER _ _ ⟨by omega, congrArg (fun z => some (vL z)) (by (first | rw [if_pos (by omega)] | (rw [if_neg (by omega)]; first | rw [if_pos (by omega)] | (rw [if_neg (by omega)]; first | rw [if_pos (by omega)] | rw [if_neg (by omega)]))) <;> omega), rfl, PB_rf hP0⟩
  · refine run_k 5 ?_
    show (0 ≤ l ∧ l < 4) ∧ (ER (some (vL (μ 12 0 l))) μ)
    refine ⟨by omega, ?_⟩
    have hk9 := hkl (by omega) (by omega)
    exact hER _ _ ⟨by omega, congrArg (fun z => some (vL z)) (by (first | rw [if_pos (by omega)] | (rw [if_neg (by omega)]; first | rw [if_pos (by omega)] | (rw [if_neg (by omega)]; first | rw [if_pos (by omega)] | rw [if_neg (by omega)]))) <;> omega), rfl, PB_rf hP0⟩
set_option maxRecDepth 20000 in
theorem con_X4_lenderOf (l : Launch) (htr : l.stackTraces = false) (σ : Mm) : CON fam0 63 l yX4_lenderOf (Cond.code yX4_lenderOf cX4_lenderOf 4 (some .long) :: wm) 7 104 3 (cl_X4_lenderOf.2.2.1 σ) (cl_X4_lenderOf.2.2.2.1 σ) (cl_X4_lenderOf.2.2.2.2 σ) :=
  con_of (cd := cd_X4_lenderOf) (own := RX4) (rk := 2) (sc_of htr (by decide) k_X4_lenderOf_ok (by decide +kernel) co_X4_ok fl_X4_ok all_nil (all_cons ⟨yX4_needLender, cX4_needLender, 1, none, 6, 82, con_X4_needLender l htr, vw_X4_97, ⟨by decide, by decide, by decide +kernel⟩, ⟨by decide, by decide⟩⟩ (all_cons ⟨yX4_needStock, cX4_needStock, 1, none, 6, 82, con_X4_needStock l htr, vw_X4_72, ⟨by decide, by decide, by decide +kernel⟩, ⟨by decide, by decide⟩⟩ (all_cons ⟨yX4_needRange, cX4_needRange, 3, none, 6, 82, con_X4_needRange l htr, vw_X4_77, ⟨by decide, by decide, by decide +kernel⟩, ⟨by decide, by decide⟩⟩ all_nil))) all_nil) rfl (by decide +kernel) rfl rfl rfl rfl (fun as μ hs => by rw [hs.1]; exact Nat.le_of_ble_eq_true rfl)
    (fun as μ hs hM hrg => by
      have hs1 := hs.1
      have hmem : ∀ v, v ∈ ([vR 0 0, vI (iaI as 1), vI (iaI as 2), vI (iaI as 3)] : List AV) → rg fam0 v := by rw [← hs1]; exact hrg
      have key := run_X4_lenderOf (ER := cl_X4_lenderOf.2.2.2.1 σ as μ) (ET := fun k μ' => cl_X4_lenderOf.2.2.2.2 σ as μ k ∧ μ' = μ) σ μ (iaI as 1) (iaI as 2) (iaI as 3) hM (hmem (vI (iaI as 1)) (by simp)) (hmem (vI (iaI as 2)) (by simp)) (hmem (vI (iaI as 3)) (by simp)) hs.2 (fun ov μ' h => h) (fun k h => ⟨h, rfl⟩)
      have e : entL as 4 = [some (vR 0 0), some (vI (iaI as 1)), some (vI (iaI as 2)), some (vI (iaI as 3))] := by rw [hs1]; rfl
      rw [e]; exact key)
/-! ### Primeborrow.loanOf -/
def cl_X4_loanOf : Cl := (3, 2, fun σ as μ => as = [vR 0 0, vI (iaI as 1), vI (iaI as 2)] ∧ (CV μ), fun σ as μ ov μ' => ((0 ≤ (iaI as 1) ∧ (iaI as 1) < μ 15 0 5) ∧ (0 ≤ (iaI as 2) ∧ (iaI as 2) ≤ 4)) ∧ ov = some (vI (if (iaI as 2) = 0 then μ 16 0 (iaI as 1) else if (iaI as 2) = 1 then μ 17 0 (iaI as 1) else if (iaI as 2) = 2 then μ 18 0 (iaI as 1) else if (iaI as 2) = 3 then μ 19 0 (iaI as 1) else μ 20 0 (iaI as 1))) ∧ μ' = μ ∧ PB μ μ', fun σ as μ k => (k = 1 ∧ ¬ (0 ≤ (iaI as 1) ∧ (iaI as 1) < μ 15 0 5)) ∨ (k = 2 ∧ (0 ≤ (iaI as 1) ∧ (iaI as 1) < μ 15 0 5) ∧ ¬ (0 ≤ (iaI as 2) ∧ (iaI as 2) ≤ 4)))
def cd_X4_loanOf : Cd := mkcd k_X4_loanOf co_X4 fl_X4 [(189, cl_X4_needLoan)] [(77, cl_X4_needRange)] [] [] 3 1 2
set_option maxHeartbeats 4000000 in
set_option maxRecDepth 20000 in
theorem run_X4_loanOf {ER : Option AV → Mm → Prop} {ET : Nat → Mm → Prop} (σ μ : Mm) (q w : Int) (hM : MR fam0 μ) (h_q : in32 q) (h_w : in32 w) (hP : CV μ) (hER : ∀ ov μ', (((0 ≤ q ∧ q < μ 15 0 5) ∧ (0 ≤ w ∧ w ≤ 4)) ∧ ov = some (vI (if w = 0 then μ 16 0 q else if w = 1 then μ 17 0 q else if w = 2 then μ 18 0 q else if w = 3 then μ 19 0 q else μ 20 0 q)) ∧ μ' = μ ∧ PB μ μ') → ER ov μ') (hET : ∀ k, ((k = 1 ∧ ¬ (0 ≤ q ∧ q < μ 15 0 5)) ∨ (k = 2 ∧ (0 ≤ q ∧ q < μ 15 0 5) ∧ ¬ (0 ≤ w ∧ w ≤ 4))) → ET k μ) : Run fam0 none cd_X4_loanOf ER ET 0 0 [some (vR 0 0), some (vI q), some (vI w)] [] μ := by
  have hP0 := hP
  obtain ⟨hK, hW, hX, hC⟩ := hP
  have hl0 : 0 ≤ μ 15 0 5 ∧ μ 15 0 5 ≤ 1000 := hK.1.1.1
  refine run_k 3 ?_
  show ∃ σ : Mm, cl_X4_needLoan.2.2.1 σ [vR 0 0, vI q] μ ∧ (∀ ov μ', cl_X4_needLoan.2.2.2.1 σ [vR 0 0, vI q] μ ov μ' → Run fam0 none cd_X4_loanOf ER ET 5 1 [some (vR 0 0), some (vI q), some (vI w)] (ov.toList ++ []) μ') ∧ ∀ kx, cl_X4_needLoan.2.2.2.2 σ [vR 0 0, vI q] μ kx → thr cd_X4_loanOf ET (Run fam0 none cd_X4_loanOf ER ET) 2 1 [some (vR 0 0), some (vI q), some (vI w)] μ kx
  refine ⟨μ, ⟨rfl, show True from True.intro⟩, fun ov μ' hq => ?_, fun kx hk => (by have hk : kx = 1 ∧ ¬ (0 ≤ q ∧ q < μ 15 0 5) := hk; exact hET kx (by omega))⟩
  obtain ⟨hov, hmu, hc1⟩ : ov = none ∧ μ' = μ ∧ (0 ≤ q ∧ q < μ 15 0 5) := hq
  rw [hov, hmu]
  show Run fam0 none cd_X4_loanOf ER ET 5 1 [some (vR 0 0), some (vI q), some (vI w)] [] μ
  refine run_k 4 ?_
  show ∃ σ : Mm, cl_X4_needRange.2.2.1 σ [vI w, vI 0, vI 4] μ ∧ (∀ ov μ', cl_X4_needRange.2.2.2.1 σ [vI w, vI 0, vI 4] μ ov μ' → Run fam0 none cd_X4_loanOf ER ET 11 2 [some (vR 0 0), some (vI q), some (vI w)] (ov.toList ++ []) μ') ∧ ∀ kx, cl_X4_needRange.2.2.2.2 σ [vI w, vI 0, vI 4] μ kx → thr cd_X4_loanOf ET (Run fam0 none cd_X4_loanOf ER ET) 8 2 [some (vR 0 0), some (vI q), some (vI w)] μ kx
  refine ⟨μ, ⟨rfl, show True from True.intro⟩, fun ov μ' hq => ?_, fun kx hk => (by have hk : kx = 2 ∧ ¬ (0 ≤ w ∧ w ≤ 4) := hk; exact hET kx (by omega))⟩
  obtain ⟨hov, hmu, hc2⟩ : ov = none ∧ μ' = μ ∧ (0 ≤ w ∧ w ≤ 4) := hq
  rw [hov, hmu]
  show Run fam0 none cd_X4_loanOf ER ET 11 2 [some (vR 0 0), some (vI q), some (vI w)] [] μ
  refine run_k 2 ?_
  show ((w = 0 → Run fam0 none cd_X4_loanOf ER ET 44 2 [some (vR 0 0), some (vI q), some (vI w)] [] μ) ∧ (w = 0 + 1 → Run fam0 none cd_X4_loanOf ER ET 54 2 [some (vR 0 0), some (vI q), some (vI w)] [] μ) ∧ (w = 0 + 1 + 1 → Run fam0 none cd_X4_loanOf ER ET 64 2 [some (vR 0 0), some (vI q), some (vI w)] [] μ) ∧ (w = 0 + 1 + 1 + 1 → Run fam0 none cd_X4_loanOf ER ET 74 2 [some (vR 0 0), some (vI q), some (vI w)] [] μ) ∧ True) ∧ (w < 0 ∨ 0 + 4 ≤ w → Run fam0 none cd_X4_loanOf ER ET 84 2 [some (vR 0 0), some (vI q), some (vI w)] [] μ) ∧ 0 + 4 = 3 + 1
  refine ⟨⟨fun c3 => ?_, fun c3 => ?_, fun c3 => ?_, fun c3 => ?_, True.intro⟩, fun c3 => ?_, by decide⟩
  · refine run_k 6 ?_
    show (0 ≤ q ∧ q < 1000) ∧ (ER (some (vI (μ 16 0 q))) μ)
    refine ⟨by omega, ?_⟩
    exact hER _ _ ⟨by omega, congrArg (fun z => some (vI z)) (by first | rw [if_pos (by omega)] | (rw [if_neg (by omega)]; first | rw [if_pos (by omega)] | (rw [if_neg (by omega)]; first | rw [if_pos (by omega)] | (rw [if_neg (by omega)]; first | rw [if_pos (by omega)] | rw [if_neg (by omega)])))), rfl, PB_rf hP0⟩
  · refine run_k 6 ?_
    show (0 ≤ q ∧ q < 1000) ∧ (ER (some (vI (μ 17 0 q))) μ)
    refine ⟨by omega, ?_⟩
    exact hER _ _ ⟨by omega, congrArg (fun z => some (vI z)) (by first | rw [if_pos (by omega)] | (rw [if_neg (by omega)]; first | rw [if_pos (by omega)] | (rw [if_neg (by omega)]; first | rw [if_pos (by omega)] | (rw [if_neg (by omega)]; first | rw [if_pos (by omega)] | rw [if_neg (by omega)])))), rfl, PB_rf hP0⟩
  · refine run_k 6 ?_
    show (0 ≤ q ∧ q < 1000) ∧ (ER (some (vI (μ 18 0 q))) μ)
    refine ⟨by omega, ?_⟩
    exact hER _ _ ⟨by omega, congrArg (fun z => some (vI z)) (by first | rw [if_pos (by omega)] | (rw [if_neg (by omega)]; first | rw [if_pos (by omega)] | (rw [if_neg (by omega)]; first | rw [if_pos (by omega)] | (rw [if_neg (by omega)]; first | rw [if_pos (by omega)] | rw [if_neg (by omega)])))), rfl, PB_rf hP0⟩
  · refine run_k 6 ?_
    show (0 ≤ q ∧ q < 1000) ∧ (ER (some (vI (μ 19 0 q))) μ)
    refine ⟨by omega, ?_⟩
    exact hER _ _ ⟨by omega, congrArg (fun z => some (vI z)) (by first | rw [if_pos (by omega)] | (rw [if_neg (by omega)]; first | rw [if_pos (by omega)] | (rw [if_neg (by omega)]; first | rw [if_pos (by omega)] | (rw [if_neg (by omega)]; first | rw [if_pos (by omega)] | rw [if_neg (by omega)])))), rfl, PB_rf hP0⟩
  · refine run_k 6 ?_
    show (0 ≤ q ∧ q < 1000) ∧ (ER (some (vI (μ 20 0 q))) μ)
    refine ⟨by omega, ?_⟩
    exact hER _ _ ⟨by omega, congrArg (fun z => some (vI z)) (by first | rw [if_pos (by omega)] | (rw [if_neg (by omega)]; first | rw [if_pos (by omega)] | (rw [if_neg (by omega)]; first | rw [if_pos (by omega)] | (rw [if_neg (by omega)]; first | rw [if_pos (by omega)] | rw [if_neg (by omega)])))), rfl, PB_rf hP0⟩
theorem vw_X4_189 : ∀ w ∈ ([.methodLink RX4 189 yX4_needLoan, .instanceMethod yX4_needLoan, .selects RX4 yX4_needLoan yX4_needLoan, .initialized RX4, .code yX4_needLoan cX4_needLoan 2 none] : List Cond), w ∈ wm := wm_ps _ [664, 666, 29, 50, 667] (by decide +kernel)
set_option maxRecDepth 20000 in
theorem con_X4_loanOf (l : Launch) (htr : l.stackTraces = false) (σ : Mm) : CON fam0 63 l yX4_loanOf (Cond.code yX4_loanOf cX4_loanOf 3 (some .int) :: wm) 7 104 2 (cl_X4_loanOf.2.2.1 σ) (cl_X4_loanOf.2.2.2.1 σ) (cl_X4_loanOf.2.2.2.2 σ) :=
  con_of (cd := cd_X4_loanOf) (own := RX4) (rk := 1) (sc_of htr (by decide) k_X4_loanOf_ok (by decide +kernel) co_X4_ok fl_X4_ok (all_cons ⟨RX4, yX4_needLoan, cX4_needLoan, 2, none, 6, 82, 1, con_X4_needLoan l htr, rfl, vw_X4_189, ⟨rfl, by decide, by decide, by decide +kernel⟩, ⟨by decide, by decide⟩, fun σ as μ h => ⟨0, 0, _, h.1, rfl, TX4, 17, rfl⟩⟩ all_nil) (all_cons ⟨yX4_needRange, cX4_needRange, 3, none, 6, 82, con_X4_needRange l htr, vw_X4_77, ⟨by decide, by decide, by decide +kernel⟩, ⟨by decide, by decide⟩⟩ all_nil) all_nil) rfl (by decide +kernel) rfl rfl rfl rfl (fun as μ hs => by rw [hs.1]; exact Nat.le_of_ble_eq_true rfl)
    (fun as μ hs hM hrg => by
      have hs1 := hs.1
      have hmem : ∀ v, v ∈ ([vR 0 0, vI (iaI as 1), vI (iaI as 2)] : List AV) → rg fam0 v := by rw [← hs1]; exact hrg
      have key := run_X4_loanOf (ER := cl_X4_loanOf.2.2.2.1 σ as μ) (ET := fun k μ' => cl_X4_loanOf.2.2.2.2 σ as μ k ∧ μ' = μ) σ μ (iaI as 1) (iaI as 2) hM (hmem (vI (iaI as 1)) (by simp)) (hmem (vI (iaI as 2)) (by simp)) hs.2 (fun ov μ' h => h) (fun k h => ⟨h, rfl⟩)
      have e : entL as 3 = [some (vR 0 0), some (vI (iaI as 1)), some (vI (iaI as 2))] := by rw [hs1]; rfl
      rw [e]; exact key)
/-! ### Primeborrow.locateOf -/
def cl_X4_locateOf : Cl := (3, 2, fun σ as μ => as = [vR 0 0, vI (iaI as 1), vI (iaI as 2)] ∧ (CV μ), fun σ as μ ov μ' => ((0 ≤ (iaI as 1) ∧ (iaI as 1) < μ 21 0 5) ∧ (0 ≤ (iaI as 2) ∧ (iaI as 2) ≤ 3)) ∧ ov = some (vI (if (iaI as 2) = 0 then μ 22 0 (iaI as 1) else if (iaI as 2) = 1 then μ 23 0 (iaI as 1) else if (iaI as 2) = 2 then μ 24 0 (iaI as 1) else holdsF (al μ) (iaI as 1))) ∧ μ' = μ ∧ PB μ μ', fun σ as μ k => (k = 1 ∧ ¬ (0 ≤ (iaI as 1) ∧ (iaI as 1) < μ 21 0 5)) ∨ (k = 2 ∧ (0 ≤ (iaI as 1) ∧ (iaI as 1) < μ 21 0 5) ∧ ¬ (0 ≤ (iaI as 2) ∧ (iaI as 2) ≤ 3)))
def cd_X4_locateOf : Cd := mkcd k_X4_locateOf co_X4 fl_X4 [(127, cl_X4_needLocate), (139, cl_X4_holds)] [(77, cl_X4_needRange)] [] [] 3 1 2
set_option maxHeartbeats 4000000 in
set_option maxRecDepth 20000 in
theorem run_X4_locateOf {ER : Option AV → Mm → Prop} {ET : Nat → Mm → Prop} (σ μ : Mm) (q w : Int) (hM : MR fam0 μ) (h_q : in32 q) (h_w : in32 w) (hP : CV μ) (hER : ∀ ov μ', (((0 ≤ q ∧ q < μ 21 0 5) ∧ (0 ≤ w ∧ w ≤ 3)) ∧ ov = some (vI (if w = 0 then μ 22 0 q else if w = 1 then μ 23 0 q else if w = 2 then μ 24 0 q else holdsF (al μ) q)) ∧ μ' = μ ∧ PB μ μ') → ER ov μ') (hET : ∀ k, ((k = 1 ∧ ¬ (0 ≤ q ∧ q < μ 21 0 5)) ∨ (k = 2 ∧ (0 ≤ q ∧ q < μ 21 0 5) ∧ ¬ (0 ≤ w ∧ w ≤ 3))) → ET k μ) : Run fam0 none cd_X4_locateOf ER ET 0 0 [some (vR 0 0), some (vI q), some (vI w)] [] μ := by
  have hP0 := hP
  obtain ⟨hK, hW, hX, hC⟩ := hP
  have hk0 : 0 ≤ μ 21 0 5 ∧ μ 21 0 5 ≤ 60 := hX.2.1.1
  have hh : holdsF (al μ) q = 0 ∨ holdsF (al μ) q = 1 := bi_01
  refine run_k 3 ?_
  show ∃ σ : Mm, cl_X4_needLocate.2.2.1 σ [vR 0 0, vI q] μ ∧ (∀ ov μ', cl_X4_needLocate.2.2.2.1 σ [vR 0 0, vI q] μ ov μ' → Run fam0 none cd_X4_locateOf ER ET 5 1 [some (vR 0 0), some (vI q), some (vI w)] (ov.toList ++ []) μ') ∧ ∀ kx, cl_X4_needLocate.2.2.2.2 σ [vR 0 0, vI q] μ kx → thr cd_X4_locateOf ET (Run fam0 none cd_X4_locateOf ER ET) 2 1 [some (vR 0 0), some (vI q), some (vI w)] μ kx
  refine ⟨μ, ⟨rfl, show True from True.intro⟩, fun ov μ' hq => ?_, fun kx hk => (by have hk : kx = 1 ∧ ¬ (0 ≤ q ∧ q < μ 21 0 5) := hk; exact hET kx (by omega))⟩
  obtain ⟨hov, hmu, hc1⟩ : ov = none ∧ μ' = μ ∧ (0 ≤ q ∧ q < μ 21 0 5) := hq
  rw [hov, hmu]
  show Run fam0 none cd_X4_locateOf ER ET 5 1 [some (vR 0 0), some (vI q), some (vI w)] [] μ
  refine run_k 4 ?_
  show ∃ σ : Mm, cl_X4_needRange.2.2.1 σ [vI w, vI 0, vI 3] μ ∧ (∀ ov μ', cl_X4_needRange.2.2.2.1 σ [vI w, vI 0, vI 3] μ ov μ' → Run fam0 none cd_X4_locateOf ER ET 11 2 [some (vR 0 0), some (vI q), some (vI w)] (ov.toList ++ []) μ') ∧ ∀ kx, cl_X4_needRange.2.2.2.2 σ [vI w, vI 0, vI 3] μ kx → thr cd_X4_locateOf ET (Run fam0 none cd_X4_locateOf ER ET) 8 2 [some (vR 0 0), some (vI q), some (vI w)] μ kx
  refine ⟨μ, ⟨rfl, show True from True.intro⟩, fun ov μ' hq => ?_, fun kx hk => (by have hk : kx = 2 ∧ ¬ (0 ≤ w ∧ w ≤ 3) := hk; exact hET kx (by omega))⟩
  obtain ⟨hov, hmu, hc2⟩ : ov = none ∧ μ' = μ ∧ (0 ≤ w ∧ w ≤ 3) := hq
  rw [hov, hmu]
  show Run fam0 none cd_X4_locateOf ER ET 11 2 [some (vR 0 0), some (vI q), some (vI w)] [] μ
  refine run_k 2 ?_
  show ((w = 0 → Run fam0 none cd_X4_locateOf ER ET 40 2 [some (vR 0 0), some (vI q), some (vI w)] [] μ) ∧ (w = 0 + 1 → Run fam0 none cd_X4_locateOf ER ET 50 2 [some (vR 0 0), some (vI q), some (vI w)] [] μ) ∧ (w = 0 + 1 + 1 → Run fam0 none cd_X4_locateOf ER ET 60 2 [some (vR 0 0), some (vI q), some (vI w)] [] μ) ∧ True) ∧ (w < 0 ∨ 0 + 3 ≤ w → Run fam0 none cd_X4_locateOf ER ET 70 2 [some (vR 0 0), some (vI q), some (vI w)] [] μ) ∧ 0 + 3 = 2 + 1
  refine ⟨⟨fun c3 => ?_, fun c3 => ?_, fun c3 => ?_, True.intro⟩, fun c3 => ?_, by decide⟩
  · refine run_k 6 ?_
    show (0 ≤ q ∧ q < 60) ∧ (ER (some (vI (μ 22 0 q))) μ)
    refine ⟨by omega, ?_⟩
    exact hER _ _ ⟨by omega, congrArg (fun z => some (vI z)) (by (first | rw [if_pos (by omega)] | (rw [if_neg (by omega)]; first | rw [if_pos (by omega)] | (rw [if_neg (by omega)]; first | rw [if_pos (by omega)] | rw [if_neg (by omega)]))) <;> omega), rfl, PB_rf hP0⟩
  · refine run_k 6 ?_
    show (0 ≤ q ∧ q < 60) ∧ (ER (some (vI (μ 23 0 q))) μ)
    refine ⟨by omega, ?_⟩
    exact hER _ _ ⟨by omega, congrArg (fun z => some (vI z)) (by (first | rw [if_pos (by omega)] | (rw [if_neg (by omega)]; first | rw [if_pos (by omega)] | (rw [if_neg (by omega)]; first | rw [if_pos (by omega)] | rw [if_neg (by omega)]))) <;> omega), rfl, PB_rf hP0⟩
  · refine run_k 6 ?_
    show (0 ≤ q ∧ q < 60) ∧ (ER (some (vI (μ 24 0 q))) μ)
    refine ⟨by omega, ?_⟩
    exact hER _ _ ⟨by omega, congrArg (fun z => some (vI z)) (by (first | rw [if_pos (by omega)] | (rw [if_neg (by omega)]; first | rw [if_pos (by omega)] | (rw [if_neg (by omega)]; first | rw [if_pos (by omega)] | rw [if_neg (by omega)]))) <;> omega), rfl, PB_rf hP0⟩
  · refine run_k 3 ?_
    show ∃ σ : Mm, cl_X4_holds.2.2.1 σ [vR 0 0, vI q] μ ∧ (∀ ov μ', cl_X4_holds.2.2.2.1 σ [vR 0 0, vI q] μ ov μ' → Run fam0 none cd_X4_locateOf ER ET 75 2 [some (vR 0 0), some (vI q), some (vI w)] (ov.toList ++ []) μ') ∧ ∀ kx, cl_X4_holds.2.2.2.2 σ [vR 0 0, vI q] μ kx → thr cd_X4_locateOf ET (Run fam0 none cd_X4_locateOf ER ET) 72 2 [some (vR 0 0), some (vI q), some (vI w)] μ kx
    refine ⟨μ, ⟨rfl, show (0 ≤ q ∧ q < μ 21 0 5) ∧ μ 21 0 5 ≤ 60 from ⟨by omega, by omega⟩⟩, fun ov μ' hq => ?_, fun k hk => hk.elim⟩
    obtain ⟨hov, hmu⟩ : ov = some (vI (holdsF (al μ) q)) ∧ μ' = μ := hq
    rw [hov, hmu]
    show Run fam0 none cd_X4_locateOf ER ET 75 2 [some (vR 0 0), some (vI q), some (vI w)] [vI (holdsF (al μ) q)] μ
    refine run_k 1 ?_
    show ((holdsF (al μ) q) = 0 → Run fam0 none cd_X4_locateOf ER ET 82 2 [some (vR 0 0), some (vI q), some (vI w)] [] μ) ∧ ((holdsF (al μ) q) ≠ 0 → Run fam0 none cd_X4_locateOf ER ET 78 2 [some (vR 0 0), some (vI q), some (vI w)] [] μ)
    refine ⟨fun c8 => ?_, fun c8 => ?_⟩
    · refine run_k 2 ?_
      show ER (some (vI 0)) μ
      exact hER _ _ ⟨by omega, congrArg (fun z => some (vI z)) (by (first | rw [if_pos (by omega)] | (rw [if_neg (by omega)]; first | rw [if_pos (by omega)] | (rw [if_neg (by omega)]; first | rw [if_pos (by omega)] | rw [if_neg (by omega)]))) <;> omega), rfl, PB_rf hP0⟩
    · refine run_k 3 ?_
      show ER (some (vI 1)) μ
      exact hER _ _ ⟨by omega, congrArg (fun z => some (vI z)) (by (first | rw [if_pos (by omega)] | (rw [if_neg (by omega)]; first | rw [if_pos (by omega)] | (rw [if_neg (by omega)]; first | rw [if_pos (by omega)] | rw [if_neg (by omega)]))) <;> omega), rfl, PB_rf hP0⟩
theorem vw_X4_139 : ∀ w ∈ ([.methodLink RX4 139 yX4_holds, .instanceMethod yX4_holds, .selects RX4 yX4_holds yX4_holds, .initialized RX4, .code yX4_holds cX4_holds 2 (some .boolean)] : List Cond), w ∈ wm := wm_ps _ [551, 553, 21, 50, 554] (by decide +kernel)
theorem vw_X4_127 : ∀ w ∈ ([.methodLink RX4 127 yX4_needLocate, .instanceMethod yX4_needLocate, .selects RX4 yX4_needLocate yX4_needLocate, .initialized RX4, .code yX4_needLocate cX4_needLocate 2 none] : List Cond), w ∈ wm := wm_ps _ [546, 548, 20, 50, 549] (by decide +kernel)
set_option maxRecDepth 20000 in
theorem con_X4_locateOf (l : Launch) (htr : l.stackTraces = false) (σ : Mm) : CON fam0 63 l yX4_locateOf (Cond.code yX4_locateOf cX4_locateOf 3 (some .int) :: wm) 7 104 2 (cl_X4_locateOf.2.2.1 σ) (cl_X4_locateOf.2.2.2.1 σ) (cl_X4_locateOf.2.2.2.2 σ) :=
  con_of (cd := cd_X4_locateOf) (own := RX4) (rk := 1) (sc_of htr (by decide) k_X4_locateOf_ok (by decide +kernel) co_X4_ok fl_X4_ok (all_cons ⟨RX4, yX4_needLocate, cX4_needLocate, 2, none, 6, 82, 1, con_X4_needLocate l htr, rfl, vw_X4_127, ⟨rfl, by decide, by decide, by decide +kernel⟩, ⟨by decide, by decide⟩, fun σ as μ h => ⟨0, 0, _, h.1, rfl, TX4, 17, rfl⟩⟩ (all_cons ⟨RX4, yX4_holds, cX4_holds, 2, (some .boolean), 0, 0, 1, con_X4_holds l htr, rfl, vw_X4_139, ⟨rfl, by decide, by decide, by decide +kernel⟩, ⟨by decide, by decide⟩, fun σ as μ h => ⟨0, 0, _, h.1, rfl, TX4, 17, rfl⟩⟩ all_nil)) (all_cons ⟨yX4_needRange, cX4_needRange, 3, none, 6, 82, con_X4_needRange l htr, vw_X4_77, ⟨by decide, by decide, by decide +kernel⟩, ⟨by decide, by decide⟩⟩ all_nil) all_nil) rfl (by decide +kernel) rfl rfl rfl rfl (fun as μ hs => by rw [hs.1]; exact Nat.le_of_ble_eq_true rfl)
    (fun as μ hs hM hrg => by
      have hs1 := hs.1
      have hmem : ∀ v, v ∈ ([vR 0 0, vI (iaI as 1), vI (iaI as 2)] : List AV) → rg fam0 v := by rw [← hs1]; exact hrg
      have key := run_X4_locateOf (ER := cl_X4_locateOf.2.2.2.1 σ as μ) (ET := fun k μ' => cl_X4_locateOf.2.2.2.2 σ as μ k ∧ μ' = μ) σ μ (iaI as 1) (iaI as 2) hM (hmem (vI (iaI as 1)) (by simp)) (hmem (vI (iaI as 2)) (by simp)) hs.2 (fun ov μ' h => h) (fun k h => ⟨h, rfl⟩)
      have e : entL as 3 = [some (vR 0 0), some (vI (iaI as 1)), some (vI (iaI as 2))] := by rw [hs1]; rfl
      rw [e]; exact key)
/-! ### Primeborrow.count -/
def cl_X4_count : Cl := (2, 1, fun σ as μ => as = [vR 0 0, vI (iaI as 1)] ∧ (CV μ), fun σ as μ ov μ' => ((0 ≤ (iaI as 1) ∧ (iaI as 1) ≤ 4)) ∧ ov = some (vL (if (iaI as 1) = 0 then μ 15 0 5 else if (iaI as 1) = 1 then opF (al μ) (μ 15 0 5).toNat else if (iaI as 1) = 2 then μ 0 0 15 else if (iaI as 1) = 3 then μ 0 0 16 else mtF μ)) ∧ μ' = μ ∧ PB μ μ', fun σ as μ k => (k = 2 ∧ ¬ (0 ≤ (iaI as 1) ∧ (iaI as 1) ≤ 4)))
def cd_X4_count : Cd := mkcd k_X4_count co_X4 fl_X4 [(204, cl_X1_open), (211, cl_X3_metSoFar)] [(77, cl_X4_needRange)] [] [] 2 2 1
set_option maxHeartbeats 4000000 in
set_option maxRecDepth 20000 in
theorem run_X4_count {ER : Option AV → Mm → Prop} {ET : Nat → Mm → Prop} (σ μ : Mm) (w : Int) (hM : MR fam0 μ) (h_w : in32 w) (hP : CV μ) (hER : ∀ ov μ', (((0 ≤ w ∧ w ≤ 4)) ∧ ov = some (vL (if w = 0 then μ 15 0 5 else if w = 1 then opF (al μ) (μ 15 0 5).toNat else if w = 2 then μ 0 0 15 else if w = 3 then μ 0 0 16 else mtF μ)) ∧ μ' = μ ∧ PB μ μ') → ER ov μ') (hET : ∀ k, ((k = 2 ∧ ¬ (0 ≤ w ∧ w ≤ 4))) → ET k μ) : Run fam0 none cd_X4_count ER ET 0 0 [some (vR 0 0), some (vI w)] [] μ := by
  have hP0 := hP
  obtain ⟨hK, hW, hX, hC⟩ := hP
  have hl0 : 0 ≤ μ 15 0 5 ∧ μ 15 0 5 ≤ 1000 := hK.1.1.1
  have hr0 : 0 ≤ μ 27 0 5 ∧ μ 27 0 5 ≤ 40 := hX.2.2.1.1
  refine run_k 4 ?_
  show ∃ σ : Mm, cl_X4_needRange.2.2.1 σ [vI w, vI 0, vI 4] μ ∧ (∀ ov μ', cl_X4_needRange.2.2.2.1 σ [vI w, vI 0, vI 4] μ ov μ' → Run fam0 none cd_X4_count ER ET 6 1 [some (vR 0 0), some (vI w)] (ov.toList ++ []) μ') ∧ ∀ kx, cl_X4_needRange.2.2.2.2 σ [vI w, vI 0, vI 4] μ kx → thr cd_X4_count ET (Run fam0 none cd_X4_count ER ET) 3 1 [some (vR 0 0), some (vI w)] μ kx
  refine ⟨μ, ⟨rfl, show True from True.intro⟩, fun ov μ' hq => ?_, fun kx hk => (by have hk : kx = 2 ∧ ¬ (0 ≤ w ∧ w ≤ 4) := hk; exact hET kx (by omega))⟩
  obtain ⟨hov, hmu, hc1⟩ : ov = none ∧ μ' = μ ∧ (0 ≤ w ∧ w ≤ 4) := hq
  rw [hov, hmu]
  show Run fam0 none cd_X4_count ER ET 6 1 [some (vR 0 0), some (vI w)] [] μ
  refine run_k 2 ?_
  show ((w = 0 → Run fam0 none cd_X4_count ER ET 36 1 [some (vR 0 0), some (vI w)] [] μ) ∧ (w = 0 + 1 → Run fam0 none cd_X4_count ER ET 45 1 [some (vR 0 0), some (vI w)] [] μ) ∧ (w = 0 + 1 + 1 → Run fam0 none cd_X4_count ER ET 54 1 [some (vR 0 0), some (vI w)] [] μ) ∧ (w = 0 + 1 + 1 + 1 → Run fam0 none cd_X4_count ER ET 59 1 [some (vR 0 0), some (vI w)] [] μ) ∧ True) ∧ (w < 0 ∨ 0 + 4 ≤ w → Run fam0 none cd_X4_count ER ET 64 1 [some (vR 0 0), some (vI w)] [] μ) ∧ 0 + 4 = 3 + 1
  refine ⟨⟨fun c2 => ?_, fun c2 => ?_, fun c2 => ?_, fun c2 => ?_, True.intro⟩, fun c2 => ?_, by decide⟩
  · refine run_k 5 ?_
    show ER (some (vL (μ 15 0 5))) μ
    exact hER _ _ ⟨by omega, congrArg (fun z => some (vL z)) (by first | rw [if_pos (by omega)] | (rw [if_neg (by omega)]; first | rw [if_pos (by omega)] | (rw [if_neg (by omega)]; first | rw [if_pos (by omega)] | (rw [if_neg (by omega)]; first | rw [if_pos (by omega)] | rw [if_neg (by omega)])))), rfl, PB_rf hP0⟩
  · refine run_k 3 ?_
    show ∃ σ : Mm, cl_X1_open.2.2.1 σ [vR 15 0] μ ∧ (∀ ov μ', cl_X1_open.2.2.2.1 σ [vR 15 0] μ ov μ' → Run fam0 none cd_X4_count ER ET 52 1 [some (vR 0 0), some (vI w)] (ov.toList ++ []) μ') ∧ ∀ kx, cl_X1_open.2.2.2.2 σ [vR 15 0] μ kx → thr cd_X4_count ET (Run fam0 none cd_X4_count ER ET) 49 1 [some (vR 0 0), some (vI w)] μ kx
    refine ⟨μ, ⟨rfl, show 0 ≤ μ 15 0 5 ∧ μ 15 0 5 ≤ 1000 from by omega⟩, fun ov μ' hq => ?_, fun k hk => hk.elim⟩
    obtain ⟨hov, hmu⟩ : ov = some (vI (opF (al μ) (μ 15 0 5).toNat)) ∧ μ' = μ := hq
    rw [hov, hmu]
    show Run fam0 none cd_X4_count ER ET 52 1 [some (vR 0 0), some (vI w)] [vI (opF (al μ) (μ 15 0 5).toNat)] μ
    refine run_k 2 ?_
    show ER (some (vL (opF (al μ) (μ 15 0 5).toNat))) μ
    exact hER _ _ ⟨by omega, congrArg (fun z => some (vL z)) (by first | rw [if_pos (by omega)] | (rw [if_neg (by omega)]; first | rw [if_pos (by omega)] | (rw [if_neg (by omega)]; first | rw [if_pos (by omega)] | (rw [if_neg (by omega)]; first | rw [if_pos (by omega)] | rw [if_neg (by omega)])))), rfl, PB_rf hP0⟩
  · refine run_k 3 ?_
    show ER (some (vL (μ 0 0 15))) μ
    exact hER _ _ ⟨by omega, congrArg (fun z => some (vL z)) (by first | rw [if_pos (by omega)] | (rw [if_neg (by omega)]; first | rw [if_pos (by omega)] | (rw [if_neg (by omega)]; first | rw [if_pos (by omega)] | (rw [if_neg (by omega)]; first | rw [if_pos (by omega)] | rw [if_neg (by omega)])))), rfl, PB_rf hP0⟩
  · refine run_k 3 ?_
    show ER (some (vL (μ 0 0 16))) μ
    exact hER _ _ ⟨by omega, congrArg (fun z => some (vL z)) (by first | rw [if_pos (by omega)] | (rw [if_neg (by omega)]; first | rw [if_pos (by omega)] | (rw [if_neg (by omega)]; first | rw [if_pos (by omega)] | (rw [if_neg (by omega)]; first | rw [if_pos (by omega)] | rw [if_neg (by omega)])))), rfl, PB_rf hP0⟩
  · refine run_k 3 ?_
    show ∃ σ : Mm, cl_X3_metSoFar.2.2.1 σ [vR 27 0] μ ∧ (∀ ov μ', cl_X3_metSoFar.2.2.2.1 σ [vR 27 0] μ ov μ' → Run fam0 none cd_X4_count ER ET 71 1 [some (vR 0 0), some (vI w)] (ov.toList ++ []) μ') ∧ ∀ kx, cl_X3_metSoFar.2.2.2.2 σ [vR 27 0] μ kx → thr cd_X4_count ET (Run fam0 none cd_X4_count ER ET) 68 1 [some (vR 0 0), some (vI w)] μ kx
    refine ⟨μ, ⟨rfl, show 0 ≤ μ 27 0 5 ∧ μ 27 0 5 ≤ 40 from by omega⟩, fun ov μ' hq => ?_, fun k hk => hk.elim⟩
    obtain ⟨hov, hmu⟩ : ov = some (vI (mtF μ)) ∧ μ' = μ := hq
    rw [hov, hmu]
    show Run fam0 none cd_X4_count ER ET 71 1 [some (vR 0 0), some (vI w)] [vI (mtF μ)] μ
    refine run_k 2 ?_
    show ER (some (vL (mtF μ))) μ
    exact hER _ _ ⟨by omega, congrArg (fun z => some (vL z)) (by first | rw [if_pos (by omega)] | (rw [if_neg (by omega)]; first | rw [if_pos (by omega)] | (rw [if_neg (by omega)]; first | rw [if_pos (by omega)] | (rw [if_neg (by omega)]; first | rw [if_pos (by omega)] | rw [if_neg (by omega)])))), rfl, PB_rf hP0⟩
theorem vw_X4_211 : ∀ w ∈ ([.methodLink RX4 211 yX3_metSoFar, .instanceMethod yX3_metSoFar, .selects RX3 yX3_metSoFar yX3_metSoFar, .initialized RX3, .code yX3_metSoFar cX3_metSoFar 3 (some .int)] : List Cond), w ∈ wm := wm_ps _ [687, 688, 689, 53, 690] (by decide +kernel)
theorem vw_X4_204 : ∀ w ∈ ([.methodLink RX4 204 yX1_open, .instanceMethod yX1_open, .selects RX1 yX1_open yX1_open, .initialized RX1, .code yX1_open cX1_open 3 (some .int)] : List Cond), w ∈ wm := wm_ps _ [683, 684, 685, 51, 686] (by decide +kernel)
set_option maxRecDepth 20000 in
theorem con_X4_count (l : Launch) (htr : l.stackTraces = false) (σ : Mm) : CON fam0 63 l yX4_count (Cond.code yX4_count cX4_count 2 (some .long) :: wm) 7 104 1 (cl_X4_count.2.2.1 σ) (cl_X4_count.2.2.2.1 σ) (cl_X4_count.2.2.2.2 σ) :=
  con_of (cd := cd_X4_count) (own := RX4) (rk := 2) (sc_of htr (by decide) k_X4_count_ok (by decide +kernel) co_X4_ok fl_X4_ok (all_cons ⟨RX1, yX1_open, cX1_open, 3, (some .int), 0, 0, 0, con_X1_open l htr, rfl, vw_X4_204, ⟨rfl, by decide, by decide, by decide +kernel⟩, ⟨by decide, by decide⟩, fun σ as μ h => ⟨15, 0, _, h.1, rfl, TX1, 6, rfl⟩⟩ (all_cons ⟨RX3, yX3_metSoFar, cX3_metSoFar, 3, (some .int), 0, 0, 0, con_X3_metSoFar l htr, rfl, vw_X4_211, ⟨rfl, by decide, by decide, by decide +kernel⟩, ⟨by decide, by decide⟩, fun σ as μ h => ⟨27, 0, _, h.1, rfl, TX3, 6, rfl⟩⟩ all_nil)) (all_cons ⟨yX4_needRange, cX4_needRange, 3, none, 6, 82, con_X4_needRange l htr, vw_X4_77, ⟨by decide, by decide, by decide +kernel⟩, ⟨by decide, by decide⟩⟩ all_nil) all_nil) rfl (by decide +kernel) rfl rfl rfl rfl (fun as μ hs => by rw [hs.1]; exact Nat.le_of_ble_eq_true rfl)
    (fun as μ hs hM hrg => by
      have hs1 := hs.1
      have hmem : ∀ v, v ∈ ([vR 0 0, vI (iaI as 1)] : List AV) → rg fam0 v := by rw [← hs1]; exact hrg
      have key := run_X4_count (ER := cl_X4_count.2.2.2.1 σ as μ) (ET := fun k μ' => cl_X4_count.2.2.2.2 σ as μ k ∧ μ' = μ) σ μ (iaI as 1) hM (hmem (vI (iaI as 1)) (by simp)) hs.2 (fun ov μ' h => h) (fun k h => ⟨h, rfl⟩)
      have e : entL as 2 = [some (vR 0 0), some (vI (iaI as 1))] := by rw [hs1]; rfl
      rw [e]; exact key)
/-! ### Primeborrow.stockOf -/
def cl_X4_stockOf : Cl := (3, 2, fun σ as μ => as = [vR 0 0, vI (iaI as 1), vI (iaI as 2)] ∧ (CV μ), fun σ as μ ov μ' => ((0 ≤ (iaI as 1) ∧ (iaI as 1) ≤ 3) ∧ (0 ≤ (iaI as 2) ∧ (iaI as 2) ≤ 6)) ∧ ov = some (vI (if (iaI as 2) = 0 then μ 1 0 (iaI as 1) else if (iaI as 2) = 1 then longF (al μ) (iaI as 1) else if (iaI as 2) = 2 then shtF (al μ) (iaI as 1) else if (iaI as 2) = 3 then longF (al μ) (iaI as 1) - lbF (al μ) (iaI as 1) else if (iaI as 2) = 4 then lbF (al μ) (iaI as 1) else if (iaI as 2) = 5 then llF (al μ) (iaI as 1) else μ 2 0 (iaI as 1))) ∧ μ' = μ ∧ PB μ μ', fun σ as μ k => (k = 1 ∧ ¬ (0 ≤ (iaI as 1) ∧ (iaI as 1) ≤ 3)) ∨ (k = 2 ∧ (0 ≤ (iaI as 1) ∧ (iaI as 1) ≤ 3) ∧ ¬ (0 ≤ (iaI as 2) ∧ (iaI as 2) ≤ 6)))
def cd_X4_stockOf : Cd := mkcd k_X4_stockOf co_X4 fl_X4 [(177, cl_X4_allLong), (180, cl_X4_allShort), (183, cl_X4_lentFromBox), (186, cl_X4_lentByLenders)] [(72, cl_X4_needStock), (77, cl_X4_needRange)] [] [] 3 1 2
set_option maxHeartbeats 4000000 in
set_option maxRecDepth 20000 in
theorem run_X4_stockOf {ER : Option AV → Mm → Prop} {ET : Nat → Mm → Prop} (σ μ : Mm) (s w : Int) (hM : MR fam0 μ) (h_s : in32 s) (h_w : in32 w) (hP : CV μ) (hER : ∀ ov μ', (((0 ≤ s ∧ s ≤ 3) ∧ (0 ≤ w ∧ w ≤ 6)) ∧ ov = some (vI (if w = 0 then μ 1 0 s else if w = 1 then longF (al μ) s else if w = 2 then shtF (al μ) s else if w = 3 then longF (al μ) s - lbF (al μ) s else if w = 4 then lbF (al μ) s else if w = 5 then llF (al μ) s else μ 2 0 s)) ∧ μ' = μ ∧ PB μ μ') → ER ov μ') (hET : ∀ k, ((k = 1 ∧ ¬ (0 ≤ s ∧ s ≤ 3)) ∨ (k = 2 ∧ (0 ≤ s ∧ s ≤ 3) ∧ ¬ (0 ≤ w ∧ w ≤ 6))) → ET k μ) : Run fam0 none cd_X4_stockOf ER ET 0 0 [some (vR 0 0), some (vI s), some (vI w)] [] μ := by
  have hP0 := hP
  obtain ⟨hK, hW, hX, hC⟩ := hP
  have hlg : (0 ≤ s ∧ s ≤ 3) → _ := fun q => lg_rng hK.1.2.1 q (n := 6) (by decide)
  have hlb := lb_rng hK.1.1 (s := s) (n := 6)
  change (0 ≤ s ∧ s ≤ 3) → 0 ≤ longF (al μ) s ∧ longF (al μ) s ≤ 500 * 6 at hlg
  change 0 ≤ lbF (al μ) s ∧ lbF (al μ) s ≤ 500000 * 6 at hlb
  refine run_k 2 ?_
  show ∃ σ : Mm, cl_X4_needStock.2.2.1 σ [vI s] μ ∧ (∀ ov μ', cl_X4_needStock.2.2.2.1 σ [vI s] μ ov μ' → Run fam0 none cd_X4_stockOf ER ET 4 1 [some (vR 0 0), some (vI s), some (vI w)] (ov.toList ++ []) μ') ∧ ∀ kx, cl_X4_needStock.2.2.2.2 σ [vI s] μ kx → thr cd_X4_stockOf ET (Run fam0 none cd_X4_stockOf ER ET) 1 1 [some (vR 0 0), some (vI s), some (vI w)] μ kx
  refine ⟨μ, ⟨rfl, show True from True.intro⟩, fun ov μ' hq => ?_, fun kx hk => (by have hk : kx = 1 ∧ ¬ (0 ≤ s ∧ s ≤ 3) := hk; exact hET kx (by omega))⟩
  obtain ⟨hov, hmu, hc1⟩ : ov = none ∧ μ' = μ ∧ (0 ≤ s ∧ s ≤ 3) := hq
  rw [hov, hmu]
  show Run fam0 none cd_X4_stockOf ER ET 4 1 [some (vR 0 0), some (vI s), some (vI w)] [] μ
  refine run_k 4 ?_
  show ∃ σ : Mm, cl_X4_needRange.2.2.1 σ [vI w, vI 0, vI 6] μ ∧ (∀ ov μ', cl_X4_needRange.2.2.2.1 σ [vI w, vI 0, vI 6] μ ov μ' → Run fam0 none cd_X4_stockOf ER ET 11 2 [some (vR 0 0), some (vI s), some (vI w)] (ov.toList ++ []) μ') ∧ ∀ kx, cl_X4_needRange.2.2.2.2 σ [vI w, vI 0, vI 6] μ kx → thr cd_X4_stockOf ET (Run fam0 none cd_X4_stockOf ER ET) 8 2 [some (vR 0 0), some (vI s), some (vI w)] μ kx
  refine ⟨μ, ⟨rfl, show True from True.intro⟩, fun ov μ' hq => ?_, fun kx hk => (by have hk : kx = 2 ∧ ¬ (0 ≤ w ∧ w ≤ 6) := hk; exact hET kx (by omega))⟩
  obtain ⟨hov, hmu, hc2⟩ : ov = none ∧ μ' = μ ∧ (0 ≤ w ∧ w ≤ 6) := hq
  rw [hov, hmu]
  show Run fam0 none cd_X4_stockOf ER ET 11 2 [some (vR 0 0), some (vI s), some (vI w)] [] μ
  refine run_k 2 ?_
  show ((w = 0 → Run fam0 none cd_X4_stockOf ER ET 52 2 [some (vR 0 0), some (vI s), some (vI w)] [] μ) ∧ (w = 0 + 1 → Run fam0 none cd_X4_stockOf ER ET 59 2 [some (vR 0 0), some (vI s), some (vI w)] [] μ) ∧ (w = 0 + 1 + 1 → Run fam0 none cd_X4_stockOf ER ET 65 2 [some (vR 0 0), some (vI s), some (vI w)] [] μ) ∧ (w = 0 + 1 + 1 + 1 → Run fam0 none cd_X4_stockOf ER ET 71 2 [some (vR 0 0), some (vI s), some (vI w)] [] μ) ∧ (w = 0 + 1 + 1 + 1 + 1 → Run fam0 none cd_X4_stockOf ER ET 83 2 [some (vR 0 0), some (vI s), some (vI w)] [] μ) ∧ (w = 0 + 1 + 1 + 1 + 1 + 1 → Run fam0 none cd_X4_stockOf ER ET 89 2 [some (vR 0 0), some (vI s), some (vI w)] [] μ) ∧ True) ∧ (w < 0 ∨ 0 + 6 ≤ w → Run fam0 none cd_X4_stockOf ER ET 95 2 [some (vR 0 0), some (vI s), some (vI w)] [] μ) ∧ 0 + 6 = 5 + 1
  refine ⟨⟨fun c3 => ?_, fun c3 => ?_, fun c3 => ?_, fun c3 => ?_, fun c3 => ?_, fun c3 => ?_, True.intro⟩, fun c3 => ?_, by decide⟩
  · refine run_k 5 ?_
    show (0 ≤ s ∧ s < 4) ∧ (ER (some (vI (μ 1 0 s))) μ)
    refine ⟨by omega, ?_⟩
    exact hER _ _ ⟨by omega, congrArg (fun z => some (vI z)) (by first | rw [if_pos (by omega)] | (rw [if_neg (by omega)]; first | rw [if_pos (by omega)] | (rw [if_neg (by omega)]; first | rw [if_pos (by omega)] | (rw [if_neg (by omega)]; first | rw [if_pos (by omega)] | (rw [if_neg (by omega)]; first | rw [if_pos (by omega)] | (rw [if_neg (by omega)]; first | rw [if_pos (by omega)] | rw [if_neg (by omega)])))))), rfl, PB_rf hP0⟩
  · refine run_k 3 ?_
    show ∃ σ : Mm, cl_X4_allLong.2.2.1 σ [vR 0 0, vI s] μ ∧ (∀ ov μ', cl_X4_allLong.2.2.2.1 σ [vR 0 0, vI s] μ ov μ' → Run fam0 none cd_X4_stockOf ER ET 64 2 [some (vR 0 0), some (vI s), some (vI w)] (ov.toList ++ []) μ') ∧ ∀ kx, cl_X4_allLong.2.2.2.2 σ [vR 0 0, vI s] μ kx → thr cd_X4_stockOf ET (Run fam0 none cd_X4_stockOf ER ET) 61 2 [some (vR 0 0), some (vI s), some (vI w)] μ kx
    refine ⟨μ, ⟨rfl, show KI μ ∧ (0 ≤ s ∧ s ≤ 3) from ⟨by assumption, by omega⟩⟩, fun ov μ' hq => ?_, fun k hk => hk.elim⟩
    obtain ⟨hov, hmu⟩ : ov = some (vI (longF (al μ) s)) ∧ μ' = μ := hq
    rw [hov, hmu]
    show Run fam0 none cd_X4_stockOf ER ET 64 2 [some (vR 0 0), some (vI s), some (vI w)] [vI (longF (al μ) s)] μ
    refine run_k 1 ?_
    show ER (some (vI (longF (al μ) s))) μ
    exact hER _ _ ⟨by omega, congrArg (fun z => some (vI z)) (by first | rw [if_pos (by omega)] | (rw [if_neg (by omega)]; first | rw [if_pos (by omega)] | (rw [if_neg (by omega)]; first | rw [if_pos (by omega)] | (rw [if_neg (by omega)]; first | rw [if_pos (by omega)] | (rw [if_neg (by omega)]; first | rw [if_pos (by omega)] | (rw [if_neg (by omega)]; first | rw [if_pos (by omega)] | rw [if_neg (by omega)])))))), rfl, PB_rf hP0⟩
  · refine run_k 3 ?_
    show ∃ σ : Mm, cl_X4_allShort.2.2.1 σ [vR 0 0, vI s] μ ∧ (∀ ov μ', cl_X4_allShort.2.2.2.1 σ [vR 0 0, vI s] μ ov μ' → Run fam0 none cd_X4_stockOf ER ET 70 2 [some (vR 0 0), some (vI s), some (vI w)] (ov.toList ++ []) μ') ∧ ∀ kx, cl_X4_allShort.2.2.2.2 σ [vR 0 0, vI s] μ kx → thr cd_X4_stockOf ET (Run fam0 none cd_X4_stockOf ER ET) 67 2 [some (vR 0 0), some (vI s), some (vI w)] μ kx
    refine ⟨μ, ⟨rfl, show KI μ ∧ (0 ≤ s ∧ s ≤ 3) from ⟨by assumption, by omega⟩⟩, fun ov μ' hq => ?_, fun k hk => hk.elim⟩
    obtain ⟨hov, hmu⟩ : ov = some (vI (shtF (al μ) s)) ∧ μ' = μ := hq
    rw [hov, hmu]
    show Run fam0 none cd_X4_stockOf ER ET 70 2 [some (vR 0 0), some (vI s), some (vI w)] [vI (shtF (al μ) s)] μ
    refine run_k 1 ?_
    show ER (some (vI (shtF (al μ) s))) μ
    exact hER _ _ ⟨by omega, congrArg (fun z => some (vI z)) (by first | rw [if_pos (by omega)] | (rw [if_neg (by omega)]; first | rw [if_pos (by omega)] | (rw [if_neg (by omega)]; first | rw [if_pos (by omega)] | (rw [if_neg (by omega)]; first | rw [if_pos (by omega)] | (rw [if_neg (by omega)]; first | rw [if_pos (by omega)] | (rw [if_neg (by omega)]; first | rw [if_pos (by omega)] | rw [if_neg (by omega)])))))), rfl, PB_rf hP0⟩
  · refine run_k 3 ?_
    show ∃ σ : Mm, cl_X4_allLong.2.2.1 σ [vR 0 0, vI s] μ ∧ (∀ ov μ', cl_X4_allLong.2.2.2.1 σ [vR 0 0, vI s] μ ov μ' → Run fam0 none cd_X4_stockOf ER ET 76 2 [some (vR 0 0), some (vI s), some (vI w)] (ov.toList ++ []) μ') ∧ ∀ kx, cl_X4_allLong.2.2.2.2 σ [vR 0 0, vI s] μ kx → thr cd_X4_stockOf ET (Run fam0 none cd_X4_stockOf ER ET) 73 2 [some (vR 0 0), some (vI s), some (vI w)] μ kx
    refine ⟨μ, ⟨rfl, show KI μ ∧ (0 ≤ s ∧ s ≤ 3) from ⟨by assumption, by omega⟩⟩, fun ov μ' hq => ?_, fun k hk => hk.elim⟩
    obtain ⟨hov, hmu⟩ : ov = some (vI (longF (al μ) s)) ∧ μ' = μ := hq
    rw [hov, hmu]
    show Run fam0 none cd_X4_stockOf ER ET 76 2 [some (vR 0 0), some (vI s), some (vI w)] [vI (longF (al μ) s)] μ
    refine run_k 3 ?_
    show ∃ σ : Mm, cl_X4_lentFromBox.2.2.1 σ [vR 0 0, vI s] μ ∧ (∀ ov μ', cl_X4_lentFromBox.2.2.2.1 σ [vR 0 0, vI s] μ ov μ' → Run fam0 none cd_X4_stockOf ER ET 81 2 [some (vR 0 0), some (vI s), some (vI w)] (ov.toList ++ [vI (longF (al μ) s)]) μ') ∧ ∀ kx, cl_X4_lentFromBox.2.2.2.2 σ [vR 0 0, vI s] μ kx → thr cd_X4_stockOf ET (Run fam0 none cd_X4_stockOf ER ET) 78 2 [some (vR 0 0), some (vI s), some (vI w)] μ kx
    refine ⟨μ, ⟨rfl, show KI μ ∧ (0 ≤ s ∧ s ≤ 3) from ⟨by assumption, by omega⟩⟩, fun ov μ' hq => ?_, fun k hk => hk.elim⟩
    obtain ⟨hov, hmu⟩ : ov = some (vI (lbF (al μ) s)) ∧ μ' = μ := hq
    rw [hov, hmu]
    show Run fam0 none cd_X4_stockOf ER ET 81 2 [some (vR 0 0), some (vI s), some (vI w)] [vI (lbF (al μ) s), vI (longF (al μ) s)] μ
    refine run_k 2 ?_
    show ER (some (vI (w32 ((longF (al μ) s) - (lbF (al μ) s))))) μ
    rw [show w32 ((longF (al μ) s) - (lbF (al μ) s)) = (longF (al μ) s) - (lbF (al μ) s) from w32_id (by simp only [in32]; omega)]
    exact hER _ _ ⟨by omega, congrArg (fun z => some (vI z)) (by first | rw [if_pos (by omega)] | (rw [if_neg (by omega)]; first | rw [if_pos (by omega)] | (rw [if_neg (by omega)]; first | rw [if_pos (by omega)] | (rw [if_neg (by omega)]; first | rw [if_pos (by omega)] | (rw [if_neg (by omega)]; first | rw [if_pos (by omega)] | (rw [if_neg (by omega)]; first | rw [if_pos (by omega)] | rw [if_neg (by omega)])))))), rfl, PB_rf hP0⟩
  · refine run_k 3 ?_
    show ∃ σ : Mm, cl_X4_lentFromBox.2.2.1 σ [vR 0 0, vI s] μ ∧ (∀ ov μ', cl_X4_lentFromBox.2.2.2.1 σ [vR 0 0, vI s] μ ov μ' → Run fam0 none cd_X4_stockOf ER ET 88 2 [some (vR 0 0), some (vI s), some (vI w)] (ov.toList ++ []) μ') ∧ ∀ kx, cl_X4_lentFromBox.2.2.2.2 σ [vR 0 0, vI s] μ kx → thr cd_X4_stockOf ET (Run fam0 none cd_X4_stockOf ER ET) 85 2 [some (vR 0 0), some (vI s), some (vI w)] μ kx
    refine ⟨μ, ⟨rfl, show KI μ ∧ (0 ≤ s ∧ s ≤ 3) from ⟨by assumption, by omega⟩⟩, fun ov μ' hq => ?_, fun k hk => hk.elim⟩
    obtain ⟨hov, hmu⟩ : ov = some (vI (lbF (al μ) s)) ∧ μ' = μ := hq
    rw [hov, hmu]
    show Run fam0 none cd_X4_stockOf ER ET 88 2 [some (vR 0 0), some (vI s), some (vI w)] [vI (lbF (al μ) s)] μ
    refine run_k 1 ?_
    show ER (some (vI (lbF (al μ) s))) μ
    exact hER _ _ ⟨by omega, congrArg (fun z => some (vI z)) (by first | rw [if_pos (by omega)] | (rw [if_neg (by omega)]; first | rw [if_pos (by omega)] | (rw [if_neg (by omega)]; first | rw [if_pos (by omega)] | (rw [if_neg (by omega)]; first | rw [if_pos (by omega)] | (rw [if_neg (by omega)]; first | rw [if_pos (by omega)] | (rw [if_neg (by omega)]; first | rw [if_pos (by omega)] | rw [if_neg (by omega)])))))), rfl, PB_rf hP0⟩
  · refine run_k 3 ?_
    show ∃ σ : Mm, cl_X4_lentByLenders.2.2.1 σ [vR 0 0, vI s] μ ∧ (∀ ov μ', cl_X4_lentByLenders.2.2.2.1 σ [vR 0 0, vI s] μ ov μ' → Run fam0 none cd_X4_stockOf ER ET 94 2 [some (vR 0 0), some (vI s), some (vI w)] (ov.toList ++ []) μ') ∧ ∀ kx, cl_X4_lentByLenders.2.2.2.2 σ [vR 0 0, vI s] μ kx → thr cd_X4_stockOf ET (Run fam0 none cd_X4_stockOf ER ET) 91 2 [some (vR 0 0), some (vI s), some (vI w)] μ kx
    refine ⟨μ, ⟨rfl, show KI μ ∧ (0 ≤ s ∧ s ≤ 3) from ⟨by assumption, by omega⟩⟩, fun ov μ' hq => ?_, fun k hk => hk.elim⟩
    obtain ⟨hov, hmu⟩ : ov = some (vI (llF (al μ) s)) ∧ μ' = μ := hq
    rw [hov, hmu]
    show Run fam0 none cd_X4_stockOf ER ET 94 2 [some (vR 0 0), some (vI s), some (vI w)] [vI (llF (al μ) s)] μ
    refine run_k 1 ?_
    show ER (some (vI (llF (al μ) s))) μ
    exact hER _ _ ⟨by omega, congrArg (fun z => some (vI z)) (by first | rw [if_pos (by omega)] | (rw [if_neg (by omega)]; first | rw [if_pos (by omega)] | (rw [if_neg (by omega)]; first | rw [if_pos (by omega)] | (rw [if_neg (by omega)]; first | rw [if_pos (by omega)] | (rw [if_neg (by omega)]; first | rw [if_pos (by omega)] | (rw [if_neg (by omega)]; first | rw [if_pos (by omega)] | rw [if_neg (by omega)])))))), rfl, PB_rf hP0⟩
  · refine run_k 5 ?_
    show (0 ≤ s ∧ s < 4) ∧ (ER (some (vI (μ 2 0 s))) μ)
    refine ⟨by omega, ?_⟩
    exact hER _ _ ⟨by omega, congrArg (fun z => some (vI z)) (by first | rw [if_pos (by omega)] | (rw [if_neg (by omega)]; first | rw [if_pos (by omega)] | (rw [if_neg (by omega)]; first | rw [if_pos (by omega)] | (rw [if_neg (by omega)]; first | rw [if_pos (by omega)] | (rw [if_neg (by omega)]; first | rw [if_pos (by omega)] | (rw [if_neg (by omega)]; first | rw [if_pos (by omega)] | rw [if_neg (by omega)])))))), rfl, PB_rf hP0⟩
theorem vw_X4_186 : ∀ w ∈ ([.methodLink RX4 186 yX4_lentByLenders, .instanceMethod yX4_lentByLenders, .selects RX4 yX4_lentByLenders yX4_lentByLenders, .initialized RX4, .code yX4_lentByLenders cX4_lentByLenders 4 (some .int)] : List Cond), w ∈ wm := wm_ps _ [653, 655, 28, 50, 656] (by decide +kernel)
theorem vw_X4_183 : ∀ w ∈ ([.methodLink RX4 183 yX4_lentFromBox, .instanceMethod yX4_lentFromBox, .selects RX4 yX4_lentFromBox yX4_lentFromBox, .initialized RX4, .code yX4_lentFromBox cX4_lentFromBox 4 (some .int)] : List Cond), w ∈ wm := wm_ps _ [649, 651, 27, 50, 652] (by decide +kernel)
theorem vw_X4_180 : ∀ w ∈ ([.methodLink RX4 180 yX4_allShort, .instanceMethod yX4_allShort, .selects RX4 yX4_allShort yX4_allShort, .initialized RX4, .code yX4_allShort cX4_allShort 4 (some .int)] : List Cond), w ∈ wm := wm_ps _ [645, 647, 26, 50, 648] (by decide +kernel)
theorem vw_X4_177 : ∀ w ∈ ([.methodLink RX4 177 yX4_allLong, .instanceMethod yX4_allLong, .selects RX4 yX4_allLong yX4_allLong, .initialized RX4, .code yX4_allLong cX4_allLong 4 (some .int)] : List Cond), w ∈ wm := wm_ps _ [641, 643, 25, 50, 644] (by decide +kernel)
set_option maxRecDepth 20000 in
theorem con_X4_stockOf (l : Launch) (htr : l.stackTraces = false) (σ : Mm) : CON fam0 63 l yX4_stockOf (Cond.code yX4_stockOf cX4_stockOf 3 (some .int) :: wm) 7 104 2 (cl_X4_stockOf.2.2.1 σ) (cl_X4_stockOf.2.2.2.1 σ) (cl_X4_stockOf.2.2.2.2 σ) :=
  con_of (cd := cd_X4_stockOf) (own := RX4) (rk := 1) (sc_of htr (by decide) k_X4_stockOf_ok (by decide +kernel) co_X4_ok fl_X4_ok (all_cons ⟨RX4, yX4_allLong, cX4_allLong, 4, (some .int), 1, 21, 1, con_X4_allLong l htr, rfl, vw_X4_177, ⟨rfl, by decide, by decide, by decide +kernel⟩, ⟨by decide, by decide⟩, fun σ as μ h => ⟨0, 0, _, h.1, rfl, TX4, 17, rfl⟩⟩ (all_cons ⟨RX4, yX4_allShort, cX4_allShort, 4, (some .int), 1, 21, 1, con_X4_allShort l htr, rfl, vw_X4_180, ⟨rfl, by decide, by decide, by decide +kernel⟩, ⟨by decide, by decide⟩, fun σ as μ h => ⟨0, 0, _, h.1, rfl, TX4, 17, rfl⟩⟩ (all_cons ⟨RX4, yX4_lentFromBox, cX4_lentFromBox, 4, (some .int), 0, 0, 1, con_X4_lentFromBox l htr, rfl, vw_X4_183, ⟨rfl, by decide, by decide, by decide +kernel⟩, ⟨by decide, by decide⟩, fun σ as μ h => ⟨0, 0, _, h.1, rfl, TX4, 17, rfl⟩⟩ (all_cons ⟨RX4, yX4_lentByLenders, cX4_lentByLenders, 4, (some .int), 0, 0, 1, con_X4_lentByLenders l htr, rfl, vw_X4_186, ⟨rfl, by decide, by decide, by decide +kernel⟩, ⟨by decide, by decide⟩, fun σ as μ h => ⟨0, 0, _, h.1, rfl, TX4, 17, rfl⟩⟩ all_nil)))) (all_cons ⟨yX4_needStock, cX4_needStock, 1, none, 6, 82, con_X4_needStock l htr, vw_X4_72, ⟨by decide, by decide, by decide +kernel⟩, ⟨by decide, by decide⟩⟩ (all_cons ⟨yX4_needRange, cX4_needRange, 3, none, 6, 82, con_X4_needRange l htr, vw_X4_77, ⟨by decide, by decide, by decide +kernel⟩, ⟨by decide, by decide⟩⟩ all_nil)) all_nil) rfl (by decide +kernel) rfl rfl rfl rfl (fun as μ hs => by rw [hs.1]; exact Nat.le_of_ble_eq_true rfl)
    (fun as μ hs hM hrg => by
      have hs1 := hs.1
      have hmem : ∀ v, v ∈ ([vR 0 0, vI (iaI as 1), vI (iaI as 2)] : List AV) → rg fam0 v := by rw [← hs1]; exact hrg
      have key := run_X4_stockOf (ER := cl_X4_stockOf.2.2.2.1 σ as μ) (ET := fun k μ' => cl_X4_stockOf.2.2.2.2 σ as μ k ∧ μ' = μ) σ μ (iaI as 1) (iaI as 2) hM (hmem (vI (iaI as 1)) (by simp)) (hmem (vI (iaI as 2)) (by simp)) hs.2 (fun ov μ' h => h) (fun k h => ⟨h, rfl⟩)
      have e : entL as 3 = [some (vR 0 0), some (vI (iaI as 1)), some (vI (iaI as 2))] := by rw [hs1]; rfl
      rw [e]; exact key)
