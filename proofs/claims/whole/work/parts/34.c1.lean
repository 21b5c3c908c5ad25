/-! ===== the class: leaves -/
def absF (x : Int) : Int := if x < 0 then w64 (-x) else x
def maxI (a b : Int) : Int := if a < b then b else a
theorem maxI_le (a b : Int) : a ≤ maxI a b ∧ b ≤ maxI a b ∧ (maxI a b = a ∨ maxI a b = b) := by
  unfold maxI; split <;> omega
/-! ### java/lang/Math.abs_067f4 -/
def cl_J9_abs_067f4 : Cl := (1, 0, fun σ as μ => as = [vL (iaL as 0)] ∧ (True), fun σ as μ ov μ' => ov = some (vL (absF (iaL as 0))) ∧ μ' = μ, fun σ as μ k => False)
def cd_J9_abs_067f4 : Cd := mkcd k_J9_abs_067f4 [] [] [] [] [] [] 2 2 0
set_option maxHeartbeats 4000000 in
set_option maxRecDepth 20000 in
theorem run_J9_abs_067f4 {ER : Option AV → Mm → Prop} {ET : Nat → Mm → Prop} (σ μ : Mm) (x : Int) (hM : MR fam0 μ) (h_x : in64 x) (hP : True) (hER : ∀ ov μ', (ov = some (vL (absF x)) ∧ μ' = μ) → ER ov μ') : Run fam0 none cd_J9_abs_067f4 ER ET 0 0 [some (vL x), none] [] μ := by
  refine run_k 4 ?_
  show (0 ≤ (cmpL x 0) → Run fam0 none cd_J9_abs_067f4 ER ET 11 0 [some (vL x), none] [] μ) ∧ ((cmpL x 0) < 0 → Run fam0 none cd_J9_abs_067f4 ER ET 6 0 [some (vL x), none] [] μ)
  refine ⟨fun c1 => ?_, fun c1 => ?_⟩
  · replace c1 := (show ¬ _ from fun q => (Int.not_lt.mpr c1) (cmpL_n.mpr q))
    refine run_k 2 ?_
    show ER (some (vL x)) μ
    exact hER _ _ ⟨by unfold absF; first | rw [if_pos (by omega)] | rw [if_neg (by omega)], rfl⟩
  · replace c1 := cmpL_n.mp c1
    refine run_k 4 ?_
    show ER (some (vL (w64 (-x)))) μ
    exact hER _ _ ⟨by unfold absF; first | rw [if_pos (by omega)] | rw [if_neg (by omega)], rfl⟩
set_option maxRecDepth 20000 in
theorem con_J9_abs_067f4 (l : Launch) (htr : l.stackTraces = false) (σ : Mm) : CON fam0 63 l yJ9_abs_067f4 (Cond.code yJ9_abs_067f4 cJ9_abs_067f4 2 (some .long) :: wm) 0 0 0 (cl_J9_abs_067f4.2.2.1 σ) (cl_J9_abs_067f4.2.2.2.1 σ) (cl_J9_abs_067f4.2.2.2.2 σ) :=
  con_ofF (cd := cd_J9_abs_067f4) (own := RJ9) (rk := 2) (sc_of htr (by decide) k_J9_abs_067f4_ok (by decide +kernel) all_nil all_nil all_nil all_nil all_nil) rfl (by decide +kernel) rfl rfl rfl rfl (fun as μ hs => by rw [hs.1]; exact Nat.le_of_ble_eq_true rfl)
    (fun as μ hs hM hrg => by
      have hs1 := hs.1
      have hmem : ∀ v, v ∈ ([vL (iaL as 0)] : List AV) → rg fam0 v := by rw [← hs1]; exact hrg
      have key := run_J9_abs_067f4 (ER := cl_J9_abs_067f4.2.2.2.1 σ as μ) (ET := fun k μ' => cl_J9_abs_067f4.2.2.2.2 σ as μ k ∧ μ' = μ) σ μ (iaL as 0) hM (hmem (vL (iaL as 0)) (by simp)) hs.2 (fun ov μ' h => h)
      have e : entL as 2 = [some (vL (iaL as 0)), none] := by rw [hs1]; rfl
      rw [e]; exact key)
/-! ### java/lang/Math.max_7cf53 -/
def cl_J9_max_7cf53 : Cl := (2, 0, fun σ as μ => as = [vI (iaI as 0), vI (iaI as 1)] ∧ (True), fun σ as μ ov μ' => ov = some (vI (maxI (iaI as 0) (iaI as 1))) ∧ μ' = μ, fun σ as μ k => False)
def cd_J9_max_7cf53 : Cd := mkcd k_J9_max_7cf53 [] [] [] [] [] [] 2 1 0
set_option maxHeartbeats 4000000 in
set_option maxRecDepth 20000 in
theorem run_J9_max_7cf53 {ER : Option AV → Mm → Prop} {ET : Nat → Mm → Prop} (σ μ : Mm) (a b : Int) (hM : MR fam0 μ) (h_a : in32 a) (h_b : in32 b) (hP : True) (hER : ∀ ov μ', (ov = some (vI (maxI a b)) ∧ μ' = μ) → ER ov μ') : Run fam0 none cd_J9_max_7cf53 ER ET 0 0 [some (vI a), some (vI b)] [] μ := by
  refine run_k 3 ?_
  show (a < b → Run fam0 none cd_J9_max_7cf53 ER ET 9 0 [some (vI a), some (vI b)] [] μ) ∧ (b ≤ a → Run fam0 none cd_J9_max_7cf53 ER ET 5 0 [some (vI a), some (vI b)] [] μ)
  refine ⟨fun c1 => ?_, fun c1 => ?_⟩
  · refine run_k 2 ?_
    show ER (some (vI b)) μ
    exact hER _ _ ⟨by unfold maxI; first | rw [if_pos (by omega)] | rw [if_neg (by omega)], rfl⟩
  · refine run_k 3 ?_
    show ER (some (vI a)) μ
    exact hER _ _ ⟨by unfold maxI; first | rw [if_pos (by omega)] | rw [if_neg (by omega)], rfl⟩
set_option maxRecDepth 20000 in
theorem con_J9_max_7cf53 (l : Launch) (htr : l.stackTraces = false) (σ : Mm) : CON fam0 63 l yJ9_max_7cf53 (Cond.code yJ9_max_7cf53 cJ9_max_7cf53 2 (some .int) :: wm) 0 0 0 (cl_J9_max_7cf53.2.2.1 σ) (cl_J9_max_7cf53.2.2.2.1 σ) (cl_J9_max_7cf53.2.2.2.2 σ) :=
  con_ofF (cd := cd_J9_max_7cf53) (own := RJ9) (rk := 1) (sc_of htr (by decide) k_J9_max_7cf53_ok (by decide +kernel) all_nil all_nil all_nil all_nil all_nil) rfl (by decide +kernel) rfl rfl rfl rfl (fun as μ hs => by rw [hs.1]; exact Nat.le_of_ble_eq_true rfl)
    (fun as μ hs hM hrg => by
      have hs1 := hs.1
      have hmem : ∀ v, v ∈ ([vI (iaI as 0), vI (iaI as 1)] : List AV) → rg fam0 v := by rw [← hs1]; exact hrg
      have key := run_J9_max_7cf53 (ER := cl_J9_max_7cf53.2.2.2.1 σ as μ) (ET := fun k μ' => cl_J9_max_7cf53.2.2.2.2 σ as μ k ∧ μ' = μ) σ μ (iaI as 0) (iaI as 1) hM (hmem (vI (iaI as 0)) (by simp)) (hmem (vI (iaI as 1)) (by simp)) hs.2 (fun ov μ' h => h)
      have e : entL as 2 = [some (vI (iaI as 0)), some (vI (iaI as 1))] := by rw [hs1]; rfl
      rw [e]; exact key)
/-! ### java/lang/Math.min_7cf53 -/
def cl_J9_min_7cf53 : Cl := (2, 0, fun σ as μ => as = [vI (iaI as 0), vI (iaI as 1)] ∧ (True), fun σ as μ ov μ' => ov = some (vI (minI (iaI as 0) (iaI as 1))) ∧ μ' = μ, fun σ as μ k => False)
def cd_J9_min_7cf53 : Cd := mkcd k_J9_min_7cf53 [] [] [] [] [] [] 2 1 0
set_option maxHeartbeats 4000000 in
set_option maxRecDepth 20000 in
theorem run_J9_min_7cf53 {ER : Option AV → Mm → Prop} {ET : Nat → Mm → Prop} (σ μ : Mm) (a b : Int) (hM : MR fam0 μ) (h_a : in32 a) (h_b : in32 b) (hP : True) (hER : ∀ ov μ', (ov = some (vI (minI a b)) ∧ μ' = μ) → ER ov μ') : Run fam0 none cd_J9_min_7cf53 ER ET 0 0 [some (vI a), some (vI b)] [] μ := by
  refine run_k 3 ?_
  show (b < a → Run fam0 none cd_J9_min_7cf53 ER ET 9 0 [some (vI a), some (vI b)] [] μ) ∧ (a ≤ b → Run fam0 none cd_J9_min_7cf53 ER ET 5 0 [some (vI a), some (vI b)] [] μ)
  refine ⟨fun c1 => ?_, fun c1 => ?_⟩
  · refine run_k 2 ?_
    show ER (some (vI b)) μ
    exact hER _ _ ⟨by unfold minI; first | rw [if_pos (by omega)] | rw [if_neg (by omega)], rfl⟩
  · refine run_k 3 ?_
    show ER (some (vI a)) μ
    exact hER _ _ ⟨by unfold minI; first | rw [if_pos (by omega)] | rw [if_neg (by omega)], rfl⟩
set_option maxRecDepth 20000 in
theorem con_J9_min_7cf53 (l : Launch) (htr : l.stackTraces = false) (σ : Mm) : CON fam0 63 l yJ9_min_7cf53 (Cond.code yJ9_min_7cf53 cJ9_min_7cf53 2 (some .int) :: wm) 0 0 0 (cl_J9_min_7cf53.2.2.1 σ) (cl_J9_min_7cf53.2.2.2.1 σ) (cl_J9_min_7cf53.2.2.2.2 σ) :=
  con_ofF (cd := cd_J9_min_7cf53) (own := RJ9) (rk := 1) (sc_of htr (by decide) k_J9_min_7cf53_ok (by decide +kernel) all_nil all_nil all_nil all_nil all_nil) rfl (by decide +kernel) rfl rfl rfl rfl (fun as μ hs => by rw [hs.1]; exact Nat.le_of_ble_eq_true rfl)
    (fun as μ hs hM hrg => by
      have hs1 := hs.1
      have hmem : ∀ v, v ∈ ([vI (iaI as 0), vI (iaI as 1)] : List AV) → rg fam0 v := by rw [← hs1]; exact hrg
      have key := run_J9_min_7cf53 (ER := cl_J9_min_7cf53.2.2.2.1 σ as μ) (ET := fun k μ' => cl_J9_min_7cf53.2.2.2.2 σ as μ k ∧ μ' = μ) σ μ (iaI as 0) (iaI as 1) hM (hmem (vI (iaI as 0)) (by simp)) (hmem (vI (iaI as 1)) (by simp)) hs.2 (fun ov μ' h => h)
      have e : entL as 2 = [some (vI (iaI as 0)), some (vI (iaI as 1))] := by rw [hs1]; rfl
      rw [e]; exact key)
/-! ### java/lang/Math.max_f86c9 -/
def cl_J9_max_f86c9 : Cl := (2, 0, fun σ as μ => as = [vL (iaL as 0), vL (iaL as 1)] ∧ (True), fun σ as μ ov μ' => ov = some (vL (maxI (iaL as 0) (iaL as 1))) ∧ μ' = μ, fun σ as μ k => False)
def cd_J9_max_f86c9 : Cd := mkcd k_J9_max_f86c9 [] [] [] [] [] [] 4 2 0
set_option maxHeartbeats 4000000 in
set_option maxRecDepth 20000 in
theorem run_J9_max_f86c9 {ER : Option AV → Mm → Prop} {ET : Nat → Mm → Prop} (σ μ : Mm) (a b : Int) (hM : MR fam0 μ) (h_a : in64 a) (h_b : in64 b) (hP : True) (hER : ∀ ov μ', (ov = some (vL (maxI a b)) ∧ μ' = μ) → ER ov μ') : Run fam0 none cd_J9_max_f86c9 ER ET 0 0 [some (vL a), none, some (vL b), none] [] μ := by
  refine run_k 4 ?_
  show ((cmpL a b) < 0 → Run fam0 none cd_J9_max_f86c9 ER ET 10 0 [some (vL a), none, some (vL b), none] [] μ) ∧ (0 ≤ (cmpL a b) → Run fam0 none cd_J9_max_f86c9 ER ET 6 0 [some (vL a), none, some (vL b), none] [] μ)
  refine ⟨fun c1 => ?_, fun c1 => ?_⟩
  · replace c1 := cmpL_n.mp c1
    refine run_k 2 ?_
    show ER (some (vL b)) μ
    exact hER _ _ ⟨by unfold maxI; first | rw [if_pos (by omega)] | rw [if_neg (by omega)], rfl⟩
  · replace c1 := (show ¬ _ from fun q => (Int.not_lt.mpr c1) (cmpL_n.mpr q))
    refine run_k 3 ?_
    show ER (some (vL a)) μ
    exact hER _ _ ⟨by unfold maxI; first | rw [if_pos (by omega)] | rw [if_neg (by omega)], rfl⟩
set_option maxRecDepth 20000 in
theorem con_J9_max_f86c9 (l : Launch) (htr : l.stackTraces = false) (σ : Mm) : CON fam0 63 l yJ9_max_f86c9 (Cond.code yJ9_max_f86c9 cJ9_max_f86c9 4 (some .long) :: wm) 0 0 0 (cl_J9_max_f86c9.2.2.1 σ) (cl_J9_max_f86c9.2.2.2.1 σ) (cl_J9_max_f86c9.2.2.2.2 σ) :=
  con_ofF (cd := cd_J9_max_f86c9) (own := RJ9) (rk := 2) (sc_of htr (by decide) k_J9_max_f86c9_ok (by decide +kernel) all_nil all_nil all_nil all_nil all_nil) rfl (by decide +kernel) rfl rfl rfl rfl (fun as μ hs => by rw [hs.1]; exact Nat.le_of_ble_eq_true rfl)
    (fun as μ hs hM hrg => by
      have hs1 := hs.1
      have hmem : ∀ v, v ∈ ([vL (iaL as 0), vL (iaL as 1)] : List AV) → rg fam0 v := by rw [← hs1]; exact hrg
      have key := run_J9_max_f86c9 (ER := cl_J9_max_f86c9.2.2.2.1 σ as μ) (ET := fun k μ' => cl_J9_max_f86c9.2.2.2.2 σ as μ k ∧ μ' = μ) σ μ (iaL as 0) (iaL as 1) hM (hmem (vL (iaL as 0)) (by simp)) (hmem (vL (iaL as 1)) (by simp)) hs.2 (fun ov μ' h => h)
      have e : entL as 4 = [some (vL (iaL as 0)), none, some (vL (iaL as 1)), none] := by rw [hs1]; rfl
      rw [e]; exact key)
/-! ### Primeborrow.needStock -/
def cl_X4_needStock : Cl := (1, 1, fun σ as μ => as = [vI (iaI as 0)] ∧ (True), fun σ as μ ov μ' => ov = none ∧ μ' = μ ∧ (0 ≤ (iaI as 0) ∧ (iaI as 0) ≤ 3), fun σ as μ k => k = 1 ∧ ¬ (0 ≤ (iaI as 0) ∧ (iaI as 0) ≤ 3))
def cd_X4_needStock : Cd := mkcd k_X4_needStock co_X4 fl_X4 [] [] [] [(9, 1)] 1 0 1
set_option maxHeartbeats 4000000 in
set_option maxRecDepth 20000 in
theorem run_X4_needStock {ER : Option AV → Mm → Prop} {ET : Nat → Mm → Prop} (σ μ : Mm) (s : Int) (hM : MR fam0 μ) (h_s : in32 s) (hP : True) (hER : ∀ ov μ', (ov = none ∧ μ' = μ ∧ (0 ≤ s ∧ s ≤ 3)) → ER ov μ') (hET : ∀ k, (k = 1 ∧ ¬ (0 ≤ s ∧ s ≤ 3)) → ET k μ) : Run fam0 none cd_X4_needStock ER ET 0 0 [some (vI s)] [] μ := by
  refine run_k 2 ?_
  show (s < 0 → Run fam0 none cd_X4_needStock ER ET 9 0 [some (vI s)] [] μ) ∧ (0 ≤ s → Run fam0 none cd_X4_needStock ER ET 4 0 [some (vI s)] [] μ)
  refine ⟨fun c1 => ?_, fun c1 => ?_⟩
  · refine run_k 1 ?_
    show ET 1 μ
    exact hET _ ⟨rfl, by omega⟩
  · refine run_k 3 ?_
    show (s < 4 → Run fam0 none cd_X4_needStock ER ET 19 0 [some (vI s)] [] μ) ∧ (4 ≤ s → Run fam0 none cd_X4_needStock ER ET 9 0 [some (vI s)] [] μ)
    refine ⟨fun c3 => ?_, fun c3 => ?_⟩
    · refine run_k 1 ?_
      show ER none μ
      exact hER _ _ ⟨rfl, rfl, by omega⟩
    · refine run_k 1 ?_
      show ET 1 μ
      exact hET _ ⟨rfl, by omega⟩
set_option maxRecDepth 20000 in
theorem con_X4_needStock (l : Launch) (htr : l.stackTraces = false) (σ : Mm) : CON fam0 63 l yX4_needStock (Cond.code yX4_needStock cX4_needStock 1 none :: wm) 6 82 1 (cl_X4_needStock.2.2.1 σ) (cl_X4_needStock.2.2.2.1 σ) (cl_X4_needStock.2.2.2.2 σ) :=
  con_of (cd := cd_X4_needStock) (own := RX4) (rk := 0) (sc_of htr (by decide) k_X4_needStock_ok (by decide +kernel) co_X4_ok fl_X4_ok all_nil all_nil (all_cons ⟨tok_needStock, by decide, by decide⟩ all_nil)) rfl (by decide +kernel) rfl rfl rfl rfl (fun as μ hs => by rw [hs.1]; exact Nat.le_of_ble_eq_true rfl)
    (fun as μ hs hM hrg => by
      have hs1 := hs.1
      have hmem : ∀ v, v ∈ ([vI (iaI as 0)] : List AV) → rg fam0 v := by rw [← hs1]; exact hrg
      have key := run_X4_needStock (ER := cl_X4_needStock.2.2.2.1 σ as μ) (ET := fun k μ' => cl_X4_needStock.2.2.2.2 σ as μ k ∧ μ' = μ) σ μ (iaI as 0) hM (hmem (vI (iaI as 0)) (by simp)) hs.2 (fun ov μ' h => h) (fun k h => ⟨h, rfl⟩)
      have e : entL as 1 = [some (vI (iaI as 0))] := by rw [hs1]; rfl
      rw [e]; exact key)
/-! ### Primeborrow.needClient -/
def cl_X4_needClient : Cl := (1, 1, fun σ as μ => as = [vI (iaI as 0)] ∧ (True), fun σ as μ ov μ' => ov = none ∧ μ' = μ ∧ (0 ≤ (iaI as 0) ∧ (iaI as 0) ≤ 5), fun σ as μ k => k = 1 ∧ ¬ (0 ≤ (iaI as 0) ∧ (iaI as 0) ≤ 5))
def cd_X4_needClient : Cd := mkcd k_X4_needClient co_X4 fl_X4 [] [] [] [(10, 1)] 1 0 1
set_option maxHeartbeats 4000000 in
set_option maxRecDepth 20000 in
theorem run_X4_needClient {ER : Option AV → Mm → Prop} {ET : Nat → Mm → Prop} (σ μ : Mm) (s : Int) (hM : MR fam0 μ) (h_s : in32 s) (hP : True) (hER : ∀ ov μ', (ov = none ∧ μ' = μ ∧ (0 ≤ s ∧ s ≤ 5)) → ER ov μ') (hET : ∀ k, (k = 1 ∧ ¬ (0 ≤ s ∧ s ≤ 5)) → ET k μ) : Run fam0 none cd_X4_needClient ER ET 0 0 [some (vI s)] [] μ := by
  refine run_k 2 ?_
  show (s < 0 → Run fam0 none cd_X4_needClient ER ET 10 0 [some (vI s)] [] μ) ∧ (0 ≤ s → Run fam0 none cd_X4_needClient ER ET 4 0 [some (vI s)] [] μ)
  refine ⟨fun c1 => ?_, fun c1 => ?_⟩
  · refine run_k 1 ?_
    show ET 1 μ
    exact hET _ ⟨rfl, by omega⟩
  · refine run_k 3 ?_
    show (s < 6 → Run fam0 none cd_X4_needClient ER ET 20 0 [some (vI s)] [] μ) ∧ (6 ≤ s → Run fam0 none cd_X4_needClient ER ET 10 0 [some (vI s)] [] μ)
    refine ⟨fun c3 => ?_, fun c3 => ?_⟩
    · refine run_k 1 ?_
      show ER none μ
      exact hER _ _ ⟨rfl, rfl, by omega⟩
    · refine run_k 1 ?_
      show ET 1 μ
      exact hET _ ⟨rfl, by omega⟩
set_option maxRecDepth 20000 in
theorem con_X4_needClient (l : Launch) (htr : l.stackTraces = false) (σ : Mm) : CON fam0 63 l yX4_needClient (Cond.code yX4_needClient cX4_needClient 1 none :: wm) 6 82 1 (cl_X4_needClient.2.2.1 σ) (cl_X4_needClient.2.2.2.1 σ) (cl_X4_needClient.2.2.2.2 σ) :=
  con_of (cd := cd_X4_needClient) (own := RX4) (rk := 0) (sc_of htr (by decide) k_X4_needClient_ok (by decide +kernel) co_X4_ok fl_X4_ok all_nil all_nil (all_cons ⟨tok_needClient, by decide, by decide⟩ all_nil)) rfl (by decide +kernel) rfl rfl rfl rfl (fun as μ hs => by rw [hs.1]; exact Nat.le_of_ble_eq_true rfl)
    (fun as μ hs hM hrg => by
      have hs1 := hs.1
      have hmem : ∀ v, v ∈ ([vI (iaI as 0)] : List AV) → rg fam0 v := by rw [← hs1]; exact hrg
      have key := run_X4_needClient (ER := cl_X4_needClient.2.2.2.1 σ as μ) (ET := fun k μ' => cl_X4_needClient.2.2.2.2 σ as μ k ∧ μ' = μ) σ μ (iaI as 0) hM (hmem (vI (iaI as 0)) (by simp)) hs.2 (fun ov μ' h => h) (fun k h => ⟨h, rfl⟩)
      have e : entL as 1 = [some (vI (iaI as 0))] := by rw [hs1]; rfl
      rw [e]; exact key)
/-! ### Primeborrow.needLender -/
def cl_X4_needLender : Cl := (1, 1, fun σ as μ => as = [vI (iaI as 0)] ∧ (True), fun σ as μ ov μ' => ov = none ∧ μ' = μ ∧ (0 ≤ (iaI as 0) ∧ (iaI as 0) ≤ 3), fun σ as μ k => k = 1 ∧ ¬ (0 ≤ (iaI as 0) ∧ (iaI as 0) ≤ 3))
def cd_X4_needLender : Cd := mkcd k_X4_needLender co_X4 fl_X4 [] [] [] [(9, 1)] 1 0 1
set_option maxHeartbeats 4000000 in
set_option maxRecDepth 20000 in
theorem run_X4_needLender {ER : Option AV → Mm → Prop} {ET : Nat → Mm → Prop} (σ μ : Mm) (s : Int) (hM : MR fam0 μ) (h_s : in32 s) (hP : True) (hER : ∀ ov μ', (ov = none ∧ μ' = μ ∧ (0 ≤ s ∧ s ≤ 3)) → ER ov μ') (hET : ∀ k, (k = 1 ∧ ¬ (0 ≤ s ∧ s ≤ 3)) → ET k μ) : Run fam0 none cd_X4_needLender ER ET 0 0 [some (vI s)] [] μ := by
  refine run_k 2 ?_
  show (s < 0 → Run fam0 none cd_X4_needLender ER ET 9 0 [some (vI s)] [] μ) ∧ (0 ≤ s → Run fam0 none cd_X4_needLender ER ET 4 0 [some (vI s)] [] μ)
  refine ⟨fun c1 => ?_, fun c1 => ?_⟩
  · refine run_k 1 ?_
    show ET 1 μ
    exact hET _ ⟨rfl, by omega⟩
  · refine run_k 3 ?_
    show (s < 4 → Run fam0 none cd_X4_needLender ER ET 19 0 [some (vI s)] [] μ) ∧ (4 ≤ s → Run fam0 none cd_X4_needLender ER ET 9 0 [some (vI s)] [] μ)
    refine ⟨fun c3 => ?_, fun c3 => ?_⟩
    · refine run_k 1 ?_
      show ER none μ
      exact hER _ _ ⟨rfl, rfl, by omega⟩
    · refine run_k 1 ?_
      show ET 1 μ
      exact hET _ ⟨rfl, by omega⟩
set_option maxRecDepth 20000 in
theorem con_X4_needLender (l : Launch) (htr : l.stackTraces = false) (σ : Mm) : CON fam0 63 l yX4_needLender (Cond.code yX4_needLender cX4_needLender 1 none :: wm) 6 82 1 (cl_X4_needLender.2.2.1 σ) (cl_X4_needLender.2.2.2.1 σ) (cl_X4_needLender.2.2.2.2 σ) :=
  con_of (cd := cd_X4_needLender) (own := RX4) (rk := 0) (sc_of htr (by decide) k_X4_needLender_ok (by decide +kernel) co_X4_ok fl_X4_ok all_nil all_nil (all_cons ⟨tok_needLender, by decide, by decide⟩ all_nil)) rfl (by decide +kernel) rfl rfl rfl rfl (fun as μ hs => by rw [hs.1]; exact Nat.le_of_ble_eq_true rfl)
    (fun as μ hs hM hrg => by
      have hs1 := hs.1
      have hmem : ∀ v, v ∈ ([vI (iaI as 0)] : List AV) → rg fam0 v := by rw [← hs1]; exact hrg
      have key := run_X4_needLender (ER := cl_X4_needLender.2.2.2.1 σ as μ) (ET := fun k μ' => cl_X4_needLender.2.2.2.2 σ as μ k ∧ μ' = μ) σ μ (iaI as 0) hM (hmem (vI (iaI as 0)) (by simp)) hs.2 (fun ov μ' h => h) (fun k h => ⟨h, rfl⟩)
      have e : entL as 1 = [some (vI (iaI as 0))] := by rw [hs1]; rfl
      rw [e]; exact key)
/-! ### Primeborrow.needLoan -/
def cl_X4_needLoan : Cl := (2, 1, fun σ as μ => as = [vR 0 0, vI (iaI as 1)] ∧ (True), fun σ as μ ov μ' => ov = none ∧ μ' = μ ∧ (0 ≤ (iaI as 1) ∧ (iaI as 1) < μ 15 0 5), fun σ as μ k => k = 1 ∧ ¬ (0 ≤ (iaI as 1) ∧ (iaI as 1) < μ 15 0 5))
def cd_X4_needLoan : Cd := mkcd k_X4_needLoan co_X4 fl_X4 [] [] [] [(15, 1)] 2 0 1
set_option maxHeartbeats 4000000 in
set_option maxRecDepth 20000 in
theorem run_X4_needLoan {ER : Option AV → Mm → Prop} {ET : Nat → Mm → Prop} (σ μ : Mm) (s : Int) (hM : MR fam0 μ) (h_s : in32 s) (hP : True) (hER : ∀ ov μ', (ov = none ∧ μ' = μ ∧ (0 ≤ s ∧ s < μ 15 0 5)) → ER ov μ') (hET : ∀ k, (k = 1 ∧ ¬ (0 ≤ s ∧ s < μ 15 0 5)) → ET k μ) : Run fam0 none cd_X4_needLoan ER ET 0 0 [some (vR 0 0), some (vI s)] [] μ := by
  refine run_k 2 ?_
  show (s < 0 → Run fam0 none cd_X4_needLoan ER ET 15 0 [some (vR 0 0), some (vI s)] [] μ) ∧ (0 ≤ s → Run fam0 none cd_X4_needLoan ER ET 4 0 [some (vR 0 0), some (vI s)] [] μ)
  refine ⟨fun c1 => ?_, fun c1 => ?_⟩
  · refine run_k 1 ?_
    show ET 1 μ
    exact hET _ ⟨rfl, by omega⟩
  · refine run_k 5 ?_
    show (s < (μ 15 0 5) → Run fam0 none cd_X4_needLoan ER ET 25 0 [some (vR 0 0), some (vI s)] [] μ) ∧ ((μ 15 0 5) ≤ s → Run fam0 none cd_X4_needLoan ER ET 15 0 [some (vR 0 0), some (vI s)] [] μ)
    refine ⟨fun c3 => ?_, fun c3 => ?_⟩
    · refine run_k 1 ?_
      show ER none μ
      exact hER _ _ ⟨rfl, rfl, by omega⟩
    · refine run_k 1 ?_
      show ET 1 μ
      exact hET _ ⟨rfl, by omega⟩
set_option maxRecDepth 20000 in
theorem con_X4_needLoan (l : Launch) (htr : l.stackTraces = false) (σ : Mm) : CON fam0 63 l yX4_needLoan (Cond.code yX4_needLoan cX4_needLoan 2 none :: wm) 6 82 1 (cl_X4_needLoan.2.2.1 σ) (cl_X4_needLoan.2.2.2.1 σ) (cl_X4_needLoan.2.2.2.2 σ) :=
  con_of (cd := cd_X4_needLoan) (own := RX4) (rk := 0) (sc_of htr (by decide) k_X4_needLoan_ok (by decide +kernel) co_X4_ok fl_X4_ok all_nil all_nil (all_cons ⟨tok_needLoan, by decide, by decide⟩ all_nil)) rfl (by decide +kernel) rfl rfl rfl rfl (fun as μ hs => by rw [hs.1]; exact Nat.le_of_ble_eq_true rfl)
    (fun as μ hs hM hrg => by
      have hs1 := hs.1
      have hmem : ∀ v, v ∈ ([vR 0 0, vI (iaI as 1)] : List AV) → rg fam0 v := by rw [← hs1]; exact hrg
      have key := run_X4_needLoan (ER := cl_X4_needLoan.2.2.2.1 σ as μ) (ET := fun k μ' => cl_X4_needLoan.2.2.2.2 σ as μ k ∧ μ' = μ) σ μ (iaI as 1) hM (hmem (vI (iaI as 1)) (by simp)) hs.2 (fun ov μ' h => h) (fun k h => ⟨h, rfl⟩)
      have e : entL as 2 = [some (vR 0 0), some (vI (iaI as 1))] := by rw [hs1]; rfl
      rw [e]; exact key)
/-! ### Primeborrow.needLocate -/
def cl_X4_needLocate : Cl := (2, 1, fun σ as μ => as = [vR 0 0, vI (iaI as 1)] ∧ (True), fun σ as μ ov μ' => ov = none ∧ μ' = μ ∧ (0 ≤ (iaI as 1) ∧ (iaI as 1) < μ 21 0 5), fun σ as μ k => k = 1 ∧ ¬ (0 ≤ (iaI as 1) ∧ (iaI as 1) < μ 21 0 5))
def cd_X4_needLocate : Cd := mkcd k_X4_needLocate co_X4 fl_X4 [] [] [] [(15, 1)] 2 0 1
set_option maxHeartbeats 4000000 in
set_option maxRecDepth 20000 in
theorem run_X4_needLocate {ER : Option AV → Mm → Prop} {ET : Nat → Mm → Prop} (σ μ : Mm) (s : Int) (hM : MR fam0 μ) (h_s : in32 s) (hP : True) (hER : ∀ ov μ', (ov = none ∧ μ' = μ ∧ (0 ≤ s ∧ s < μ 21 0 5)) → ER ov μ') (hET : ∀ k, (k = 1 ∧ ¬ (0 ≤ s ∧ s < μ 21 0 5)) → ET k μ) : Run fam0 none cd_X4_needLocate ER ET 0 0 [some (vR 0 0), some (vI s)] [] μ := by
  refine run_k 2 ?_
  show (s < 0 → Run fam0 none cd_X4_needLocate ER ET 15 0 [some (vR 0 0), some (vI s)] [] μ) ∧ (0 ≤ s → Run fam0 none cd_X4_needLocate ER ET 4 0 [some (vR 0 0), some (vI s)] [] μ)
  refine ⟨fun c1 => ?_, fun c1 => ?_⟩
  · refine run_k 1 ?_
    show ET 1 μ
    exact hET _ ⟨rfl, by omega⟩
  · refine run_k 5 ?_
    show (s < (μ 21 0 5) → Run fam0 none cd_X4_needLocate ER ET 25 0 [some (vR 0 0), some (vI s)] [] μ) ∧ ((μ 21 0 5) ≤ s → Run fam0 none cd_X4_needLocate ER ET 15 0 [some (vR 0 0), some (vI s)] [] μ)
    refine ⟨fun c3 => ?_, fun c3 => ?_⟩
    · refine run_k 1 ?_
      show ER none μ
      exact hER _ _ ⟨rfl, rfl, by omega⟩
    · refine run_k 1 ?_
      show ET 1 μ
      exact hET _ ⟨rfl, by omega⟩
set_option maxRecDepth 20000 in
theorem con_X4_needLocate (l : Launch) (htr : l.stackTraces = false) (σ : Mm) : CON fam0 63 l yX4_needLocate (Cond.code yX4_needLocate cX4_needLocate 2 none :: wm) 6 82 1 (cl_X4_needLocate.2.2.1 σ) (cl_X4_needLocate.2.2.2.1 σ) (cl_X4_needLocate.2.2.2.2 σ) :=
  con_of (cd := cd_X4_needLocate) (own := RX4) (rk := 0) (sc_of htr (by decide) k_X4_needLocate_ok (by decide +kernel) co_X4_ok fl_X4_ok all_nil all_nil (all_cons ⟨tok_needLocate, by decide, by decide⟩ all_nil)) rfl (by decide +kernel) rfl rfl rfl rfl (fun as μ hs => by rw [hs.1]; exact Nat.le_of_ble_eq_true rfl)
    (fun as μ hs hM hrg => by
      have hs1 := hs.1
      have hmem : ∀ v, v ∈ ([vR 0 0, vI (iaI as 1)] : List AV) → rg fam0 v := by rw [← hs1]; exact hrg
      have key := run_X4_needLocate (ER := cl_X4_needLocate.2.2.2.1 σ as μ) (ET := fun k μ' => cl_X4_needLocate.2.2.2.2 σ as μ k ∧ μ' = μ) σ μ (iaI as 1) hM (hmem (vI (iaI as 1)) (by simp)) hs.2 (fun ov μ' h => h) (fun k h => ⟨h, rfl⟩)
      have e : entL as 2 = [some (vR 0 0), some (vI (iaI as 1))] := by rw [hs1]; rfl
      rw [e]; exact key)
/-! ### Primeborrow.needRange -/
def cl_X4_needRange : Cl := (3, 1, fun σ as μ => as = [vI (iaI as 0), vI (iaI as 1), vI (iaI as 2)] ∧ (True), fun σ as μ ov μ' => ov = none ∧ μ' = μ ∧ ((iaI as 1) ≤ (iaI as 0) ∧ (iaI as 0) ≤ (iaI as 2)), fun σ as μ k => k = 2 ∧ ¬ ((iaI as 1) ≤ (iaI as 0) ∧ (iaI as 0) ≤ (iaI as 2)))
def cd_X4_needRange : Cd := mkcd k_X4_needRange co_X4 fl_X4 [] [] [] [(10, 2)] 3 0 1
set_option maxHeartbeats 4000000 in
set_option maxRecDepth 20000 in
theorem run_X4_needRange {ER : Option AV → Mm → Prop} {ET : Nat → Mm → Prop} (σ μ : Mm) (v lo hi : Int) (hM : MR fam0 μ) (h_v : in32 v) (h_lo : in32 lo) (h_hi : in32 hi) (hP : True) (hER : ∀ ov μ', (ov = none ∧ μ' = μ ∧ (lo ≤ v ∧ v ≤ hi)) → ER ov μ') (hET : ∀ k, (k = 2 ∧ ¬ (lo ≤ v ∧ v ≤ hi)) → ET k μ) : Run fam0 none cd_X4_needRange ER ET 0 0 [some (vI v), some (vI lo), some (vI hi)] [] μ := by
  refine run_k 3 ?_
  show (v < lo → Run fam0 none cd_X4_needRange ER ET 10 0 [some (vI v), some (vI lo), some (vI hi)] [] μ) ∧ (lo ≤ v → Run fam0 none cd_X4_needRange ER ET 5 0 [some (vI v), some (vI lo), some (vI hi)] [] μ)
  refine ⟨fun c1 => ?_, fun c1 => ?_⟩
  · refine run_k 1 ?_
    show ET 2 μ
    exact hET _ ⟨rfl, by omega⟩
  · refine run_k 3 ?_
    show (v ≤ hi → Run fam0 none cd_X4_needRange ER ET 20 0 [some (vI v), some (vI lo), some (vI hi)] [] μ) ∧ (hi < v → Run fam0 none cd_X4_needRange ER ET 10 0 [some (vI v), some (vI lo), some (vI hi)] [] μ)
    refine ⟨fun c3 => ?_, fun c3 => ?_⟩
    · refine run_k 1 ?_
      show ER none μ
      exact hER _ _ ⟨rfl, rfl, by omega⟩
    · refine run_k 1 ?_
      show ET 2 μ
      exact hET _ ⟨rfl, by omega⟩
set_option maxRecDepth 20000 in
theorem con_X4_needRange (l : Launch) (htr : l.stackTraces = false) (σ : Mm) : CON fam0 63 l yX4_needRange (Cond.code yX4_needRange cX4_needRange 3 none :: wm) 6 82 1 (cl_X4_needRange.2.2.1 σ) (cl_X4_needRange.2.2.2.1 σ) (cl_X4_needRange.2.2.2.2 σ) :=
  con_of (cd := cd_X4_needRange) (own := RX4) (rk := 0) (sc_of htr (by decide) k_X4_needRange_ok (by decide +kernel) co_X4_ok fl_X4_ok all_nil all_nil (all_cons ⟨tok_needRange, by decide, by decide⟩ all_nil)) rfl (by decide +kernel) rfl rfl rfl rfl (fun as μ hs => by rw [hs.1]; exact Nat.le_of_ble_eq_true rfl)
    (fun as μ hs hM hrg => by
      have hs1 := hs.1
      have hmem : ∀ v, v ∈ ([vI (iaI as 0), vI (iaI as 1), vI (iaI as 2)] : List AV) → rg fam0 v := by rw [← hs1]; exact hrg
      have key := run_X4_needRange (ER := cl_X4_needRange.2.2.2.1 σ as μ) (ET := fun k μ' => cl_X4_needRange.2.2.2.2 σ as μ k ∧ μ' = μ) σ μ (iaI as 0) (iaI as 1) (iaI as 2) hM (hmem (vI (iaI as 0)) (by simp)) (hmem (vI (iaI as 1)) (by simp)) (hmem (vI (iaI as 2)) (by simp)) hs.2 (fun ov μ' h => h) (fun k h => ⟨h, rfl⟩)
      have e : entL as 3 = [some (vI (iaI as 0)), some (vI (iaI as 1)), some (vI (iaI as 2))] := by rw [hs1]; rfl
      rw [e]; exact key)
/-! ### Primeborrow.needState -/
def cl_X4_needState : Cl := (1, 1, fun σ as μ => as = [vI (iaI as 0)] ∧ (True), fun σ as μ ov μ' => ov = none ∧ μ' = μ ∧ ((iaI as 0) ≠ 0), fun σ as μ k => k = 3 ∧ ¬ ((iaI as 0) ≠ 0))
def cd_X4_needState : Cd := mkcd k_X4_needState co_X4 fl_X4 [] [] [] [(4, 3)] 1 0 1
set_option maxHeartbeats 4000000 in
set_option maxRecDepth 20000 in
theorem run_X4_needState {ER : Option AV → Mm → Prop} {ET : Nat → Mm → Prop} (σ μ : Mm) (b : Int) (hM : MR fam0 μ) (h_b : in32 b) (hP : True) (hER : ∀ ov μ', (ov = none ∧ μ' = μ ∧ (b ≠ 0)) → ER ov μ') (hET : ∀ k, (k = 3 ∧ ¬ (b ≠ 0)) → ET k μ) : Run fam0 none cd_X4_needState ER ET 0 0 [some (vI b)] [] μ := by
  refine run_k 2 ?_
  show (b ≠ 0 → Run fam0 none cd_X4_needState ER ET 14 0 [some (vI b)] [] μ) ∧ (b = 0 → Run fam0 none cd_X4_needState ER ET 4 0 [some (vI b)] [] μ)
  refine ⟨fun c1 => ?_, fun c1 => ?_⟩
  · refine run_k 1 ?_
    show ER none μ
    exact hER _ _ ⟨rfl, rfl, by omega⟩
  · refine run_k 1 ?_
    show ET 3 μ
    exact hET _ ⟨rfl, by omega⟩
set_option maxRecDepth 20000 in
theorem con_X4_needState (l : Launch) (htr : l.stackTraces = false) (σ : Mm) : CON fam0 63 l yX4_needState (Cond.code yX4_needState cX4_needState 1 none :: wm) 6 82 1 (cl_X4_needState.2.2.1 σ) (cl_X4_needState.2.2.2.1 σ) (cl_X4_needState.2.2.2.2 σ) :=
  con_of (cd := cd_X4_needState) (own := RX4) (rk := 0) (sc_of htr (by decide) k_X4_needState_ok (by decide +kernel) co_X4_ok fl_X4_ok all_nil all_nil (all_cons ⟨tok_needState, by decide, by decide⟩ all_nil)) rfl (by decide +kernel) rfl rfl rfl rfl (fun as μ hs => by rw [hs.1]; exact Nat.le_of_ble_eq_true rfl)
    (fun as μ hs hM hrg => by
      have hs1 := hs.1
      have hmem : ∀ v, v ∈ ([vI (iaI as 0)] : List AV) → rg fam0 v := by rw [← hs1]; exact hrg
      have key := run_X4_needState (ER := cl_X4_needState.2.2.2.1 σ as μ) (ET := fun k μ' => cl_X4_needState.2.2.2.2 σ as μ k ∧ μ' = μ) σ μ (iaI as 0) hM (hmem (vI (iaI as 0)) (by simp)) hs.2 (fun ov μ' h => h) (fun k h => ⟨h, rfl⟩)
      have e : entL as 1 = [some (vI (iaI as 0))] := by rw [hs1]; rfl
      rw [e]; exact key)
theorem part_vb {m : Mm} (h : VB m) {c s : Int} (hc : 0 ≤ c ∧ c ≤ 5) (hs : 0 ≤ s ∧ s ≤ 3) : (0 ≤ partF m c s ∧ partF m c s ≤ 500) ∧ (0 < m 42 0 (4 * c + s) → partF m c s = m 42 0 (4 * c + s) - lentF m c s) ∧ (m 42 0 (4 * c + s) ≤ 0 → partF m c s = 0 ∧ lentF m c s = 0) := by
  have h1 := part_at h.1 h.2.2.1 hc hs
  have h2 := I5_at h.1 h.2.2.1 hc hs
  have h3 := lentF_rng h.1 c s
  have h4 := h.2.1 (4 * c + s) (by omega) (by omega)
  omega
theorem ki_held {μ : Mm} (h : KI μ) {c s : Int} (hc : 0 ≤ c ∧ c ≤ 5) (hs : 0 ≤ s ∧ s ≤ 3) : (-500 ≤ μ 7 c s ∧ μ 7 c s ≤ 500) ∧ μ 14 c s = lentF (al μ) c s ∧ (0 ≤ partF (al μ) c s ∧ partF (al μ) c s ≤ 500) ∧ (0 < μ 7 c s → partF (al μ) c s = μ 7 c s - μ 14 c s) ∧ (μ 7 c s ≤ 0 → partF (al μ) c s = 0 ∧ μ 14 c s = 0) ∧ (0 ≤ μ 14 c s ∧ μ 14 c s ≤ 500000) := by
  have h1 := part_vb h.1 hc hs
  have h2 := h.2.1 c s (Or.inl hc) hs.1 hs.2
  have h3 := lentF_rng h.1.1 c s
  have h4 := h.1.2.1 (4 * c + s) (by omega) (by omega)
  rw [al_42 hs] at h1 h4
  omega
theorem ki_len {μ : Mm} (h : KI μ) {l s : Int} (hl : 0 ≤ l ∧ l ≤ 3) (hs : 0 ≤ s ∧ s ≤ 3) : (0 ≤ μ 9 l s ∧ μ 9 l s ≤ 1000000) ∧ (0 ≤ μ 11 l s ∧ μ 11 l s ≤ 10000) ∧ μ 14 (10 + l) s = lentF (al μ) (10 + l) s ∧ (0 ≤ μ 14 (10 + l) s ∧ μ 14 (10 + l) s ≤ 500000) := by
  have h2 := h.2.1 (10 + l) s (by unfold srcR; omega) hs.1 hs.2
  have h3 := lentF_rng h.1.1 (10 + l) s
  have h4 := Gk_of h.1.1 h.1.2.2.2 (4 * l + s) (by omega) (by omega)
  rw [al_45 hs, al_46 hs] at h4
  omega
/-! ### Primeborrow.inBox -/
def cl_X4_inBox : Cl := (3, 0, fun σ as μ => as = [vR 0 0, vI (iaI as 1), vI (iaI as 2)] ∧ (KI μ ∧ (0 ≤ (iaI as 1) ∧ (iaI as 1) ≤ 5) ∧ (0 ≤ (iaI as 2) ∧ (iaI as 2) ≤ 3)), fun σ as μ ov μ' => ov = some (vI (partF (al μ) (iaI as 1) (iaI as 2))) ∧ μ' = μ, fun σ as μ k => False)
def cd_X4_inBox : Cd := mkcd k_X4_inBox co_X4 fl_X4 [] [] [] [] 4 1 0
set_option maxHeartbeats 4000000 in
set_option maxRecDepth 20000 in
theorem run_X4_inBox {ER : Option AV → Mm → Prop} {ET : Nat → Mm → Prop} (σ μ : Mm) (c s : Int) (hM : MR fam0 μ) (h_c : in32 c) (h_s : in32 s) (hP : KI μ ∧ (0 ≤ c ∧ c ≤ 5) ∧ (0 ≤ s ∧ s ≤ 3)) (hER : ∀ ov μ', (ov = some (vI (partF (al μ) c s)) ∧ μ' = μ) → ER ov μ') : Run fam0 none cd_X4_inBox ER ET 0 0 [some (vR 0 0), some (vI c), some (vI s), none] [] μ := by
  obtain ⟨hK, hc, hs⟩ := hP
  have hkh := ki_held hK hc hs
  refine run_k 7 ?_
  show (0 ≤ c ∧ c < 6) ∧ ((0 ≤ s ∧ s < 4) ∧ (((μ 7 c s) ≤ 0 → Run fam0 none cd_X4_inBox ER ET 22 0 [some (vR 0 0), some (vI c), some (vI s), none] [] μ) ∧ (0 < (μ 7 c s) → Run fam0 none cd_X4_inBox ER ET 11 0 [some (vR 0 0), some (vI c), some (vI s), none] [] μ)))
  refine ⟨by omega, ?_⟩
  refine ⟨by omega, ?_⟩
  refine ⟨fun c1 => ?_, fun c1 => ?_⟩
  · refine run_k 11 ?_
    show (0 ≤ c ∧ c < 14) ∧ ((0 ≤ s ∧ s < 4) ∧ (ER (some (vI (w32 (0 - (μ 14 c s))))) μ))
    rw [show w32 (0 - (μ 14 c s)) = 0 - (μ 14 c s) from w32_id (by simp only [in32]; omega)]
    refine ⟨by omega, ?_⟩
    refine ⟨by omega, ?_⟩
    exact hER _ _ ⟨congrArg (fun z => some (vI z)) (by omega), rfl⟩
  · refine run_k 17 ?_
    show (0 ≤ c ∧ c < 6) ∧ ((0 ≤ s ∧ s < 4) ∧ ((0 ≤ c ∧ c < 14) ∧ ((0 ≤ s ∧ s < 4) ∧ (ER (some (vI (w32 ((μ 7 c s) - (μ 14 c s))))) μ))))
    rw [show w32 ((μ 7 c s) - (μ 14 c s)) = (μ 7 c s) - (μ 14 c s) from w32_id (by simp only [in32]; omega)]
    refine ⟨by omega, ?_⟩
    refine ⟨by omega, ?_⟩
    refine ⟨by omega, ?_⟩
    refine ⟨by omega, ?_⟩
    exact hER _ _ ⟨congrArg (fun z => some (vI z)) (by omega), rfl⟩
set_option maxRecDepth 20000 in
theorem con_X4_inBox (l : Launch) (htr : l.stackTraces = false) (σ : Mm) : CON fam0 63 l yX4_inBox (Cond.code yX4_inBox cX4_inBox 4 (some .int) :: wm) 0 0 0 (cl_X4_inBox.2.2.1 σ) (cl_X4_inBox.2.2.2.1 σ) (cl_X4_inBox.2.2.2.2 σ) :=
  con_of (cd := cd_X4_inBox) (own := RX4) (rk := 1) (sc_of htr (by decide) k_X4_inBox_ok (by decide +kernel) co_X4_ok fl_X4_ok all_nil all_nil all_nil) rfl (by decide +kernel) rfl rfl rfl rfl (fun as μ hs => by rw [hs.1]; exact Nat.le_of_ble_eq_true rfl)
    (fun as μ hs hM hrg => by
      have hs1 := hs.1
      have hmem : ∀ v, v ∈ ([vR 0 0, vI (iaI as 1), vI (iaI as 2)] : List AV) → rg fam0 v := by rw [← hs1]; exact hrg
      have key := run_X4_inBox (ER := cl_X4_inBox.2.2.2.1 σ as μ) (ET := fun k μ' => cl_X4_inBox.2.2.2.2 σ as μ k ∧ μ' = μ) σ μ (iaI as 1) (iaI as 2) hM (hmem (vI (iaI as 1)) (by simp)) (hmem (vI (iaI as 2)) (by simp)) hs.2 (fun ov μ' h => h)
      have e : entL as 4 = [some (vR 0 0), some (vI (iaI as 1)), some (vI (iaI as 2)), none] := by rw [hs1]; rfl
      rw [e]; exact key)
def wpF (m : Mm) (c s : Int) : Int := w64 (m 42 0 (4 * c + s) * m 39 0 s)
theorem wpF_w (m : Mm) (c s : Int) : absF (wpF m c s) = worthF m c s := rfl
/-! ### Primeborrow.worth -/
def cl_X4_worth : Cl := (3, 0, fun σ as μ => as = [vR 0 0, vI (iaI as 1), vI (iaI as 2)] ∧ ((0 ≤ (iaI as 1) ∧ (iaI as 1) ≤ 5) ∧ (0 ≤ (iaI as 2) ∧ (iaI as 2) ≤ 3)), fun σ as μ ov μ' => ov = some (vL (wpF (al μ) (iaI as 1) (iaI as 2))) ∧ μ' = μ, fun σ as μ k => False)
def cd_X4_worth : Cd := mkcd k_X4_worth co_X4 fl_X4 [] [] [] [] 3 2 0
set_option maxHeartbeats 4000000 in
set_option maxRecDepth 20000 in
theorem run_X4_worth {ER : Option AV → Mm → Prop} {ET : Nat → Mm → Prop} (σ μ : Mm) (c s : Int) (hM : MR fam0 μ) (h_c : in32 c) (h_s : in32 s) (hP : (0 ≤ c ∧ c ≤ 5) ∧ (0 ≤ s ∧ s ≤ 3)) (hER : ∀ ov μ', (ov = some (vL (wpF (al μ) c s)) ∧ μ' = μ) → ER ov μ') : Run fam0 none cd_X4_worth ER ET 0 0 [some (vR 0 0), some (vI c), some (vI s)] [] μ := by
  refine run_k 14 ?_
  show (0 ≤ c ∧ c < 6) ∧ ((0 ≤ s ∧ s < 4) ∧ ((0 ≤ s ∧ s < 4) ∧ (ER (some (vL (w64 ((μ 7 c s) * (μ 1 0 s))))) μ)))
  refine ⟨by omega, ?_⟩
  refine ⟨by omega, ?_⟩
  refine ⟨by omega, ?_⟩
  exact hER _ _ ⟨by unfold wpF; rw [al_42 hP.2]; rfl, rfl⟩
set_option maxRecDepth 20000 in
theorem con_X4_worth (l : Launch) (htr : l.stackTraces = false) (σ : Mm) : CON fam0 63 l yX4_worth (Cond.code yX4_worth cX4_worth 3 (some .long) :: wm) 0 0 0 (cl_X4_worth.2.2.1 σ) (cl_X4_worth.2.2.2.1 σ) (cl_X4_worth.2.2.2.2 σ) :=
  con_of (cd := cd_X4_worth) (own := RX4) (rk := 2) (sc_of htr (by decide) k_X4_worth_ok (by decide +kernel) co_X4_ok fl_X4_ok all_nil all_nil all_nil) rfl (by decide +kernel) rfl rfl rfl rfl (fun as μ hs => by rw [hs.1]; exact Nat.le_of_ble_eq_true rfl)
    (fun as μ hs hM hrg => by
      have hs1 := hs.1
      have hmem : ∀ v, v ∈ ([vR 0 0, vI (iaI as 1), vI (iaI as 2)] : List AV) → rg fam0 v := by rw [← hs1]; exact hrg
      have key := run_X4_worth (ER := cl_X4_worth.2.2.2.1 σ as μ) (ET := fun k μ' => cl_X4_worth.2.2.2.2 σ as μ k ∧ μ' = μ) σ μ (iaI as 1) (iaI as 2) hM (hmem (vI (iaI as 1)) (by simp)) (hmem (vI (iaI as 2)) (by simp)) hs.2 (fun ov μ' h => h)
      have e : entL as 3 = [some (vR 0 0), some (vI (iaI as 1)), some (vI (iaI as 2))] := by rw [hs1]; rfl
      rw [e]; exact key)
/-! ### Primeborrow.equity -/
def cl_X4_equity : Cl := (2, 0, fun σ as μ => as = [vR 0 0, vI (iaI as 1)] ∧ ((0 ≤ (iaI as 1) ∧ (iaI as 1) ≤ 5)), fun σ as μ ov μ' => ov = some (vL (equityF (al μ) (iaI as 1))) ∧ μ' = μ, fun σ as μ k => False)
def cd_X4_equity : Cd := mkcd k_X4_equity co_X4 fl_X4 [(239, cl_X4_worth)] [] [] [] 5 2 0
set_option maxHeartbeats 4000000 in
set_option maxRecDepth 20000 in
theorem run_X4_equity {ER : Option AV → Mm → Prop} {ET : Nat → Mm → Prop} (σ μ : Mm) (c : Int) (hM : MR fam0 μ) (h_c : in32 c) (hP : (0 ≤ c ∧ c ≤ 5)) (hER : ∀ ov μ', (ov = some (vL (equityF (al μ) c)) ∧ μ' = μ) → ER ov μ') : Run fam0 none cd_X4_equity ER ET 0 0 [some (vR 0 0), some (vI c), none, none, none] [] μ := by
  refine run_k 7 ?_
  show (0 ≤ c ∧ c < 6) ∧ (Run fam0 none cd_X4_equity ER ET 10 0 [some (vR 0 0), some (vI c), some (vL (μ 3 0 c)), none, some (vI 0)] [] μ)
  refine ⟨by omega, ?_⟩
  have lp10 : ∀ (fz : Nat) (k : Nat) (x : Int), (4 - (k : Int)).toNat < fz → ((k : Int) ≤ 4 ∧ x = eqL (al μ) c k) → Run fam0 none cd_X4_equity ER ET 10 0 [some (vR 0 0), some (vI c), some (vL x), none, some (vI (k : Int))] [] μ := by
    intro fz
    induction fz with
    | zero => intro k x hf; omega
    | succ fz ih10 =>
      intro k x hf hI
      obtain ⟨hk1, hx2⟩ := hI
      refine run_k 3 ?_
      show (4 ≤ (k : Int) → Run fam0 none cd_X4_equity ER ET 32 0 [some (vR 0 0), some (vI c), some (vL x), none, some (vI (k : Int))] [] μ) ∧ ((k : Int) < 4 → Run fam0 none cd_X4_equity ER ET 16 0 [some (vR 0 0), some (vI c), some (vL x), none, some (vI (k : Int))] [] μ)
      refine ⟨fun c2 => ?_, fun c2 => ?_⟩
      · refine run_k 2 ?_
        show ER (some (vL x)) μ
        exact hER _ _ ⟨by rw [hx2, show k = 4 by omega]; rfl, rfl⟩
      · refine run_k 5 ?_
        show ∃ σ : Mm, cl_X4_worth.2.2.1 σ [vR 0 0, vI c, vI (k : Int)] μ ∧ (∀ ov μ', cl_X4_worth.2.2.2.1 σ [vR 0 0, vI c, vI (k : Int)] μ ov μ' → Run fam0 none cd_X4_equity ER ET 24 0 [some (vR 0 0), some (vI c), some (vL x), none, some (vI (k : Int))] (ov.toList ++ [vL x]) μ') ∧ ∀ kx, cl_X4_worth.2.2.2.2 σ [vR 0 0, vI c, vI (k : Int)] μ kx → thr cd_X4_equity ET (Run fam0 none cd_X4_equity ER ET) 21 0 [some (vR 0 0), some (vI c), some (vL x), none, some (vI (k : Int))] μ kx
        refine ⟨μ, ⟨rfl, show (0 ≤ c ∧ c ≤ 5) ∧ (0 ≤ ((k : Int)) ∧ ((k : Int)) ≤ 3) from ⟨by omega, by omega⟩⟩, fun ov μ' hq => ?_, fun k hk => hk.elim⟩
        obtain ⟨hov, hmu⟩ : ov = some (vL (wpF (al μ) c (k : Int))) ∧ μ' = μ := hq
        rw [hov, hmu]
        show Run fam0 none cd_X4_equity ER ET 24 0 [some (vR 0 0), some (vI c), some (vL x), none, some (vI (k : Int))] [vL (wpF (al μ) c (k : Int)), vL x] μ
        refine run_k 4 ?_
        show Run fam0 none cd_X4_equity ER ET 10 0 [some (vR 0 0), some (vI c), some (vL (w64 (x + (wpF (al μ) c (k : Int))))), none, some (vI (w32 ((k : Int) + 1)))] [] μ
        rw [show w32 ((k : Int) + 1) = (k : Int) + 1 from w32_id (by simp only [in32]; omega)]
        exact ih10 (k + 1) (w64 (x + (wpF (al μ) c (k : Int)))) (by omega) (⟨by omega, by rw [hx2]; rfl⟩)
  exact lp10 _ 0 (μ 3 0 c) (Nat.lt_succ_self _) (⟨by omega, rfl⟩)
theorem vw_X4_239 : ∀ w ∈ ([.methodLink RX4 239 yX4_worth, .instanceMethod yX4_worth, .selects RX4 yX4_worth yX4_worth, .initialized RX4, .code yX4_worth cX4_worth 3 (some .long)] : List Cond), w ∈ wm := wm_ps _ [383, 385, 2, 50, 386] (by decide +kernel)
set_option maxRecDepth 20000 in
theorem con_X4_equity (l : Launch) (htr : l.stackTraces = false) (σ : Mm) : CON fam0 63 l yX4_equity (Cond.code yX4_equity cX4_equity 5 (some .long) :: wm) 1 22 0 (cl_X4_equity.2.2.1 σ) (cl_X4_equity.2.2.2.1 σ) (cl_X4_equity.2.2.2.2 σ) :=
  con_of (cd := cd_X4_equity) (own := RX4) (rk := 2) (sc_of htr (by decide) k_X4_equity_ok (by decide +kernel) co_X4_ok fl_X4_ok (all_cons ⟨RX4, yX4_worth, cX4_worth, 3, (some .long), 0, 0, 2, con_X4_worth l htr, rfl, vw_X4_239, ⟨rfl, by decide, by decide, by decide +kernel⟩, ⟨by decide, by decide⟩, fun σ as μ h => ⟨0, 0, _, h.1, rfl, TX4, 17, rfl⟩⟩ all_nil) all_nil all_nil) rfl (by decide +kernel) rfl rfl rfl rfl (fun as μ hs => by rw [hs.1]; exact Nat.le_of_ble_eq_true rfl)
    (fun as μ hs hM hrg => by
      have hs1 := hs.1
      have hmem : ∀ v, v ∈ ([vR 0 0, vI (iaI as 1)] : List AV) → rg fam0 v := by rw [← hs1]; exact hrg
      have key := run_X4_equity (ER := cl_X4_equity.2.2.2.1 σ as μ) (ET := fun k μ' => cl_X4_equity.2.2.2.2 σ as μ k ∧ μ' = μ) σ μ (iaI as 1) hM (hmem (vI (iaI as 1)) (by simp)) hs.2 (fun ov μ' h => h)
      have e : entL as 5 = [some (vR 0 0), some (vI (iaI as 1)), none, none, none] := by rw [hs1]; rfl
      rw [e]; exact key)
/-! ### Primeborrow.need -/
def cl_X4_need : Cl := (2, 0, fun σ as μ => as = [vR 0 0, vI (iaI as 1)] ∧ ((0 ≤ (iaI as 1) ∧ (iaI as 1) ≤ 5)), fun σ as μ ov μ' => ov = some (vL (needF (al μ) (iaI as 1))) ∧ μ' = μ, fun σ as μ k => False)
def cd_X4_need : Cd := mkcd k_X4_need co_X4 fl_X4 [(239, cl_X4_worth)] [(243, cl_J9_abs_067f4)] [] [] 9 2 0
set_option maxHeartbeats 4000000 in
set_option maxRecDepth 20000 in
theorem run_X4_need {ER : Option AV → Mm → Prop} {ET : Nat → Mm → Prop} (σ μ : Mm) (c : Int) (hM : MR fam0 μ) (h_c : in32 c) (hP : (0 ≤ c ∧ c ≤ 5)) (hER : ∀ ov μ', (ov = some (vL (needF (al μ) c)) ∧ μ' = μ) → ER ov μ') : Run fam0 none cd_X4_need ER ET 0 0 [some (vR 0 0), some (vI c), none, none, none, none, none, none, none] [] μ := by
  refine run_k 4 ?_
  show Run fam0 none cd_X4_need ER ET 5 0 [some (vR 0 0), some (vI c), some (vL 0), none, some (vI 0), none, none, none, none] [] μ
  have lp5 : ∀ (fz : Nat) (k : Nat) (x : Int), (4 - (k : Int)).toNat < fz → ((k : Int) ≤ 4 ∧ x = allL (al μ) c k) → Run fam0 none cd_X4_need ER ET 5 0 [some (vR 0 0), some (vI c), some (vL x), none, some (vI (k : Int)), none, none, none, none] [] μ := by
    intro fz
    induction fz with
    | zero => intro k x hf; omega
    | succ fz ih5 =>
      intro k x hf hI
      obtain ⟨hk1, hx2⟩ := hI
      refine run_k 3 ?_
      show (4 ≤ (k : Int) → Run fam0 none cd_X4_need ER ET 30 0 [some (vR 0 0), some (vI c), some (vL x), none, some (vI (k : Int)), none, none, none, none] [] μ) ∧ ((k : Int) < 4 → Run fam0 none cd_X4_need ER ET 11 0 [some (vR 0 0), some (vI c), some (vL x), none, some (vI (k : Int)), none, none, none, none] [] μ)
      refine ⟨fun c2 => ?_, fun c2 => ?_⟩
      · refine run_k 4 ?_
        show Run fam0 none cd_X4_need ER ET 36 0 [some (vR 0 0), some (vI c), some (vL x), none, some (vL 0), none, some (vI 0), none, none] [] μ
        have lp36 : ∀ (fz : Nat) (j : Nat) (y : Int), (4 - (j : Int)).toNat < fz → ((j : Int) ≤ 4 ∧ y = neL (al μ) c j) → Run fam0 none cd_X4_need ER ET 36 0 [some (vR 0 0), some (vI c), some (vL x), none, some (vL y), none, some (vI (j : Int)), none, none] [] μ := by
          intro fz
          induction fz with
          | zero => intro j y hf; omega
          | succ fz ih36 =>
            intro j y hf hI
            obtain ⟨hj1, hy2⟩ := hI
            refine run_k 3 ?_
            show (4 ≤ (j : Int) → Run fam0 none cd_X4_need ER ET 102 0 [some (vR 0 0), some (vI c), some (vL x), none, some (vL y), none, some (vI (j : Int)), none, none] [] μ) ∧ ((j : Int) < 4 → Run fam0 none cd_X4_need ER ET 42 0 [some (vR 0 0), some (vI c), some (vL x), none, some (vL y), none, some (vI (j : Int)), none, none] [] μ)
            refine ⟨fun c4 => ?_, fun c4 => ?_⟩
            · refine run_k 2 ?_
              show ER (some (vL y)) μ
              exact hER _ _ ⟨by rw [hy2, show j = 4 by omega]; rfl, rfl⟩
            · refine run_k 4 ?_
              show ∃ σ : Mm, cl_X4_worth.2.2.1 σ [vR 0 0, vI c, vI (j : Int)] μ ∧ (∀ ov μ', cl_X4_worth.2.2.2.1 σ [vR 0 0, vI c, vI (j : Int)] μ ov μ' → Run fam0 none cd_X4_need ER ET 49 0 [some (vR 0 0), some (vI c), some (vL x), none, some (vL y), none, some (vI (j : Int)), none, none] (ov.toList ++ []) μ') ∧ ∀ kx, cl_X4_worth.2.2.2.2 σ [vR 0 0, vI c, vI (j : Int)] μ kx → thr cd_X4_need ET (Run fam0 none cd_X4_need ER ET) 46 0 [some (vR 0 0), some (vI c), some (vL x), none, some (vL y), none, some (vI (j : Int)), none, none] μ kx
              refine ⟨μ, ⟨rfl, show (0 ≤ c ∧ c ≤ 5) ∧ (0 ≤ ((j : Int)) ∧ ((j : Int)) ≤ 3) from ⟨by omega, by omega⟩⟩, fun ov μ' hq => ?_, fun k hk => hk.elim⟩
              obtain ⟨hov, hmu⟩ : ov = some (vL (wpF (al μ) c (j : Int))) ∧ μ' = μ := hq
              rw [hov, hmu]
              show Run fam0 none cd_X4_need ER ET 49 0 [some (vR 0 0), some (vI c), some (vL x), none, some (vL y), none, some (vI (j : Int)), none, none] [vL (wpF (al μ) c (j : Int))] μ
              refine run_k 1 ?_
              show ∃ σ : Mm, cl_J9_abs_067f4.2.2.1 σ [vL (wpF (al μ) c (j : Int))] μ ∧ (∀ ov μ', cl_J9_abs_067f4.2.2.2.1 σ [vL (wpF (al μ) c (j : Int))] μ ov μ' → Run fam0 none cd_X4_need ER ET 52 0 [some (vR 0 0), some (vI c), some (vL x), none, some (vL y), none, some (vI (j : Int)), none, none] (ov.toList ++ []) μ') ∧ ∀ kx, cl_J9_abs_067f4.2.2.2.2 σ [vL (wpF (al μ) c (j : Int))] μ kx → thr cd_X4_need ET (Run fam0 none cd_X4_need ER ET) 49 0 [some (vR 0 0), some (vI c), some (vL x), none, some (vL y), none, some (vI (j : Int)), none, none] μ kx
              refine ⟨μ, ⟨rfl, show True from True.intro⟩, fun ov μ' hq => ?_, fun k hk => hk.elim⟩
              obtain ⟨hov, hmu⟩ : ov = some (vL (absF (wpF (al μ) c (j : Int)))) ∧ μ' = μ := hq
              rw [hov, hmu]
              show Run fam0 none cd_X4_need ER ET 52 0 [some (vR 0 0), some (vI c), some (vL x), none, some (vL y), none, some (vI (j : Int)), none, none] [vL (absF (wpF (al μ) c (j : Int)))] μ
              refine run_k 19 ?_
              show (0 ≤ (j : Int) ∧ (j : Int) < 4) ∧ ((100 ≠ 0) ∧ (((cmpL (w64 (2 * (absF (wpF (al μ) c (j : Int))))) x) ≤ 0 → Run fam0 none cd_X4_need ER ET 96 0 [some (vR 0 0), some (vI c), some (vL x), none, some (vL (w64 (y + (w64 ((w64 ((absF (wpF (al μ) c (j : Int))) * (μ 2 0 (j : Int)))).tdiv 100))))), none, some (vI (j : Int)), some (vL (absF (wpF (al μ) c (j : Int)))), none] [] μ) ∧ (0 < (cmpL (w64 (2 * (absF (wpF (al μ) c (j : Int))))) x) → Run fam0 none cd_X4_need ER ET 85 0 [some (vR 0 0), some (vI c), some (vL x), none, some (vL (w64 (y + (w64 ((w64 ((absF (wpF (al μ) c (j : Int))) * (μ 2 0 (j : Int)))).tdiv 100))))), none, some (vI (j : Int)), some (vL (absF (wpF (al μ) c (j : Int)))), none] [] μ)))
              refine ⟨by omega, ?_⟩
              refine ⟨by decide, ?_⟩
              refine ⟨fun c8 => ?_, fun c8 => ?_⟩
              · replace c8 := (show ¬ _ from fun q => (Int.not_lt.mpr c8) (cmpL_p.mpr q))
                refine run_k 2 ?_
                show Run fam0 none cd_X4_need ER ET 36 0 [some (vR 0 0), some (vI c), some (vL x), none, some (vL (w64 (y + (w64 ((w64 ((absF (wpF (al μ) c (j : Int))) * (μ 2 0 (j : Int)))).tdiv 100))))), none, some (vI (w32 ((j : Int) + 1))), some (vL (absF (wpF (al μ) c (j : Int)))), none] [] μ
                rw [show w32 ((j : Int) + 1) = (j : Int) + 1 from w32_id (by simp only [in32]; omega)]
                refine run_w (L' := [some (vR 0 0), some (vI c), some (vL x), none, some (vL (w64 (y + (w64 ((w64 ((absF (wpF (al μ) c (j : Int))) * (μ 2 0 (j : Int)))).tdiv 100))))), none, some (vI ((j : Int) + 1)), none, none]) ⟨rfl, rfl, rfl, rfl, rfl, True.intro⟩ ?_
                exact ih36 (j + 1) (w64 (y + (w64 ((w64 ((absF (wpF (al μ) c (j : Int))) * (μ 2 0 (j : Int)))).tdiv 100)))) (by omega) (⟨by omega, by rw [hy2]; show _ = w64 (neL (al μ) c j + w64 (w64 ((w64 (worthF (al μ) c j * al μ 40 0 j)).tdiv 100) + (if allL (al μ) c 4 < w64 (2 * worthF (al μ) c j) then w64 ((worthF (al μ) c j).tdiv 10) else 0))); (have hk4 : k = 4 := by omega); subst hk4; rw [← hx2]; first | (rw [if_pos (show x < w64 (2 * worthF (al μ) c j) from by assumption)]; exact w64_a _ _ _) | (rw [if_neg (show ¬ x < w64 (2 * worthF (al μ) c j) from by assumption), Int.add_zero, w64_w]; rfl)⟩)
              · replace c8 := cmpL_p.mp c8
                refine run_k 8 ?_
                show (10 ≠ 0) ∧ (Run fam0 none cd_X4_need ER ET 36 0 [some (vR 0 0), some (vI c), some (vL x), none, some (vL (w64 ((w64 (y + (w64 ((w64 ((absF (wpF (al μ) c (j : Int))) * (μ 2 0 (j : Int)))).tdiv 100)))) + (w64 ((absF (wpF (al μ) c (j : Int))).tdiv 10))))), none, some (vI (w32 ((j : Int) + 1))), some (vL (absF (wpF (al μ) c (j : Int)))), none] [] μ)
                rw [show w32 ((j : Int) + 1) = (j : Int) + 1 from w32_id (by simp only [in32]; omega)]
                refine ⟨by decide, ?_⟩
                refine run_w (L' := [some (vR 0 0), some (vI c), some (vL x), none, some (vL (w64 ((w64 (y + (w64 ((w64 ((absF (wpF (al μ) c (j : Int))) * (μ 2 0 (j : Int)))).tdiv 100)))) + (w64 ((absF (wpF (al μ) c (j : Int))).tdiv 10))))), none, some (vI ((j : Int) + 1)), none, none]) ⟨rfl, rfl, rfl, rfl, rfl, True.intro⟩ ?_
                exact ih36 (j + 1) (w64 ((w64 (y + (w64 ((w64 ((absF (wpF (al μ) c (j : Int))) * (μ 2 0 (j : Int)))).tdiv 100)))) + (w64 ((absF (wpF (al μ) c (j : Int))).tdiv 10)))) (by omega) (⟨by omega, by rw [hy2]; show _ = w64 (neL (al μ) c j + w64 (w64 ((w64 (worthF (al μ) c j * al μ 40 0 j)).tdiv 100) + (if allL (al μ) c 4 < w64 (2 * worthF (al μ) c j) then w64 ((worthF (al μ) c j).tdiv 10) else 0))); (have hk4 : k = 4 := by omega); subst hk4; rw [← hx2]; first | (rw [if_pos (show x < w64 (2 * worthF (al μ) c j) from by assumption)]; exact w64_a _ _ _) | (rw [if_neg (show ¬ x < w64 (2 * worthF (al μ) c j) from by assumption), Int.add_zero, w64_w]; rfl)⟩)
        exact lp36 _ 0 0 (Nat.lt_succ_self _) (⟨by omega, rfl⟩)
      · refine run_k 5 ?_
        show ∃ σ : Mm, cl_X4_worth.2.2.1 σ [vR 0 0, vI c, vI (k : Int)] μ ∧ (∀ ov μ', cl_X4_worth.2.2.2.1 σ [vR 0 0, vI c, vI (k : Int)] μ ov μ' → Run fam0 none cd_X4_need ER ET 19 0 [some (vR 0 0), some (vI c), some (vL x), none, some (vI (k : Int)), none, none, none, none] (ov.toList ++ [vL x]) μ') ∧ ∀ kx, cl_X4_worth.2.2.2.2 σ [vR 0 0, vI c, vI (k : Int)] μ kx → thr cd_X4_need ET (Run fam0 none cd_X4_need ER ET) 16 0 [some (vR 0 0), some (vI c), some (vL x), none, some (vI (k : Int)), none, none, none, none] μ kx
        refine ⟨μ, ⟨rfl, show (0 ≤ c ∧ c ≤ 5) ∧ (0 ≤ ((k : Int)) ∧ ((k : Int)) ≤ 3) from ⟨by omega, by omega⟩⟩, fun ov μ' hq => ?_, fun k hk => hk.elim⟩
        obtain ⟨hov, hmu⟩ : ov = some (vL (wpF (al μ) c (k : Int))) ∧ μ' = μ := hq
        rw [hov, hmu]
        show Run fam0 none cd_X4_need ER ET 19 0 [some (vR 0 0), some (vI c), some (vL x), none, some (vI (k : Int)), none, none, none, none] [vL (wpF (al μ) c (k : Int)), vL x] μ
        refine run_k 1 ?_
        show ∃ σ : Mm, cl_J9_abs_067f4.2.2.1 σ [vL (wpF (al μ) c (k : Int))] μ ∧ (∀ ov μ', cl_J9_abs_067f4.2.2.2.1 σ [vL (wpF (al μ) c (k : Int))] μ ov μ' → Run fam0 none cd_X4_need ER ET 22 0 [some (vR 0 0), some (vI c), some (vL x), none, some (vI (k : Int)), none, none, none, none] (ov.toList ++ [vL x]) μ') ∧ ∀ kx, cl_J9_abs_067f4.2.2.2.2 σ [vL (wpF (al μ) c (k : Int))] μ kx → thr cd_X4_need ET (Run fam0 none cd_X4_need ER ET) 19 0 [some (vR 0 0), some (vI c), some (vL x), none, some (vI (k : Int)), none, none, none, none] μ kx
        refine ⟨μ, ⟨rfl, show True from True.intro⟩, fun ov μ' hq => ?_, fun k hk => hk.elim⟩
        obtain ⟨hov, hmu⟩ : ov = some (vL (absF (wpF (al μ) c (k : Int)))) ∧ μ' = μ := hq
        rw [hov, hmu]
        show Run fam0 none cd_X4_need ER ET 22 0 [some (vR 0 0), some (vI c), some (vL x), none, some (vI (k : Int)), none, none, none, none] [vL (absF (wpF (al μ) c (k : Int))), vL x] μ
        refine run_k 4 ?_
        show Run fam0 none cd_X4_need ER ET 5 0 [some (vR 0 0), some (vI c), some (vL (w64 (x + (absF (wpF (al μ) c (k : Int)))))), none, some (vI (w32 ((k : Int) + 1))), none, none, none, none] [] μ
        rw [show w32 ((k : Int) + 1) = (k : Int) + 1 from w32_id (by simp only [in32]; omega)]
        exact ih5 (k + 1) (w64 (x + (absF (wpF (al μ) c (k : Int))))) (by omega) (⟨by omega, by rw [hx2]; rfl⟩)
  exact lp5 _ 0 0 (Nat.lt_succ_self _) (⟨by omega, rfl⟩)
theorem vw_X4_243 : ∀ w ∈ ([.methodLink RX4 243 yJ9_abs_067f4, .static yJ9_abs_067f4, .initialized yJ9_abs_067f4.cls, .code yJ9_abs_067f4 cJ9_abs_067f4 2 (some .long)] : List Cond), w ∈ wm := wm_ps _ [391, 392, 62, 393] (by decide +kernel)
set_option maxRecDepth 20000 in
theorem con_X4_need (l : Launch) (htr : l.stackTraces = false) (σ : Mm) : CON fam0 63 l yX4_need (Cond.code yX4_need cX4_need 9 (some .long) :: wm) 1 22 0 (cl_X4_need.2.2.1 σ) (cl_X4_need.2.2.2.1 σ) (cl_X4_need.2.2.2.2 σ) :=
  con_of (cd := cd_X4_need) (own := RX4) (rk := 2) (sc_of htr (by decide) k_X4_need_ok (by decide +kernel) co_X4_ok fl_X4_ok (all_cons ⟨RX4, yX4_worth, cX4_worth, 3, (some .long), 0, 0, 2, con_X4_worth l htr, rfl, vw_X4_239, ⟨rfl, by decide, by decide, by decide +kernel⟩, ⟨by decide, by decide⟩, fun σ as μ h => ⟨0, 0, _, h.1, rfl, TX4, 17, rfl⟩⟩ all_nil) (all_cons ⟨yJ9_abs_067f4, cJ9_abs_067f4, 2, (some .long), 0, 0, con_J9_abs_067f4 l htr, vw_X4_243, ⟨by decide, by decide, by decide +kernel⟩, ⟨by decide, by decide⟩⟩ all_nil) all_nil) rfl (by decide +kernel) rfl rfl rfl rfl (fun as μ hs => by rw [hs.1]; exact Nat.le_of_ble_eq_true rfl)
    (fun as μ hs hM hrg => by
      have hs1 := hs.1
      have hmem : ∀ v, v ∈ ([vR 0 0, vI (iaI as 1)] : List AV) → rg fam0 v := by rw [← hs1]; exact hrg
      have key := run_X4_need (ER := cl_X4_need.2.2.2.1 σ as μ) (ET := fun k μ' => cl_X4_need.2.2.2.2 σ as μ k ∧ μ' = μ) σ μ (iaI as 1) hM (hmem (vI (iaI as 1)) (by simp)) hs.2 (fun ov μ' h => h)
      have e : entL as 9 = [some (vR 0 0), some (vI (iaI as 1)), none, none, none, none, none, none, none] := by rw [hs1]; rfl
      rw [e]; exact key)
/-! ### Primeborrow.called -/
def cl_X4_called : Cl := (2, 0, fun σ as μ => as = [vR 0 0, vI (iaI as 1)] ∧ ((0 ≤ (iaI as 1) ∧ (iaI as 1) ≤ 5)), fun σ as μ ov μ' => ov = some (vI (calledF (al μ) (iaI as 1))) ∧ μ' = μ, fun σ as μ k => False)
def cd_X4_called : Cd := mkcd k_X4_called co_X4 fl_X4 [(90, cl_X4_equity), (94, cl_X4_need)] [] [] [] 2 3 0
set_option maxHeartbeats 4000000 in
set_option maxRecDepth 20000 in
theorem run_X4_called {ER : Option AV → Mm → Prop} {ET : Nat → Mm → Prop} (σ μ : Mm) (c : Int) (hM : MR fam0 μ) (h_c : in32 c) (hP : (0 ≤ c ∧ c ≤ 5)) (hER : ∀ ov μ', (ov = some (vI (calledF (al μ) c)) ∧ μ' = μ) → ER ov μ') : Run fam0 none cd_X4_called ER ET 0 0 [some (vR 0 0), some (vI c)] [] μ := by
  refine run_k 3 ?_
  show ∃ σ : Mm, cl_X4_equity.2.2.1 σ [vR 0 0, vI c] μ ∧ (∀ ov μ', cl_X4_equity.2.2.2.1 σ [vR 0 0, vI c] μ ov μ' → Run fam0 none cd_X4_called ER ET 5 0 [some (vR 0 0), some (vI c)] (ov.toList ++ []) μ') ∧ ∀ kx, cl_X4_equity.2.2.2.2 σ [vR 0 0, vI c] μ kx → thr cd_X4_called ET (Run fam0 none cd_X4_called ER ET) 2 0 [some (vR 0 0), some (vI c)] μ kx
  refine ⟨μ, ⟨rfl, show (0 ≤ c ∧ c ≤ 5) from by omega⟩, fun ov μ' hq => ?_, fun k hk => hk.elim⟩
  obtain ⟨hov, hmu⟩ : ov = some (vL (equityF (al μ) c)) ∧ μ' = μ := hq
  rw [hov, hmu]
  show Run fam0 none cd_X4_called ER ET 5 0 [some (vR 0 0), some (vI c)] [vL (equityF (al μ) c)] μ
  refine run_k 3 ?_
  show ∃ σ : Mm, cl_X4_need.2.2.1 σ [vR 0 0, vI c] μ ∧ (∀ ov μ', cl_X4_need.2.2.2.1 σ [vR 0 0, vI c] μ ov μ' → Run fam0 none cd_X4_called ER ET 10 0 [some (vR 0 0), some (vI c)] (ov.toList ++ [vL (equityF (al μ) c)]) μ') ∧ ∀ kx, cl_X4_need.2.2.2.2 σ [vR 0 0, vI c] μ kx → thr cd_X4_called ET (Run fam0 none cd_X4_called ER ET) 7 0 [some (vR 0 0), some (vI c)] μ kx
  refine ⟨μ, ⟨rfl, show (0 ≤ c ∧ c ≤ 5) from by omega⟩, fun ov μ' hq => ?_, fun k hk => hk.elim⟩
  obtain ⟨hov, hmu⟩ : ov = some (vL (needF (al μ) c)) ∧ μ' = μ := hq
  rw [hov, hmu]
  show Run fam0 none cd_X4_called ER ET 10 0 [some (vR 0 0), some (vI c)] [vL (needF (al μ) c), vL (equityF (al μ) c)] μ
  refine run_k 2 ?_
  show (0 ≤ (cmpL (equityF (al μ) c) (needF (al μ) c)) → Run fam0 none cd_X4_called ER ET 18 0 [some (vR 0 0), some (vI c)] [] μ) ∧ ((cmpL (equityF (al μ) c) (needF (al μ) c)) < 0 → Run fam0 none cd_X4_called ER ET 14 0 [some (vR 0 0), some (vI c)] [] μ)
  refine ⟨fun c3 => ?_, fun c3 => ?_⟩
  · replace c3 := (show ¬ _ from fun q => (Int.not_lt.mpr c3) (cmpL_n.mpr q))
    refine run_k 2 ?_
    show (0 = 0 ∨ 0 = 1) ∧ ER (some (vI 0)) μ
    refine ⟨by omega, ?_⟩
    exact hER _ _ ⟨by unfold calledF; first | rw [bi_t (by assumption)] | rw [bi_f (by assumption)], rfl⟩
  · replace c3 := cmpL_n.mp c3
    refine run_k 3 ?_
    show (1 = 0 ∨ 1 = 1) ∧ ER (some (vI 1)) μ
    refine ⟨by omega, ?_⟩
    exact hER _ _ ⟨by unfold calledF; first | rw [bi_t (by assumption)] | rw [bi_f (by assumption)], rfl⟩
theorem vw_X4_94 : ∀ w ∈ ([.methodLink RX4 94 yX4_need, .instanceMethod yX4_need, .selects RX4 yX4_need yX4_need, .initialized RX4, .code yX4_need cX4_need 9 (some .long)] : List Cond), w ∈ wm := wm_ps _ [387, 389, 3, 50, 390] (by decide +kernel)
theorem vw_X4_90 : ∀ w ∈ ([.methodLink RX4 90 yX4_equity, .instanceMethod yX4_equity, .selects RX4 yX4_equity yX4_equity, .initialized RX4, .code yX4_equity cX4_equity 5 (some .long)] : List Cond), w ∈ wm := wm_ps _ [379, 381, 1, 50, 382] (by decide +kernel)
set_option maxRecDepth 20000 in
theorem con_X4_called (l : Launch) (htr : l.stackTraces = false) (σ : Mm) : CON fam0 63 l yX4_called (Cond.code yX4_called cX4_called 2 (some .boolean) :: wm) 2 50 0 (cl_X4_called.2.2.1 σ) (cl_X4_called.2.2.2.1 σ) (cl_X4_called.2.2.2.2 σ) :=
  con_of (cd := cd_X4_called) (own := RX4) (rk := 3) (sc_of htr (by decide) k_X4_called_ok (by decide +kernel) co_X4_ok fl_X4_ok (all_cons ⟨RX4, yX4_equity, cX4_equity, 5, (some .long), 1, 22, 1, con_X4_equity l htr, rfl, vw_X4_90, ⟨rfl, by decide, by decide, by decide +kernel⟩, ⟨by decide, by decide⟩, fun σ as μ h => ⟨0, 0, _, h.1, rfl, TX4, 17, rfl⟩⟩ (all_cons ⟨RX4, yX4_need, cX4_need, 9, (some .long), 1, 22, 1, con_X4_need l htr, rfl, vw_X4_94, ⟨rfl, by decide, by decide, by decide +kernel⟩, ⟨by decide, by decide⟩, fun σ as μ h => ⟨0, 0, _, h.1, rfl, TX4, 17, rfl⟩⟩ all_nil)) all_nil all_nil) rfl (by decide +kernel) rfl rfl rfl rfl (fun as μ hs => by rw [hs.1]; exact Nat.le_of_ble_eq_true rfl)
    (fun as μ hs hM hrg => by
      have hs1 := hs.1
      have hmem : ∀ v, v ∈ ([vR 0 0, vI (iaI as 1)] : List AV) → rg fam0 v := by rw [← hs1]; exact hrg
      have key := run_X4_called (ER := cl_X4_called.2.2.2.1 σ as μ) (ET := fun k μ' => cl_X4_called.2.2.2.2 σ as μ k ∧ μ' = μ) σ μ (iaI as 1) hM (hmem (vI (iaI as 1)) (by simp)) hs.2 (fun ov μ' h => h)
      have e : entL as 2 = [some (vR 0 0), some (vI (iaI as 1))] := by rw [hs1]; rfl
      rw [e]; exact key)
def grS (m : Mm) (c : Int) : Nat → Int × Int
  | 0 => (-1, 0)
  | k + 1 => if (grS m c k).2 < worthF m c k then ((k : Int), worthF m c k) else grS m c k
def grF (m : Mm) (c : Int) : Int := if 0 < worthF m c (btL m c 3) then btL m c 3 else -1
theorem grS_is (m : Mm) (c : Int) : ∀ k : Nat, ((grS m c (k + 1)).1 = -1 ∧ (grS m c (k + 1)).2 = 0 ∧ ∀ i : Nat, i ≤ k → worthF m c i ≤ 0) ∨ ((grS m c (k + 1)).1 = btL m c k ∧ (grS m c (k + 1)).2 = worthF m c (btL m c k) ∧ 0 < worthF m c (btL m c k))
  | 0 => by
    show (((if (0 : Int) < worthF m c (0 : Nat) then (((0 : Nat) : Int), worthF m c (0 : Nat)) else ((-1 : Int), (0 : Int))).1 = -1 ∧ _) ∨ _)
    have e : grS m c 1 = (if (0 : Int) < worthF m c (0 : Nat) then (((0 : Nat) : Int), worthF m c (0 : Nat)) else ((-1 : Int), (0 : Int))) := rfl
    rw [e]
    by_cases h : (0 : Int) < worthF m c (0 : Nat)
    · rw [if_pos h]; exact Or.inr ⟨rfl, rfl, h⟩
    · rw [if_neg h]; exact Or.inl ⟨rfl, rfl, fun i hi => by rw [show i = 0 by omega]; omega⟩
  | k + 1 => by
    have ih := grS_is m c k
    have e : grS m c (k + 1 + 1) = if (grS m c (k + 1)).2 < worthF m c ((k + 1 : Nat) : Int) then (((k + 1 : Nat) : Int), worthF m c ((k + 1 : Nat) : Int)) else grS m c (k + 1) := rfl
    have e2 : btL m c (k + 1) = if worthF m c (btL m c k) < worthF m c ((k : Int) + 1) then (k : Int) + 1 else btL m c k := rfl
    have hr := btL_rng m c k
    have ec : ((k + 1 : Nat) : Int) = (k : Int) + 1 := by omega
    rw [ec] at e
    rw [e, e2]
    rcases ih with ⟨h1, h2, h3⟩ | ⟨h1, h2, h3⟩
    · have hb : worthF m c (btL m c k) ≤ 0 := by
        have := h3 (btL m c k).toNat (by omega)
        rw [show (((btL m c k).toNat : Nat) : Int) = btL m c k by omega] at this
        exact this
      rw [h2]
      by_cases h : 0 < worthF m c ((k : Int) + 1)
      · rw [if_pos h, if_pos (by omega)]; exact Or.inr ⟨rfl, rfl, h⟩
      · rw [if_neg h]
        refine Or.inl ⟨h1, h2, fun i hi => ?_⟩
        by_cases q : i = k + 1
        · rw [q, ec]; omega
        · exact h3 i (by omega)
    · rw [h2]
      by_cases h : worthF m c (btL m c k) < worthF m c ((k : Int) + 1)
      · rw [if_pos h, if_pos h]; exact Or.inr ⟨rfl, rfl, by omega⟩
      · rw [if_neg h, if_neg h]; exact Or.inr ⟨h1, h2, h3⟩
theorem gr_is (m : Mm) (c : Int) : (grS m c 4).1 = grF m c := by
  have hr := btL_rng m c 3
  unfold grF
  rcases grS_is m c 3 with ⟨h1, h2, h3⟩ | ⟨h1, h2, h3⟩
  · have := h3 (btL m c 3).toNat (by omega)
    rw [show (((btL m c 3).toNat : Nat) : Int) = btL m c 3 by omega] at this
    rw [if_neg (by omega)]; exact h1
  · rw [if_pos h3]; exact h1
/-! ### Primeborrow.greatest -/
def cl_X4_greatest : Cl := (2, 0, fun σ as μ => as = [vR 0 0, vI (iaI as 1)] ∧ ((0 ≤ (iaI as 1) ∧ (iaI as 1) ≤ 5)), fun σ as μ ov μ' => ov = some (vI (grF (al μ) (iaI as 1))) ∧ μ' = μ, fun σ as μ k => False)
def cd_X4_greatest : Cd := mkcd k_X4_greatest co_X4 fl_X4 [(239, cl_X4_worth)] [(243, cl_J9_abs_067f4)] [] [] 8 1 0
set_option maxHeartbeats 4000000 in
set_option maxRecDepth 20000 in
theorem run_X4_greatest {ER : Option AV → Mm → Prop} {ET : Nat → Mm → Prop} (σ μ : Mm) (c : Int) (hM : MR fam0 μ) (h_c : in32 c) (hP : (0 ≤ c ∧ c ≤ 5)) (hER : ∀ ov μ', (ov = some (vI (grF (al μ) c)) ∧ μ' = μ) → ER ov μ') : Run fam0 none cd_X4_greatest ER ET 0 0 [some (vR 0 0), some (vI c), none, none, none, none, none, none] [] μ := by
  refine run_k 6 ?_
  show Run fam0 none cd_X4_greatest ER ET 7 0 [some (vR 0 0), some (vI c), some (vI (-1)), some (vL 0), none, some (vI 0), none, none] [] μ
  have lp7 : ∀ (fz : Nat) (k : Nat) (x y : Int), (4 - (k : Int)).toNat < fz → ((k : Int) ≤ 4 ∧ (x, y) = grS (al μ) c k) → Run fam0 none cd_X4_greatest ER ET 7 0 [some (vR 0 0), some (vI c), some (vI x), some (vL y), none, some (vI (k : Int)), none, none] [] μ := by
    intro fz
    induction fz with
    | zero => intro k x y hf; omega
    | succ fz ih7 =>
      intro k x y hf hI
      obtain ⟨hk1, hx2⟩ := hI
      refine run_k 3 ?_
      show (4 ≤ (k : Int) → Run fam0 none cd_X4_greatest ER ET 44 0 [some (vR 0 0), some (vI c), some (vI x), some (vL y), none, some (vI (k : Int)), none, none] [] μ) ∧ ((k : Int) < 4 → Run fam0 none cd_X4_greatest ER ET 13 0 [some (vR 0 0), some (vI c), some (vI x), some (vL y), none, some (vI (k : Int)), none, none] [] μ)
      refine ⟨fun c2 => ?_, fun c2 => ?_⟩
      · refine run_k 2 ?_
        show ER (some (vI x)) μ
        exact hER _ _ ⟨by rw [← gr_is, show 4 = k by omega, ← hx2], rfl⟩
      · refine run_k 4 ?_
        show ∃ σ : Mm, cl_X4_worth.2.2.1 σ [vR 0 0, vI c, vI (k : Int)] μ ∧ (∀ ov μ', cl_X4_worth.2.2.2.1 σ [vR 0 0, vI c, vI (k : Int)] μ ov μ' → Run fam0 none cd_X4_greatest ER ET 20 0 [some (vR 0 0), some (vI c), some (vI x), some (vL y), none, some (vI (k : Int)), none, none] (ov.toList ++ []) μ') ∧ ∀ kx, cl_X4_worth.2.2.2.2 σ [vR 0 0, vI c, vI (k : Int)] μ kx → thr cd_X4_greatest ET (Run fam0 none cd_X4_greatest ER ET) 17 0 [some (vR 0 0), some (vI c), some (vI x), some (vL y), none, some (vI (k : Int)), none, none] μ kx
        refine ⟨μ, ⟨rfl, show (0 ≤ c ∧ c ≤ 5) ∧ (0 ≤ ((k : Int)) ∧ ((k : Int)) ≤ 3) from ⟨by omega, by omega⟩⟩, fun ov μ' hq => ?_, fun k hk => hk.elim⟩
        obtain ⟨hov, hmu⟩ : ov = some (vL (wpF (al μ) c (k : Int))) ∧ μ' = μ := hq
        rw [hov, hmu]
        show Run fam0 none cd_X4_greatest ER ET 20 0 [some (vR 0 0), some (vI c), some (vI x), some (vL y), none, some (vI (k : Int)), none, none] [vL (wpF (al μ) c (k : Int))] μ
        refine run_k 1 ?_
        show ∃ σ : Mm, cl_J9_abs_067f4.2.2.1 σ [vL (wpF (al μ) c (k : Int))] μ ∧ (∀ ov μ', cl_J9_abs_067f4.2.2.2.1 σ [vL (wpF (al μ) c (k : Int))] μ ov μ' → Run fam0 none cd_X4_greatest ER ET 23 0 [some (vR 0 0), some (vI c), some (vI x), some (vL y), none, some (vI (k : Int)), none, none] (ov.toList ++ []) μ') ∧ ∀ kx, cl_J9_abs_067f4.2.2.2.2 σ [vL (wpF (al μ) c (k : Int))] μ kx → thr cd_X4_greatest ET (Run fam0 none cd_X4_greatest ER ET) 20 0 [some (vR 0 0), some (vI c), some (vI x), some (vL y), none, some (vI (k : Int)), none, none] μ kx
        refine ⟨μ, ⟨rfl, show True from True.intro⟩, fun ov μ' hq => ?_, fun k hk => hk.elim⟩
        obtain ⟨hov, hmu⟩ : ov = some (vL (absF (wpF (al μ) c (k : Int)))) ∧ μ' = μ := hq
        rw [hov, hmu]
        show Run fam0 none cd_X4_greatest ER ET 23 0 [some (vR 0 0), some (vI c), some (vI x), some (vL y), none, some (vI (k : Int)), none, none] [vL (absF (wpF (al μ) c (k : Int)))] μ
        refine run_k 5 ?_
        show ((cmpL (absF (wpF (al μ) c (k : Int))) y) ≤ 0 → Run fam0 none cd_X4_greatest ER ET 38 0 [some (vR 0 0), some (vI c), some (vI x), some (vL y), none, some (vI (k : Int)), some (vL (absF (wpF (al μ) c (k : Int)))), none] [] μ) ∧ (0 < (cmpL (absF (wpF (al μ) c (k : Int))) y) → Run fam0 none cd_X4_greatest ER ET 32 0 [some (vR 0 0), some (vI c), some (vI x), some (vL y), none, some (vI (k : Int)), some (vL (absF (wpF (al μ) c (k : Int)))), none] [] μ)
        refine ⟨fun c6 => ?_, fun c6 => ?_⟩
        · replace c6 := (show ¬ _ from fun q => (Int.not_lt.mpr c6) (cmpL_p.mpr q))
          refine run_k 2 ?_
          show Run fam0 none cd_X4_greatest ER ET 7 0 [some (vR 0 0), some (vI c), some (vI x), some (vL y), none, some (vI (w32 ((k : Int) + 1))), some (vL (absF (wpF (al μ) c (k : Int)))), none] [] μ
          rw [show w32 ((k : Int) + 1) = (k : Int) + 1 from w32_id (by simp only [in32]; omega)]
          refine run_w (L' := [some (vR 0 0), some (vI c), some (vI x), some (vL y), none, some (vI ((k : Int) + 1)), none, none]) ⟨rfl, rfl, rfl, rfl, rfl, True.intro⟩ ?_
          exact ih7 (k + 1) x y (by omega) (⟨by omega, by rw [grS, ← hx2]; first | (rw [if_pos (by assumption)]; rfl) | (rw [if_neg (by assumption)])⟩)
        · replace c6 := cmpL_p.mp c6
          refine run_k 6 ?_
          show Run fam0 none cd_X4_greatest ER ET 7 0 [some (vR 0 0), some (vI c), some (vI (k : Int)), some (vL (absF (wpF (al μ) c (k : Int)))), none, some (vI (w32 ((k : Int) + 1))), some (vL (absF (wpF (al μ) c (k : Int)))), none] [] μ
          rw [show w32 ((k : Int) + 1) = (k : Int) + 1 from w32_id (by simp only [in32]; omega)]
          refine run_w (L' := [some (vR 0 0), some (vI c), some (vI (k : Int)), some (vL (absF (wpF (al μ) c (k : Int)))), none, some (vI ((k : Int) + 1)), none, none]) ⟨rfl, rfl, rfl, rfl, rfl, True.intro⟩ ?_
          exact ih7 (k + 1) (k : Int) (absF (wpF (al μ) c (k : Int))) (by omega) (⟨by omega, by rw [grS, ← hx2]; first | (rw [if_pos (by assumption)]; rfl) | (rw [if_neg (by assumption)])⟩)
  exact lp7 _ 0 (-1) 0 (Nat.lt_succ_self _) (⟨by omega, rfl⟩)
set_option maxRecDepth 20000 in
theorem con_X4_greatest (l : Launch) (htr : l.stackTraces = false) (σ : Mm) : CON fam0 63 l yX4_greatest (Cond.code yX4_greatest cX4_greatest 8 (some .int) :: wm) 1 22 0 (cl_X4_greatest.2.2.1 σ) (cl_X4_greatest.2.2.2.1 σ) (cl_X4_greatest.2.2.2.2 σ) :=
  con_of (cd := cd_X4_greatest) (own := RX4) (rk := 1) (sc_of htr (by decide) k_X4_greatest_ok (by decide +kernel) co_X4_ok fl_X4_ok (all_cons ⟨RX4, yX4_worth, cX4_worth, 3, (some .long), 0, 0, 2, con_X4_worth l htr, rfl, vw_X4_239, ⟨rfl, by decide, by decide, by decide +kernel⟩, ⟨by decide, by decide⟩, fun σ as μ h => ⟨0, 0, _, h.1, rfl, TX4, 17, rfl⟩⟩ all_nil) (all_cons ⟨yJ9_abs_067f4, cJ9_abs_067f4, 2, (some .long), 0, 0, con_J9_abs_067f4 l htr, vw_X4_243, ⟨by decide, by decide, by decide +kernel⟩, ⟨by decide, by decide⟩⟩ all_nil) all_nil) rfl (by decide +kernel) rfl rfl rfl rfl (fun as μ hs => by rw [hs.1]; exact Nat.le_of_ble_eq_true rfl)
    (fun as μ hs hM hrg => by
      have hs1 := hs.1
      have hmem : ∀ v, v ∈ ([vR 0 0, vI (iaI as 1)] : List AV) → rg fam0 v := by rw [← hs1]; exact hrg
      have key := run_X4_greatest (ER := cl_X4_greatest.2.2.2.1 σ as μ) (ET := fun k μ' => cl_X4_greatest.2.2.2.2 σ as μ k ∧ μ' = μ) σ μ (iaI as 1) hM (hmem (vI (iaI as 1)) (by simp)) hs.2 (fun ov μ' h => h)
      have e : entL as 8 = [some (vR 0 0), some (vI (iaI as 1)), none, none, none, none, none, none] := by rw [hs1]; rfl
      rw [e]; exact key)
/-! ### Primeborrow.holds -/
def cl_X4_holds : Cl := (2, 0, fun σ as μ => as = [vR 0 0, vI (iaI as 1)] ∧ ((0 ≤ (iaI as 1) ∧ (iaI as 1) < μ 21 0 5) ∧ μ 21 0 5 ≤ 60), fun σ as μ ov μ' => ov = some (vI (holdsF (al μ) (iaI as 1))) ∧ μ' = μ, fun σ as μ k => False)
def cd_X4_holds : Cd := mkcd k_X4_holds co_X4 fl_X4 [] [] [] [] 2 3 0
set_option maxHeartbeats 4000000 in
set_option maxRecDepth 20000 in
theorem run_X4_holds {ER : Option AV → Mm → Prop} {ET : Nat → Mm → Prop} (σ μ : Mm) (n : Int) (hM : MR fam0 μ) (h_n : in32 n) (hP : (0 ≤ n ∧ n < μ 21 0 5) ∧ μ 21 0 5 ≤ 60) (hER : ∀ ov μ', (ov = some (vI (holdsF (al μ) n)) ∧ μ' = μ) → ER ov μ') : Run fam0 none cd_X4_holds ER ET 0 0 [some (vR 0 0), some (vI n)] [] μ := by
  have e56 : al μ 56 0 n = μ 25 0 n - 1 := by
    show (if (0 : Int) = 0 then (if 0 ≤ n ∧ n < μ 21 0 5 then μ 25 0 n - 1 else 0) else 0) = _
    rw [if_pos rfl, if_pos hP.1]
  have e57 := al_r57 μ n
  have e1 := al_n1 μ
  refine run_k 8 ?_
  show (0 ≤ n ∧ n < 60) ∧ (((μ 25 0 n) < (μ 0 0 14) → Run fam0 none cd_X4_holds ER ET 32 0 [some (vR 0 0), some (vI n)] [] μ) ∧ ((μ 0 0 14) ≤ (μ 25 0 n) → Run fam0 none cd_X4_holds ER ET 16 0 [some (vR 0 0), some (vI n)] [] μ))
  refine ⟨by omega, ?_⟩
  refine ⟨fun c1 => ?_, fun c1 => ?_⟩
  · refine run_k 2 ?_
    show (0 = 0 ∨ 0 = 1) ∧ ER (some (vI 0)) μ
    refine ⟨by omega, ?_⟩
    exact hER _ _ ⟨by unfold holdsF; first | rw [bi_t (by omega)] | rw [bi_f (by omega)], rfl⟩
  · refine run_k 6 ?_
    show (0 ≤ n ∧ n < 60) ∧ (((μ 26 0 n) ≠ 0 → Run fam0 none cd_X4_holds ER ET 32 0 [some (vR 0 0), some (vI n)] [] μ) ∧ ((μ 26 0 n) = 0 → Run fam0 none cd_X4_holds ER ET 28 0 [some (vR 0 0), some (vI n)] [] μ))
    refine ⟨by omega, ?_⟩
    refine ⟨fun c3 => ?_, fun c3 => ?_⟩
    · refine run_k 2 ?_
      show (0 = 0 ∨ 0 = 1) ∧ ER (some (vI 0)) μ
      refine ⟨by omega, ?_⟩
      exact hER _ _ ⟨by unfold holdsF; first | rw [bi_t (by omega)] | rw [bi_f (by omega)], rfl⟩
    · refine run_k 3 ?_
      show (1 = 0 ∨ 1 = 1) ∧ ER (some (vI 1)) μ
      refine ⟨by omega, ?_⟩
      exact hER _ _ ⟨by unfold holdsF; first | rw [bi_t (by omega)] | rw [bi_f (by omega)], rfl⟩
set_option maxRecDepth 20000 in
theorem con_X4_holds (l : Launch) (htr : l.stackTraces = false) (σ : Mm) : CON fam0 63 l yX4_holds (Cond.code yX4_holds cX4_holds 2 (some .boolean) :: wm) 0 0 0 (cl_X4_holds.2.2.1 σ) (cl_X4_holds.2.2.2.1 σ) (cl_X4_holds.2.2.2.2 σ) :=
  con_of (cd := cd_X4_holds) (own := RX4) (rk := 3) (sc_of htr (by decide) k_X4_holds_ok (by decide +kernel) co_X4_ok fl_X4_ok all_nil all_nil all_nil) rfl (by decide +kernel) rfl rfl rfl rfl (fun as μ hs => by rw [hs.1]; exact Nat.le_of_ble_eq_true rfl)
    (fun as μ hs hM hrg => by
      have hs1 := hs.1
      have hmem : ∀ v, v ∈ ([vR 0 0, vI (iaI as 1)] : List AV) → rg fam0 v := by rw [← hs1]; exact hrg
      have key := run_X4_holds (ER := cl_X4_holds.2.2.2.1 σ as μ) (ET := fun k μ' => cl_X4_holds.2.2.2.2 σ as μ k ∧ μ' = μ) σ μ (iaI as 1) hM (hmem (vI (iaI as 1)) (by simp)) hs.2 (fun ov μ' h => h)
      have e : entL as 2 = [some (vR 0 0), some (vI (iaI as 1))] := by rw [hs1]; rfl
      rw [e]; exact key)
def shG (m : Mm) (s : Int) (c : Nat) : Int := if m 42 0 (4 * (c : Int) + s) < 0 then -m 42 0 (4 * (c : Int) + s) else 0
def shtF (m : Mm) (s : Int) : Int := sm (shG m s) 6
def lbF (m : Mm) (s : Int) : Int := sm (fun c => lentF m (c : Int) s) 6
def llF (m : Mm) (s : Int) : Int := sm (fun l => lentF m (10 + (l : Int)) s) 4
theorem lg_rng {m : Mm} (h : Pk m) {s : Int} (hs : 0 ≤ s ∧ s ≤ 3) {n : Nat} (hn : n ≤ 6) : 0 ≤ sm (lgG m s) n ∧ sm (lgG m s) n ≤ 500 * n := sm_le (fun k hk => by
  have := h (4 * (k : Int) + s) (by omega) (by omega)
  unfold lgG; split <;> omega)
theorem sh_rng {m : Mm} (h : Pk m) {s : Int} (hs : 0 ≤ s ∧ s ≤ 3) {n : Nat} (hn : n ≤ 6) : 0 ≤ sm (shG m s) n ∧ sm (shG m s) n ≤ 500 * n := sm_le (fun k hk => by
  have := h (4 * (k : Int) + s) (by omega) (by omega)
  unfold shG; split <;> omega)
theorem lb_rng {m : Mm} (h : Lk m) {s : Int} {n : Nat} : 0 ≤ sm (fun c => lentF m (c : Int) s) n ∧ sm (fun c => lentF m (c : Int) s) n ≤ 500000 * n := sm_le (fun k _ => lentF_rng h k s)
theorem ll_rng {m : Mm} (h : Lk m) {s : Int} {n : Nat} : 0 ≤ sm (fun l => lentF m (10 + (l : Int)) s) n ∧ sm (fun l => lentF m (10 + (l : Int)) s) n ≤ 500000 * n := sm_le (fun k _ => lentF_rng h _ s)
/-! ### Primeborrow.allLong -/
def cl_X4_allLong : Cl := (2, 0, fun σ as μ => as = [vR 0 0, vI (iaI as 1)] ∧ (KI μ ∧ (0 ≤ (iaI as 1) ∧ (iaI as 1) ≤ 3)), fun σ as μ ov μ' => ov = some (vI (longF (al μ) (iaI as 1))) ∧ μ' = μ, fun σ as μ k => False)
def cd_X4_allLong : Cd := mkcd k_X4_allLong co_X4 fl_X4 [] [(253, cl_J9_max_7cf53)] [] [] 4 1 0
set_option maxHeartbeats 4000000 in
set_option maxRecDepth 20000 in
theorem run_X4_allLong {ER : Option AV → Mm → Prop} {ET : Nat → Mm → Prop} (σ μ : Mm) (s : Int) (hM : MR fam0 μ) (h_s : in32 s) (hP : KI μ ∧ (0 ≤ s ∧ s ≤ 3)) (hER : ∀ ov μ', (ov = some (vI (longF (al μ) s)) ∧ μ' = μ) → ER ov μ') : Run fam0 none cd_X4_allLong ER ET 0 0 [some (vR 0 0), some (vI s), none, none] [] μ := by
  obtain ⟨hK, hs⟩ := hP
  refine run_k 4 ?_
  show Run fam0 none cd_X4_allLong ER ET 4 0 [some (vR 0 0), some (vI s), some (vI 0), some (vI 0)] [] μ
  have lp4 : ∀ (fz : Nat) (k : Nat) (x : Int), (6 - (k : Int)).toNat < fz → ((k : Int) ≤ 6 ∧ x = sm (lgG (al μ) s) k) → Run fam0 none cd_X4_allLong ER ET 4 0 [some (vR 0 0), some (vI s), some (vI x), some (vI (k : Int))] [] μ := by
    intro fz
    induction fz with
    | zero => intro k x hf; omega
    | succ fz ih4 =>
      intro k x hf hI
      obtain ⟨hk1, hx2⟩ := hI
      have hxr : (k : Int) < 6 → 0 ≤ x ∧ x ≤ 500000 * k := fun q => by
        have := lg_rng hK.1.2.1 hs (n := k) (by omega)
        rw [← hx2] at this
        omega
      have hkh : (k : Int) < 6 → _ := fun q => ki_held hK (c := (k : Int)) (s := s) (by omega) hs
      have hmx := maxI_le 0 (μ 7 (k : Int) s)
      refine run_k 3 ?_
      show (6 ≤ (k : Int) → Run fam0 none cd_X4_allLong ER ET 31 0 [some (vR 0 0), some (vI s), some (vI x), some (vI (k : Int))] [] μ) ∧ ((k : Int) < 6 → Run fam0 none cd_X4_allLong ER ET 10 0 [some (vR 0 0), some (vI s), some (vI x), some (vI (k : Int))] [] μ)
      refine ⟨fun c2 => ?_, fun c2 => ?_⟩
      · refine run_k 2 ?_
        show ER (some (vI x)) μ
        exact hER _ _ ⟨by rw [hx2, show k = 6 by omega]; rfl, rfl⟩
      · refine run_k 9 ?_
        show (0 ≤ (k : Int) ∧ (k : Int) < 6) ∧ ((0 ≤ s ∧ s < 4) ∧ (∃ σ : Mm, cl_J9_max_7cf53.2.2.1 σ [vI 0, vI (μ 7 (k : Int) s)] μ ∧ (∀ ov μ', cl_J9_max_7cf53.2.2.2.1 σ [vI 0, vI (μ 7 (k : Int) s)] μ ov μ' → Run fam0 none cd_X4_allLong ER ET 23 0 [some (vR 0 0), some (vI s), some (vI x), some (vI (k : Int))] (ov.toList ++ [vI x]) μ') ∧ ∀ kx, cl_J9_max_7cf53.2.2.2.2 σ [vI 0, vI (μ 7 (k : Int) s)] μ kx → thr cd_X4_allLong ET (Run fam0 none cd_X4_allLong ER ET) 20 0 [some (vR 0 0), some (vI s), some (vI x), some (vI (k : Int))] μ kx))
        refine ⟨by omega, ?_⟩
        refine ⟨by omega, ?_⟩
        refine ⟨μ, ⟨rfl, show True from True.intro⟩, fun ov μ' hq => ?_, fun k hk => hk.elim⟩
        obtain ⟨hov, hmu⟩ : ov = some (vI (maxI 0 (μ 7 (k : Int) s))) ∧ μ' = μ := hq
        rw [hov, hmu]
        show Run fam0 none cd_X4_allLong ER ET 23 0 [some (vR 0 0), some (vI s), some (vI x), some (vI (k : Int))] [vI (maxI 0 (μ 7 (k : Int) s)), vI x] μ
        refine run_k 4 ?_
        show Run fam0 none cd_X4_allLong ER ET 4 0 [some (vR 0 0), some (vI s), some (vI (w32 (x + (maxI 0 (μ 7 (k : Int) s))))), some (vI (w32 ((k : Int) + 1)))] [] μ
        rw [show w32 (x + (maxI 0 (μ 7 (k : Int) s))) = x + (maxI 0 (μ 7 (k : Int) s)) from w32_id (by simp only [in32]; omega)]
        rw [show w32 ((k : Int) + 1) = (k : Int) + 1 from w32_id (by simp only [in32]; omega)]
        exact ih4 (k + 1) (x + (maxI 0 (μ 7 (k : Int) s))) (by omega) (⟨by omega, by rw [hx2]; show _ = sm (lgG (al μ) s) k + _; unfold lgG maxI; rw [al_42 hs]⟩)
  exact lp4 _ 0 0 (Nat.lt_succ_self _) (⟨by omega, rfl⟩)
theorem vw_X4_253 : ∀ w ∈ ([.methodLink RX4 253 yJ9_max_7cf53, .static yJ9_max_7cf53, .initialized yJ9_max_7cf53.cls, .code yJ9_max_7cf53 cJ9_max_7cf53 2 (some .int)] : List Cond), w ∈ wm := wm_ps _ [465, 466, 62, 467] (by decide +kernel)
set_option maxRecDepth 20000 in
theorem con_X4_allLong (l : Launch) (htr : l.stackTraces = false) (σ : Mm) : CON fam0 63 l yX4_allLong (Cond.code yX4_allLong cX4_allLong 4 (some .int) :: wm) 1 21 0 (cl_X4_allLong.2.2.1 σ) (cl_X4_allLong.2.2.2.1 σ) (cl_X4_allLong.2.2.2.2 σ) :=
  con_of (cd := cd_X4_allLong) (own := RX4) (rk := 1) (sc_of htr (by decide) k_X4_allLong_ok (by decide +kernel) co_X4_ok fl_X4_ok all_nil (all_cons ⟨yJ9_max_7cf53, cJ9_max_7cf53, 2, (some .int), 0, 0, con_J9_max_7cf53 l htr, vw_X4_253, ⟨by decide, by decide, by decide +kernel⟩, ⟨by decide, by decide⟩⟩ all_nil) all_nil) rfl (by decide +kernel) rfl rfl rfl rfl (fun as μ hs => by rw [hs.1]; exact Nat.le_of_ble_eq_true rfl)
    (fun as μ hs hM hrg => by
      have hs1 := hs.1
      have hmem : ∀ v, v ∈ ([vR 0 0, vI (iaI as 1)] : List AV) → rg fam0 v := by rw [← hs1]; exact hrg
      have key := run_X4_allLong (ER := cl_X4_allLong.2.2.2.1 σ as μ) (ET := fun k μ' => cl_X4_allLong.2.2.2.2 σ as μ k ∧ μ' = μ) σ μ (iaI as 1) hM (hmem (vI (iaI as 1)) (by simp)) hs.2 (fun ov μ' h => h)
      have e : entL as 4 = [some (vR 0 0), some (vI (iaI as 1)), none, none] := by rw [hs1]; rfl
      rw [e]; exact key)
/-! ### Primeborrow.allShort -/
def cl_X4_allShort : Cl := (2, 0, fun σ as μ => as = [vR 0 0, vI (iaI as 1)] ∧ (KI μ ∧ (0 ≤ (iaI as 1) ∧ (iaI as 1) ≤ 3)), fun σ as μ ov μ' => ov = some (vI (shtF (al μ) (iaI as 1))) ∧ μ' = μ, fun σ as μ k => False)
def cd_X4_allShort : Cd := mkcd k_X4_allShort co_X4 fl_X4 [] [(253, cl_J9_max_7cf53)] [] [] 4 1 0
set_option maxHeartbeats 4000000 in
set_option maxRecDepth 20000 in
theorem run_X4_allShort {ER : Option AV → Mm → Prop} {ET : Nat → Mm → Prop} (σ μ : Mm) (s : Int) (hM : MR fam0 μ) (h_s : in32 s) (hP : KI μ ∧ (0 ≤ s ∧ s ≤ 3)) (hER : ∀ ov μ', (ov = some (vI (shtF (al μ) s)) ∧ μ' = μ) → ER ov μ') : Run fam0 none cd_X4_allShort ER ET 0 0 [some (vR 0 0), some (vI s), none, none] [] μ := by
  obtain ⟨hK, hs⟩ := hP
  refine run_k 4 ?_
  show Run fam0 none cd_X4_allShort ER ET 4 0 [some (vR 0 0), some (vI s), some (vI 0), some (vI 0)] [] μ
  have lp4 : ∀ (fz : Nat) (k : Nat) (x : Int), (6 - (k : Int)).toNat < fz → ((k : Int) ≤ 6 ∧ x = sm (shG (al μ) s) k) → Run fam0 none cd_X4_allShort ER ET 4 0 [some (vR 0 0), some (vI s), some (vI x), some (vI (k : Int))] [] μ := by
    intro fz
    induction fz with
    | zero => intro k x hf; omega
    | succ fz ih4 =>
      intro k x hf hI
      obtain ⟨hk1, hx2⟩ := hI
      have hxr : (k : Int) < 6 → 0 ≤ x ∧ x ≤ 500000 * k := fun q => by
        have := sh_rng hK.1.2.1 hs (n := k) (by omega)
        rw [← hx2] at this
        omega
      have hkh : (k : Int) < 6 → _ := fun q => ki_held hK (c := (k : Int)) (s := s) (by omega) hs
      have hmx := maxI_le 0 (-μ 7 (k : Int) s)
      refine run_k 3 ?_
      show (6 ≤ (k : Int) → Run fam0 none cd_X4_allShort ER ET 32 0 [some (vR 0 0), some (vI s), some (vI x), some (vI (k : Int))] [] μ) ∧ ((k : Int) < 6 → Run fam0 none cd_X4_allShort ER ET 10 0 [some (vR 0 0), some (vI s), some (vI x), some (vI (k : Int))] [] μ)
      refine ⟨fun c2 => ?_, fun c2 => ?_⟩
      · refine run_k 2 ?_
        show ER (some (vI x)) μ
        exact hER _ _ ⟨by rw [hx2, show k = 6 by omega]; rfl, rfl⟩
      · refine run_k 10 ?_
        show (0 ≤ (k : Int) ∧ (k : Int) < 6) ∧ ((0 ≤ s ∧ s < 4) ∧ (∃ σ : Mm, cl_J9_max_7cf53.2.2.1 σ [vI 0, vI (w32 (-(μ 7 (k : Int) s)))] μ ∧ (∀ ov μ', cl_J9_max_7cf53.2.2.2.1 σ [vI 0, vI (w32 (-(μ 7 (k : Int) s)))] μ ov μ' → Run fam0 none cd_X4_allShort ER ET 24 0 [some (vR 0 0), some (vI s), some (vI x), some (vI (k : Int))] (ov.toList ++ [vI x]) μ') ∧ ∀ kx, cl_J9_max_7cf53.2.2.2.2 σ [vI 0, vI (w32 (-(μ 7 (k : Int) s)))] μ kx → thr cd_X4_allShort ET (Run fam0 none cd_X4_allShort ER ET) 21 0 [some (vR 0 0), some (vI s), some (vI x), some (vI (k : Int))] μ kx))
        rw [show w32 (-(μ 7 (k : Int) s)) = -(μ 7 (k : Int) s) from w32_id (by simp only [in32]; omega)]
        refine ⟨by omega, ?_⟩
        refine ⟨by omega, ?_⟩
        refine ⟨μ, ⟨rfl, show True from True.intro⟩, fun ov μ' hq => ?_, fun k hk => hk.elim⟩
        obtain ⟨hov, hmu⟩ : ov = some (vI (maxI 0 (-(μ 7 (k : Int) s)))) ∧ μ' = μ := hq
        rw [hov, hmu]
        show Run fam0 none cd_X4_allShort ER ET 24 0 [some (vR 0 0), some (vI s), some (vI x), some (vI (k : Int))] [vI (maxI 0 (-(μ 7 (k : Int) s))), vI x] μ
        refine run_k 4 ?_
        show Run fam0 none cd_X4_allShort ER ET 4 0 [some (vR 0 0), some (vI s), some (vI (w32 (x + (maxI 0 (-(μ 7 (k : Int) s)))))), some (vI (w32 ((k : Int) + 1)))] [] μ
        rw [show w32 (x + (maxI 0 (-(μ 7 (k : Int) s)))) = x + (maxI 0 (-(μ 7 (k : Int) s))) from w32_id (by simp only [in32]; omega)]
        rw [show w32 ((k : Int) + 1) = (k : Int) + 1 from w32_id (by simp only [in32]; omega)]
        exact ih4 (k + 1) (x + (maxI 0 (-(μ 7 (k : Int) s)))) (by omega) (⟨by omega, by rw [hx2]; show _ = sm (shG (al μ) s) k + _; unfold shG maxI; rw [al_42 hs]; split <;> split <;> omega⟩)
  exact lp4 _ 0 0 (Nat.lt_succ_self _) (⟨by omega, rfl⟩)
set_option maxRecDepth 20000 in
theorem con_X4_allShort (l : Launch) (htr : l.stackTraces = false) (σ : Mm) : CON fam0 63 l yX4_allShort (Cond.code yX4_allShort cX4_allShort 4 (some .int) :: wm) 1 21 0 (cl_X4_allShort.2.2.1 σ) (cl_X4_allShort.2.2.2.1 σ) (cl_X4_allShort.2.2.2.2 σ) :=
  con_of (cd := cd_X4_allShort) (own := RX4) (rk := 1) (sc_of htr (by decide) k_X4_allShort_ok (by decide +kernel) co_X4_ok fl_X4_ok all_nil (all_cons ⟨yJ9_max_7cf53, cJ9_max_7cf53, 2, (some .int), 0, 0, con_J9_max_7cf53 l htr, vw_X4_253, ⟨by decide, by decide, by decide +kernel⟩, ⟨by decide, by decide⟩⟩ all_nil) all_nil) rfl (by decide +kernel) rfl rfl rfl rfl (fun as μ hs => by rw [hs.1]; exact Nat.le_of_ble_eq_true rfl)
    (fun as μ hs hM hrg => by
      have hs1 := hs.1
      have hmem : ∀ v, v ∈ ([vR 0 0, vI (iaI as 1)] : List AV) → rg fam0 v := by rw [← hs1]; exact hrg
      have key := run_X4_allShort (ER := cl_X4_allShort.2.2.2.1 σ as μ) (ET := fun k μ' => cl_X4_allShort.2.2.2.2 σ as μ k ∧ μ' = μ) σ μ (iaI as 1) hM (hmem (vI (iaI as 1)) (by simp)) hs.2 (fun ov μ' h => h)
      have e : entL as 4 = [some (vR 0 0), some (vI (iaI as 1)), none, none] := by rw [hs1]; rfl
      rw [e]; exact key)
/-! ### Primeborrow.lentFromBox -/
def cl_X4_lentFromBox : Cl := (2, 0, fun σ as μ => as = [vR 0 0, vI (iaI as 1)] ∧ (KI μ ∧ (0 ≤ (iaI as 1) ∧ (iaI as 1) ≤ 3)), fun σ as μ ov μ' => ov = some (vI (lbF (al μ) (iaI as 1))) ∧ μ' = μ, fun σ as μ k => False)
def cd_X4_lentFromBox : Cd := mkcd k_X4_lentFromBox co_X4 fl_X4 [] [] [] [] 4 1 0
set_option maxHeartbeats 4000000 in
set_option maxRecDepth 20000 in
theorem run_X4_lentFromBox {ER : Option AV → Mm → Prop} {ET : Nat → Mm → Prop} (σ μ : Mm) (s : Int) (hM : MR fam0 μ) (h_s : in32 s) (hP : KI μ ∧ (0 ≤ s ∧ s ≤ 3)) (hER : ∀ ov μ', (ov = some (vI (lbF (al μ) s)) ∧ μ' = μ) → ER ov μ') : Run fam0 none cd_X4_lentFromBox ER ET 0 0 [some (vR 0 0), some (vI s), none, none] [] μ := by
  obtain ⟨hK, hs⟩ := hP
  refine run_k 4 ?_
  show Run fam0 none cd_X4_lentFromBox ER ET 4 0 [some (vR 0 0), some (vI s), some (vI 0), some (vI 0)] [] μ
  have lp4 : ∀ (fz : Nat) (k : Nat) (x : Int), (6 - (k : Int)).toNat < fz → ((k : Int) ≤ 6 ∧ x = sm (fun c => lentF (al μ) (c : Int) s) k) → Run fam0 none cd_X4_lentFromBox ER ET 4 0 [some (vR 0 0), some (vI s), some (vI x), some (vI (k : Int))] [] μ := by
    intro fz
    induction fz with
    | zero => intro k x hf; omega
    | succ fz ih4 =>
      intro k x hf hI
      obtain ⟨hk1, hx2⟩ := hI
      have hxr : (k : Int) < 6 → 0 ≤ x ∧ x ≤ 500000 * k := fun q => by
        have := lb_rng hK.1.1 (s := s) (n := k)
        rw [← hx2] at this
        omega
      have hkh : (k : Int) < 6 → _ := fun q => ki_held hK (c := (k : Int)) (s := s) (by omega) hs
      refine run_k 3 ?_
      show (6 ≤ (k : Int) → Run fam0 none cd_X4_lentFromBox ER ET 27 0 [some (vR 0 0), some (vI s), some (vI x), some (vI (k : Int))] [] μ) ∧ ((k : Int) < 6 → Run fam0 none cd_X4_lentFromBox ER ET 10 0 [some (vR 0 0), some (vI s), some (vI x), some (vI (k : Int))] [] μ)
      refine ⟨fun c2 => ?_, fun c2 => ?_⟩
      · refine run_k 2 ?_
        show ER (some (vI x)) μ
        exact hER _ _ ⟨by rw [hx2, show k = 6 by omega]; rfl, rfl⟩
      · refine run_k 11 ?_
        show (0 ≤ (k : Int) ∧ (k : Int) < 14) ∧ ((0 ≤ s ∧ s < 4) ∧ (Run fam0 none cd_X4_lentFromBox ER ET 4 0 [some (vR 0 0), some (vI s), some (vI (w32 (x + (μ 14 (k : Int) s)))), some (vI (w32 ((k : Int) + 1)))] [] μ))
        rw [show w32 (x + (μ 14 (k : Int) s)) = x + (μ 14 (k : Int) s) from w32_id (by simp only [in32]; omega)]
        rw [show w32 ((k : Int) + 1) = (k : Int) + 1 from w32_id (by simp only [in32]; omega)]
        refine ⟨by omega, ?_⟩
        refine ⟨by omega, ?_⟩
        exact ih4 (k + 1) (x + (μ 14 (k : Int) s)) (by omega) (⟨by omega, by rw [hx2]; show _ = sm (fun c => lentF (al μ) (c : Int) s) k + _; show _ = _ + lentF (al μ) k s; omega⟩)
  exact lp4 _ 0 0 (Nat.lt_succ_self _) (⟨by omega, rfl⟩)
set_option maxRecDepth 20000 in
theorem con_X4_lentFromBox (l : Launch) (htr : l.stackTraces = false) (σ : Mm) : CON fam0 63 l yX4_lentFromBox (Cond.code yX4_lentFromBox cX4_lentFromBox 4 (some .int) :: wm) 0 0 0 (cl_X4_lentFromBox.2.2.1 σ) (cl_X4_lentFromBox.2.2.2.1 σ) (cl_X4_lentFromBox.2.2.2.2 σ) :=
  con_of (cd := cd_X4_lentFromBox) (own := RX4) (rk := 1) (sc_of htr (by decide) k_X4_lentFromBox_ok (by decide +kernel) co_X4_ok fl_X4_ok all_nil all_nil all_nil) rfl (by decide +kernel) rfl rfl rfl rfl (fun as μ hs => by rw [hs.1]; exact Nat.le_of_ble_eq_true rfl)
    (fun as μ hs hM hrg => by
      have hs1 := hs.1
      have hmem : ∀ v, v ∈ ([vR 0 0, vI (iaI as 1)] : List AV) → rg fam0 v := by rw [← hs1]; exact hrg
      have key := run_X4_lentFromBox (ER := cl_X4_lentFromBox.2.2.2.1 σ as μ) (ET := fun k μ' => cl_X4_lentFromBox.2.2.2.2 σ as μ k ∧ μ' = μ) σ μ (iaI as 1) hM (hmem (vI (iaI as 1)) (by simp)) hs.2 (fun ov μ' h => h)
      have e : entL as 4 = [some (vR 0 0), some (vI (iaI as 1)), none, none] := by rw [hs1]; rfl
      rw [e]; exact key)
/-! ### Primeborrow.lentByLenders -/
def cl_X4_lentByLenders : Cl := (2, 0, fun σ as μ => as = [vR 0 0, vI (iaI as 1)] ∧ (KI μ ∧ (0 ≤ (iaI as 1) ∧ (iaI as 1) ≤ 3)), fun σ as μ ov μ' => ov = some (vI (llF (al μ) (iaI as 1))) ∧ μ' = μ, fun σ as μ k => False)
def cd_X4_lentByLenders : Cd := mkcd k_X4_lentByLenders co_X4 fl_X4 [] [] [] [] 4 1 0
set_option maxHeartbeats 4000000 in
set_option maxRecDepth 20000 in
theorem run_X4_lentByLenders {ER : Option AV → Mm → Prop} {ET : Nat → Mm → Prop} (σ μ : Mm) (s : Int) (hM : MR fam0 μ) (h_s : in32 s) (hP : KI μ ∧ (0 ≤ s ∧ s ≤ 3)) (hER : ∀ ov μ', (ov = some (vI (llF (al μ) s)) ∧ μ' = μ) → ER ov μ') : Run fam0 none cd_X4_lentByLenders ER ET 0 0 [some (vR 0 0), some (vI s), none, none] [] μ := by
  obtain ⟨hK, hs⟩ := hP
  refine run_k 4 ?_
  show Run fam0 none cd_X4_lentByLenders ER ET 4 0 [some (vR 0 0), some (vI s), some (vI 0), some (vI 0)] [] μ
  have lp4 : ∀ (fz : Nat) (k : Nat) (x : Int), (4 - (k : Int)).toNat < fz → ((k : Int) ≤ 4 ∧ x = sm (fun l => lentF (al μ) (10 + (l : Int)) s) k) → Run fam0 none cd_X4_lentByLenders ER ET 4 0 [some (vR 0 0), some (vI s), some (vI x), some (vI (k : Int))] [] μ := by
    intro fz
    induction fz with
    | zero => intro k x hf; omega
    | succ fz ih4 =>
      intro k x hf hI
      obtain ⟨hk1, hx2⟩ := hI
      have hxr : (k : Int) < 4 → 0 ≤ x ∧ x ≤ 500000 * k := fun q => by
        have := ll_rng hK.1.1 (s := s) (n := k)
        rw [← hx2] at this
        omega
      have hkl : (k : Int) < 4 → _ := fun q => ki_len hK (l := (k : Int)) (s := s) (by omega) hs
      refine run_k 3 ?_
      show (4 ≤ (k : Int) → Run fam0 none cd_X4_lentByLenders ER ET 29 0 [some (vR 0 0), some (vI s), some (vI x), some (vI (k : Int))] [] μ) ∧ ((k : Int) < 4 → Run fam0 none cd_X4_lentByLenders ER ET 9 0 [some (vR 0 0), some (vI s), some (vI x), some (vI (k : Int))] [] μ)
      refine ⟨fun c2 => ?_, fun c2 => ?_⟩
      · refine run_k 2 ?_
        show ER (some (vI x)) μ
        exact hER _ _ ⟨by rw [hx2, show k = 4 by omega]; rfl, rfl⟩
      · refine run_k 13 ?_
        show (0 ≤ (w32 (10 + (k : Int))) ∧ (w32 (10 + (k : Int))) < 14) ∧ ((0 ≤ s ∧ s < 4) ∧ (Run fam0 none cd_X4_lentByLenders ER ET 4 0 [some (vR 0 0), some (vI s), some (vI (w32 (x + (μ 14 (w32 (10 + (k : Int))) s)))), some (vI (w32 ((k : Int) + 1)))] [] μ))
        rw [show w32 (10 + (k : Int)) = 10 + (k : Int) from w32_id (by simp only [in32]; omega)]
        rw [show w32 (x + (μ 14 (10 + (k : Int)) s)) = x + (μ 14 (10 + (k : Int)) s) from w32_id (by simp only [in32]; omega)]
        rw [show w32 ((k : Int) + 1) = (k : Int) + 1 from w32_id (by simp only [in32]; omega)]
        refine ⟨by omega, ?_⟩
        refine ⟨by omega, ?_⟩
        exact ih4 (k + 1) (x + (μ 14 (10 + (k : Int)) s)) (by omega) (⟨by omega, by rw [hx2]; show _ = sm (fun l => lentF (al μ) (10 + (l : Int)) s) k + _; show _ = _ + lentF (al μ) (10 + k) s; omega⟩)
  exact lp4 _ 0 0 (Nat.lt_succ_self _) (⟨by omega, rfl⟩)
set_option maxRecDepth 20000 in
theorem con_X4_lentByLenders (l : Launch) (htr : l.stackTraces = false) (σ : Mm) : CON fam0 63 l yX4_lentByLenders (Cond.code yX4_lentByLenders cX4_lentByLenders 4 (some .int) :: wm) 0 0 0 (cl_X4_lentByLenders.2.2.1 σ) (cl_X4_lentByLenders.2.2.2.1 σ) (cl_X4_lentByLenders.2.2.2.2 σ) :=
  con_of (cd := cd_X4_lentByLenders) (own := RX4) (rk := 1) (sc_of htr (by decide) k_X4_lentByLenders_ok (by decide +kernel) co_X4_ok fl_X4_ok all_nil all_nil all_nil) rfl (by decide +kernel) rfl rfl rfl rfl (fun as μ hs => by rw [hs.1]; exact Nat.le_of_ble_eq_true rfl)
    (fun as μ hs hM hrg => by
      have hs1 := hs.1
      have hmem : ∀ v, v ∈ ([vR 0 0, vI (iaI as 1)] : List AV) → rg fam0 v := by rw [← hs1]; exact hrg
      have key := run_X4_lentByLenders (ER := cl_X4_lentByLenders.2.2.2.1 σ as μ) (ET := fun k μ' => cl_X4_lentByLenders.2.2.2.2 σ as μ k ∧ μ' = μ) σ μ (iaI as 1) hM (hmem (vI (iaI as 1)) (by simp)) hs.2 (fun ov μ' h => h)
      have e : entL as 4 = [some (vR 0 0), some (vI (iaI as 1)), none, none] := by rw [hs1]; rfl
      rw [e]; exact key)
