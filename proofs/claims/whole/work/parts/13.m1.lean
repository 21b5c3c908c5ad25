/-! ===== pure words: decoders of arguments, truth as a number, sums ===== -/
def iaI (as : List AV) (k : Nat) : Int := match as[k]? with
  | some (Sum.inl x) => x
  | _ => 0
def iaL (as : List AV) (k : Nat) : Int := match as[k]? with
  | some (Sum.inr (Sum.inl x)) => x
  | _ => 0
def bi (p : Prop) [Decidable p] : Int := if p then 1 else 0
theorem bi_t {p : Prop} [Decidable p] (h : p) : bi p = 1 := if_pos h
theorem bi_f {p : Prop} [Decidable p] (h : ¬ p) : bi p = 0 := if_neg h
theorem bi_e0 {p : Prop} [Decidable p] : bi p = 0 ↔ ¬ p := by unfold bi; split <;> simp [*]
theorem bi_n0 {p : Prop} [Decidable p] : bi p ≠ 0 ↔ p := by unfold bi; split <;> simp [*]
theorem bi_01 {p : Prop} [Decidable p] : bi p = 0 ∨ bi p = 1 := by unfold bi; split <;> simp
def sm (g : Nat → Int) : Nat → Int
  | 0 => 0
  | n + 1 => sm g n + g n
theorem sm_le {g : Nat → Int} {c : Int} : ∀ {n : Nat}, (∀ k, k < n → 0 ≤ g k ∧ g k ≤ c) → 0 ≤ sm g n ∧ sm g n ≤ c * n
  | 0, _ => by simp [sm]
  | n + 1, h => by
    have ih := sm_le (fun k hk => h k (Nat.lt_succ_of_lt hk))
    have h1 := h n (Nat.lt_succ_self n)
    have e : c * ((n + 1 : Nat) : Int) = c * n + c := by rw [Int.natCast_add, Int.mul_add]; simp
    simp only [sm]
    rw [e]
    omega
theorem st_o {μ : Mm} {f g : Nat} {r t i j v : Int} (h : g ≠ f) : st μ f r i v g t j = μ g t j := by
  unfold st
  rw [if_neg]
  exact fun q => h q.1
theorem st_s {μ : Mm} {f : Nat} {r i v : Int} : st μ f r i v f r i = v := by simp [st]
theorem st_i {μ : Mm} {f g : Nat} {r t i j v : Int} (h : j ≠ i) : st μ f r i v g t j = μ g t j := by
  unfold st
  rw [if_neg]
  exact fun q => h q.2.2
theorem st_r {μ : Mm} {f g : Nat} {r t i j v : Int} (h : t ≠ r) : st μ f r i v g t j = μ g t j := by
  unfold st
  rw [if_neg]
  exact fun q => h q.2.1

/-! ### PrimeborrowModel.in -/
def cl_X5_in : Cl := (3, 0, fun σ as μ => as = [vI (iaI as 0), vI (iaI as 1), vI (iaI as 2)] ∧ (True), fun σ as μ ov μ' => ov = some (vI (bi ((iaI as 1) ≤ (iaI as 0) ∧ (iaI as 0) ≤ (iaI as 2)))) ∧ μ' = μ, fun σ as μ k => False)
def cd_X5_in : Cd := mkcd k_X5_in co_X5 fl_X5 [] [] [] [] 3 3 0
set_option maxHeartbeats 4000000 in
set_option maxRecDepth 20000 in
theorem run_X5_in {ER : Option AV → Mm → Prop} {ET : Nat → Mm → Prop} (σ μ : Mm) (v lo hi : Int) (hM : MR fam0 μ) (h_v : in32 v) (h_lo : in32 lo) (h_hi : in32 hi) (hP : True) (hER : ∀ ov μ', (ov = some (vI (bi (lo ≤ v ∧ v ≤ hi))) ∧ μ' = μ) → ER ov μ') : Run fam0 none cd_X5_in ER ET 0 0 [some (vI v), some (vI lo), some (vI hi)] [] μ := by
  refine run_k 3 ?_
  show (v < lo → Run fam0 none cd_X5_in ER ET 14 0 [some (vI v), some (vI lo), some (vI hi)] [] μ) ∧ (lo ≤ v → Run fam0 none cd_X5_in ER ET 5 0 [some (vI v), some (vI lo), some (vI hi)] [] μ)
  refine ⟨fun c1 => ?_, fun c1 => ?_⟩
  · refine run_k 2 ?_
    show (0 = 0 ∨ 0 = 1) ∧ ER (some (vI 0)) μ
    refine ⟨by omega, ?_⟩
    exact hER _ _ ⟨by first | rw [bi_t (by omega)] | rw [bi_f (by omega)], rfl⟩
  · refine run_k 3 ?_
    show (hi < v → Run fam0 none cd_X5_in ER ET 14 0 [some (vI v), some (vI lo), some (vI hi)] [] μ) ∧ (v ≤ hi → Run fam0 none cd_X5_in ER ET 10 0 [some (vI v), some (vI lo), some (vI hi)] [] μ)
    refine ⟨fun c3 => ?_, fun c3 => ?_⟩
    · refine run_k 2 ?_
      show (0 = 0 ∨ 0 = 1) ∧ ER (some (vI 0)) μ
      refine ⟨by omega, ?_⟩
      exact hER _ _ ⟨by first | rw [bi_t (by omega)] | rw [bi_f (by omega)], rfl⟩
    · refine run_k 3 ?_
      show (1 = 0 ∨ 1 = 1) ∧ ER (some (vI 1)) μ
      refine ⟨by omega, ?_⟩
      exact hER _ _ ⟨by first | rw [bi_t (by omega)] | rw [bi_f (by omega)], rfl⟩
set_option maxRecDepth 20000 in
theorem con_X5_in (l : Launch) (htr : l.stackTraces = false) (σ : Mm) : CON fam0 63 l yX5_in (Cond.code yX5_in cX5_in 3 (some .boolean) :: wm) 0 0 0 (cl_X5_in.2.2.1 σ) (cl_X5_in.2.2.2.1 σ) (cl_X5_in.2.2.2.2 σ) :=
  con_of (cd := cd_X5_in) (own := RX5) (rk := 3) (sc_of htr (by decide) k_X5_in_ok (by decide +kernel) co_X5_ok fl_X5_ok all_nil all_nil all_nil) rfl (by decide +kernel) rfl rfl rfl rfl (fun as μ hs => by rw [hs.1]; exact Nat.le_of_ble_eq_true rfl)
    (fun as μ hs hM hrg => by
      have hs1 := hs.1
      have hmem : ∀ v, v ∈ ([vI (iaI as 0), vI (iaI as 1), vI (iaI as 2)] : List AV) → rg fam0 v := by rw [← hs1]; exact hrg
      have key := run_X5_in (ER := cl_X5_in.2.2.2.1 σ as μ) (ET := fun k μ' => cl_X5_in.2.2.2.2 σ as μ k ∧ μ' = μ) σ μ (iaI as 0) (iaI as 1) (iaI as 2) hM (hmem (vI (iaI as 0)) (by simp)) (hmem (vI (iaI as 1)) (by simp)) (hmem (vI (iaI as 2)) (by simp)) hs.2 (fun ov μ' h => h)
      have e : entL as 3 = [some (vI (iaI as 0)), some (vI (iaI as 1)), some (vI (iaI as 2))] := by rw [hs1]; rfl
      rw [e]; exact key)
/-! ### PrimeborrowModel.isStock -/
def cl_X5_isStock : Cl := (1, 0, fun σ as μ => as = [vI (iaI as 0)] ∧ (True), fun σ as μ ov μ' => ov = some (vI (bi (0 ≤ (iaI as 0) ∧ (iaI as 0) ≤ 3))) ∧ μ' = μ, fun σ as μ k => False)
def cd_X5_isStock : Cd := mkcd k_X5_isStock co_X5 fl_X5 [] [(85, cl_X5_in)] [] [] 1 3 0
set_option maxHeartbeats 4000000 in
set_option maxRecDepth 20000 in
theorem run_X5_isStock {ER : Option AV → Mm → Prop} {ET : Nat → Mm → Prop} (σ μ : Mm) (v : Int) (hM : MR fam0 μ) (h_v : in32 v) (hP : True) (hER : ∀ ov μ', (ov = some (vI (bi (0 ≤ v ∧ v ≤ 3))) ∧ μ' = μ) → ER ov μ') : Run fam0 none cd_X5_isStock ER ET 0 0 [some (vI v)] [] μ := by
  refine run_k 4 ?_
  show ∃ σ : Mm, cl_X5_in.2.2.1 σ [vI v, vI 0, vI 3] μ ∧ (∀ ov μ', cl_X5_in.2.2.2.1 σ [vI v, vI 0, vI 3] μ ov μ' → Run fam0 none cd_X5_isStock ER ET 6 0 [some (vI v)] (ov.toList ++ []) μ') ∧ ∀ k, cl_X5_in.2.2.2.2 σ [vI v, vI 0, vI 3] μ k → thr cd_X5_isStock ET (Run fam0 none cd_X5_isStock ER ET) 3 0 [some (vI v)] μ k
  refine ⟨μ, ⟨rfl, show True from True.intro⟩, fun ov μ' hq => ?_, fun k hk => hk.elim⟩
  obtain ⟨hov, hmu⟩ : ov = some (vI (bi (0 ≤ v ∧ v ≤ 3))) ∧ μ' = μ := hq
  rw [hov, hmu]
  show Run fam0 none cd_X5_isStock ER ET 6 0 [some (vI v)] [vI (bi (0 ≤ v ∧ v ≤ 3))] μ
  refine run_k 1 ?_
  show ((bi (0 ≤ v ∧ v ≤ 3)) = 0 ∨ (bi (0 ≤ v ∧ v ≤ 3)) = 1) ∧ ER (some (vI (bi (0 ≤ v ∧ v ≤ 3)))) μ
  refine ⟨bi_01, ?_⟩
  exact hER _ _ ⟨rfl, rfl⟩
theorem vw_X5_85 : ∀ w ∈ ([.methodLink RX5 85 yX5_in, .static yX5_in, .initialized yX5_in.cls, .code yX5_in cX5_in 3 (some .boolean)] : List Cond), w ∈ wm := wm_ps _ [802, 803, 55, 804] (by decide +kernel)
set_option maxRecDepth 20000 in
theorem con_X5_isStock (l : Launch) (htr : l.stackTraces = false) (σ : Mm) : CON fam0 63 l yX5_isStock (Cond.code yX5_isStock cX5_isStock 1 (some .boolean) :: wm) 1 22 0 (cl_X5_isStock.2.2.1 σ) (cl_X5_isStock.2.2.2.1 σ) (cl_X5_isStock.2.2.2.2 σ) :=
  con_of (cd := cd_X5_isStock) (own := RX5) (rk := 3) (sc_of htr (by decide) k_X5_isStock_ok (by decide +kernel) co_X5_ok fl_X5_ok all_nil (all_cons ⟨yX5_in, cX5_in, 3, (some .boolean), 0, 0, con_X5_in l htr, vw_X5_85, ⟨by decide, by decide, by decide +kernel⟩, ⟨by decide, by decide⟩⟩ all_nil) all_nil) rfl (by decide +kernel) rfl rfl rfl rfl (fun as μ hs => by rw [hs.1]; exact Nat.le_of_ble_eq_true rfl)
    (fun as μ hs hM hrg => by
      have hs1 := hs.1
      have hmem : ∀ v, v ∈ ([vI (iaI as 0)] : List AV) → rg fam0 v := by rw [← hs1]; exact hrg
      have key := run_X5_isStock (ER := cl_X5_isStock.2.2.2.1 σ as μ) (ET := fun k μ' => cl_X5_isStock.2.2.2.2 σ as μ k ∧ μ' = μ) σ μ (iaI as 0) hM (hmem (vI (iaI as 0)) (by simp)) hs.2 (fun ov μ' h => h)
      have e : entL as 1 = [some (vI (iaI as 0))] := by rw [hs1]; rfl
      rw [e]; exact key)
/-! ### PrimeborrowModel.isClient -/
def cl_X5_isClient : Cl := (1, 0, fun σ as μ => as = [vI (iaI as 0)] ∧ (True), fun σ as μ ov μ' => ov = some (vI (bi (0 ≤ (iaI as 0) ∧ (iaI as 0) ≤ 5))) ∧ μ' = μ, fun σ as μ k => False)
def cd_X5_isClient : Cd := mkcd k_X5_isClient co_X5 fl_X5 [] [(85, cl_X5_in)] [] [] 1 3 0
set_option maxHeartbeats 4000000 in
set_option maxRecDepth 20000 in
theorem run_X5_isClient {ER : Option AV → Mm → Prop} {ET : Nat → Mm → Prop} (σ μ : Mm) (v : Int) (hM : MR fam0 μ) (h_v : in32 v) (hP : True) (hER : ∀ ov μ', (ov = some (vI (bi (0 ≤ v ∧ v ≤ 5))) ∧ μ' = μ) → ER ov μ') : Run fam0 none cd_X5_isClient ER ET 0 0 [some (vI v)] [] μ := by
  refine run_k 4 ?_
  show ∃ σ : Mm, cl_X5_in.2.2.1 σ [vI v, vI 0, vI 5] μ ∧ (∀ ov μ', cl_X5_in.2.2.2.1 σ [vI v, vI 0, vI 5] μ ov μ' → Run fam0 none cd_X5_isClient ER ET 6 0 [some (vI v)] (ov.toList ++ []) μ') ∧ ∀ k, cl_X5_in.2.2.2.2 σ [vI v, vI 0, vI 5] μ k → thr cd_X5_isClient ET (Run fam0 none cd_X5_isClient ER ET) 3 0 [some (vI v)] μ k
  refine ⟨μ, ⟨rfl, show True from True.intro⟩, fun ov μ' hq => ?_, fun k hk => hk.elim⟩
  obtain ⟨hov, hmu⟩ : ov = some (vI (bi (0 ≤ v ∧ v ≤ 5))) ∧ μ' = μ := hq
  rw [hov, hmu]
  show Run fam0 none cd_X5_isClient ER ET 6 0 [some (vI v)] [vI (bi (0 ≤ v ∧ v ≤ 5))] μ
  refine run_k 1 ?_
  show ((bi (0 ≤ v ∧ v ≤ 5)) = 0 ∨ (bi (0 ≤ v ∧ v ≤ 5)) = 1) ∧ ER (some (vI (bi (0 ≤ v ∧ v ≤ 5)))) μ
  refine ⟨bi_01, ?_⟩
  exact hER _ _ ⟨rfl, rfl⟩
set_option maxRecDepth 20000 in
theorem con_X5_isClient (l : Launch) (htr : l.stackTraces = false) (σ : Mm) : CON fam0 63 l yX5_isClient (Cond.code yX5_isClient cX5_isClient 1 (some .boolean) :: wm) 1 22 0 (cl_X5_isClient.2.2.1 σ) (cl_X5_isClient.2.2.2.1 σ) (cl_X5_isClient.2.2.2.2 σ) :=
  con_of (cd := cd_X5_isClient) (own := RX5) (rk := 3) (sc_of htr (by decide) k_X5_isClient_ok (by decide +kernel) co_X5_ok fl_X5_ok all_nil (all_cons ⟨yX5_in, cX5_in, 3, (some .boolean), 0, 0, con_X5_in l htr, vw_X5_85, ⟨by decide, by decide, by decide +kernel⟩, ⟨by decide, by decide⟩⟩ all_nil) all_nil) rfl (by decide +kernel) rfl rfl rfl rfl (fun as μ hs => by rw [hs.1]; exact Nat.le_of_ble_eq_true rfl)
    (fun as μ hs hM hrg => by
      have hs1 := hs.1
      have hmem : ∀ v, v ∈ ([vI (iaI as 0)] : List AV) → rg fam0 v := by rw [← hs1]; exact hrg
      have key := run_X5_isClient (ER := cl_X5_isClient.2.2.2.1 σ as μ) (ET := fun k μ' => cl_X5_isClient.2.2.2.2 σ as μ k ∧ μ' = μ) σ μ (iaI as 0) hM (hmem (vI (iaI as 0)) (by simp)) hs.2 (fun ov μ' h => h)
      have e : entL as 1 = [some (vI (iaI as 0))] := by rw [hs1]; rfl
      rw [e]; exact key)
/-! ### PrimeborrowModel.isLender -/
def cl_X5_isLender : Cl := (1, 0, fun σ as μ => as = [vI (iaI as 0)] ∧ (True), fun σ as μ ov μ' => ov = some (vI (bi (0 ≤ (iaI as 0) ∧ (iaI as 0) ≤ 3))) ∧ μ' = μ, fun σ as μ k => False)
def cd_X5_isLender : Cd := mkcd k_X5_isLender co_X5 fl_X5 [] [(85, cl_X5_in)] [] [] 1 3 0
set_option maxHeartbeats 4000000 in
set_option maxRecDepth 20000 in
theorem run_X5_isLender {ER : Option AV → Mm → Prop} {ET : Nat → Mm → Prop} (σ μ : Mm) (v : Int) (hM : MR fam0 μ) (h_v : in32 v) (hP : True) (hER : ∀ ov μ', (ov = some (vI (bi (0 ≤ v ∧ v ≤ 3))) ∧ μ' = μ) → ER ov μ') : Run fam0 none cd_X5_isLender ER ET 0 0 [some (vI v)] [] μ := by
  refine run_k 4 ?_
  show ∃ σ : Mm, cl_X5_in.2.2.1 σ [vI v, vI 0, vI 3] μ ∧ (∀ ov μ', cl_X5_in.2.2.2.1 σ [vI v, vI 0, vI 3] μ ov μ' → Run fam0 none cd_X5_isLender ER ET 6 0 [some (vI v)] (ov.toList ++ []) μ') ∧ ∀ k, cl_X5_in.2.2.2.2 σ [vI v, vI 0, vI 3] μ k → thr cd_X5_isLender ET (Run fam0 none cd_X5_isLender ER ET) 3 0 [some (vI v)] μ k
  refine ⟨μ, ⟨rfl, show True from True.intro⟩, fun ov μ' hq => ?_, fun k hk => hk.elim⟩
  obtain ⟨hov, hmu⟩ : ov = some (vI (bi (0 ≤ v ∧ v ≤ 3))) ∧ μ' = μ := hq
  rw [hov, hmu]
  show Run fam0 none cd_X5_isLender ER ET 6 0 [some (vI v)] [vI (bi (0 ≤ v ∧ v ≤ 3))] μ
  refine run_k 1 ?_
  show ((bi (0 ≤ v ∧ v ≤ 3)) = 0 ∨ (bi (0 ≤ v ∧ v ≤ 3)) = 1) ∧ ER (some (vI (bi (0 ≤ v ∧ v ≤ 3)))) μ
  refine ⟨bi_01, ?_⟩
  exact hER _ _ ⟨rfl, rfl⟩
set_option maxRecDepth 20000 in
theorem con_X5_isLender (l : Launch) (htr : l.stackTraces = false) (σ : Mm) : CON fam0 63 l yX5_isLender (Cond.code yX5_isLender cX5_isLender 1 (some .boolean) :: wm) 1 22 0 (cl_X5_isLender.2.2.1 σ) (cl_X5_isLender.2.2.2.1 σ) (cl_X5_isLender.2.2.2.2 σ) :=
  con_of (cd := cd_X5_isLender) (own := RX5) (rk := 3) (sc_of htr (by decide) k_X5_isLender_ok (by decide +kernel) co_X5_ok fl_X5_ok all_nil (all_cons ⟨yX5_in, cX5_in, 3, (some .boolean), 0, 0, con_X5_in l htr, vw_X5_85, ⟨by decide, by decide, by decide +kernel⟩, ⟨by decide, by decide⟩⟩ all_nil) all_nil) rfl (by decide +kernel) rfl rfl rfl rfl (fun as μ hs => by rw [hs.1]; exact Nat.le_of_ble_eq_true rfl)
    (fun as μ hs hM hrg => by
      have hs1 := hs.1
      have hmem : ∀ v, v ∈ ([vI (iaI as 0)] : List AV) → rg fam0 v := by rw [← hs1]; exact hrg
      have key := run_X5_isLender (ER := cl_X5_isLender.2.2.2.1 σ as μ) (ET := fun k μ' => cl_X5_isLender.2.2.2.2 σ as μ k ∧ μ' = μ) σ μ (iaI as 0) hM (hmem (vI (iaI as 0)) (by simp)) hs.2 (fun ov μ' h => h)
      have e : entL as 1 = [some (vI (iaI as 0))] := by rw [hs1]; rfl
      rw [e]; exact key)
/-! ### PrimeborrowModel.refused -/
def cl_X5_refused : Cl := (2, 0, fun σ as μ => as = [vR 38 0, vI (iaI as 1)] ∧ (True), fun σ as μ ov μ' => ov = some (vI (bi ((iaI as 1) ≠ 0))) ∧ μ' = st μ 38 0 0 (iaI as 1), fun σ as μ k => False)
def cd_X5_refused : Cd := mkcd k_X5_refused co_X5 fl_X5 [] [] [] [] 2 3 0
set_option maxHeartbeats 4000000 in
set_option maxRecDepth 20000 in
theorem run_X5_refused {ER : Option AV → Mm → Prop} {ET : Nat → Mm → Prop} (σ μ : Mm) (w : Int) (hM : MR fam0 μ) (h_w : in32 w) (hP : True) (hER : ∀ ov μ', (ov = some (vI (bi (w ≠ 0))) ∧ μ' = st μ 38 0 0 w) → ER ov μ') : Run fam0 none cd_X5_refused ER ET 0 0 [some (vR 38 0), some (vI w)] [] μ := by
  refine run_k 5 ?_
  show (w = 0 → Run fam0 none cd_X5_refused ER ET 13 0 [some (vR 38 0), some (vI w)] [] (st μ 38 0 0 w)) ∧ (w ≠ 0 → Run fam0 none cd_X5_refused ER ET 9 0 [some (vR 38 0), some (vI w)] [] (st μ 38 0 0 w))
  refine ⟨fun c1 => ?_, fun c1 => ?_⟩
  · refine run_k 2 ?_
    show (0 = 0 ∨ 0 = 1) ∧ ER (some (vI 0)) (st μ 38 0 0 w)
    refine ⟨by omega, ?_⟩
    exact hER _ _ ⟨by first | rw [bi_t (by omega)] | rw [bi_f (by omega)], rfl⟩
  · refine run_k 3 ?_
    show (1 = 0 ∨ 1 = 1) ∧ ER (some (vI 1)) (st μ 38 0 0 w)
    refine ⟨by omega, ?_⟩
    exact hER _ _ ⟨by first | rw [bi_t (by omega)] | rw [bi_f (by omega)], rfl⟩
set_option maxRecDepth 20000 in
theorem con_X5_refused (l : Launch) (htr : l.stackTraces = false) (σ : Mm) : CON fam0 63 l yX5_refused (Cond.code yX5_refused cX5_refused 2 (some .boolean) :: wm) 0 0 0 (cl_X5_refused.2.2.1 σ) (cl_X5_refused.2.2.2.1 σ) (cl_X5_refused.2.2.2.2 σ) :=
  con_of (cd := cd_X5_refused) (own := RX5) (rk := 3) (sc_of htr (by decide) k_X5_refused_ok (by decide +kernel) co_X5_ok fl_X5_ok all_nil all_nil all_nil) rfl (by decide +kernel) rfl rfl rfl rfl (fun as μ hs => by rw [hs.1]; exact Nat.le_of_ble_eq_true rfl)
    (fun as μ hs hM hrg => by
      have hs1 := hs.1
      have hmem : ∀ v, v ∈ ([vR 38 0, vI (iaI as 1)] : List AV) → rg fam0 v := by rw [← hs1]; exact hrg
      have key := run_X5_refused (ER := cl_X5_refused.2.2.2.1 σ as μ) (ET := fun k μ' => cl_X5_refused.2.2.2.2 σ as μ k ∧ μ' = μ) σ μ (iaI as 1) hM (hmem (vI (iaI as 1)) (by simp)) hs.2 (fun ov μ' h => h)
      have e : entL as 2 = [some (vR 38 0), some (vI (iaI as 1))] := by rw [hs1]; rfl
      rw [e]; exact key)
