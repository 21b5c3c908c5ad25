/-! ===== the class: days -/
theorem VB_cg {m m' : Mm} (h : VB m) (h1 : m' 38 0 11 = m 38 0 11) (ho : ∀ (g : Nat) (j : Int), (g = 42 ∨ g = 45 ∨ g = 46 ∨ g = 48 ∨ g = 49 ∨ g = 50 ∨ g = 51 ∨ g = 52) → m' g 0 j = m g 0 j) : VB m' := by
  obtain ⟨hL, hP, h5, h6⟩ := h
  have q : ∀ (g : Nat), (g = 42 ∨ g = 45 ∨ g = 46 ∨ g = 48 ∨ g = 49 ∨ g = 50 ∨ g = 51 ∨ g = 52) → ∀ j, m' g 0 j = m g 0 j := fun g hg j => ho g j hg
  have ql := lentF_cg h1 (q 48 (by decide)) (q 49 (by decide)) (q 51 (by decide))
  refine ⟨Lk_cg hL h1 (q 48 (by decide)) (q 49 (by decide)) (q 50 (by decide)) (q 51 (by decide)) (q 52 (by decide)), fun i i0 i1 => ?_, fun d t d0 d1 t0 t1 => ?_, fun l t l0 l1 t0 t1 => ?_⟩
  · rw [q 42 (by decide)]; exact hP i i0 i1
  · rw [ql, q 42 (by decide)]; exact h5 d t d0 d1 t0 t1
  · rw [ql, q 45 (by decide), q 46 (by decide)]; exact h6 l t l0 l1 t0 t1
/-- books of the class where the loans, positions, hands stand as they were -/
theorem KI_cg {M M' : Mm} (h : KI M) (hV : VB (al M')) (h1 : al M' 38 0 11 = al M 38 0 11) (ho : ∀ (g : Nat) (j : Int), (g = 42 ∨ g = 44 ∨ g = 48 ∨ g = 49 ∨ g = 50 ∨ g = 51) → al M' g 0 j = al M g 0 j) (hr : ∀ (g : Nat) (r j : Int), g = 14 ∨ g = 35 ∨ g = 37 → M' g r j = M g r j) : KI M' := by
  obtain ⟨hV0, hC, hH, hF⟩ := h
  have q : ∀ (g : Nat), (g = 42 ∨ g = 44 ∨ g = 48 ∨ g = 49 ∨ g = 50 ∨ g = 51) → ∀ j, al M' g 0 j = al M g 0 j := fun g hg j => ho g j hg
  have ql := lentF_cg h1 (q 48 (by decide)) (q 49 (by decide)) (q 51 (by decide))
  have qf := ftF_cg h1 (q 48 (by decide)) (q 49 (by decide)) (q 50 (by decide)) (q 51 (by decide))
  have qc : ∀ s P, cnP M' s P 3000 = cnP M s P 3000 := fun s P => cnP_cg (fun i _ => ⟨hr 37 s i (by decide), hr 35 s i (by decide)⟩)
  refine ⟨hV, fun x s hx s0 s1 => by rw [hr 14 x s (by decide), ql]; exact hC x s hx s0 s1, fun s s0 s1 => ?_, fun c s c0 c1 s0 s1 z => ?_⟩
  · obtain ⟨g1, g2⟩ := hH s s0 s1
    refine ⟨by rw [qc, longF_cg (q 42 (by decide))]; exact g1, fun c c0 c1 => ⟨?_, fun b b0 b1 => by rw [qc, qf]; exact (g2 c c0 c1).2 b b0 b1⟩⟩
    rw [qc]
    unfold partF
    rw [q 42 (by decide), ql]
    exact (g2 c c0 c1).1
  · rw [q 44 (by decide)] at z
    rw [q 42 (by decide)]
    exact hF c s c0 c1 s0 s1 z
theorem chgF_n {m : Mm} (k : Nat) : chgF m k 38 0 11 = m 38 0 11 := chgF_u (by decide) (by decide) k
/-! ### Primeborrow.chargeFees -/
def cl_X4_chargeFees : Cl := (1, 0, fun σ as μ => as = [vR 0 0] ∧ (KI μ), fun σ as μ ov μ' => ov = none ∧ al μ' = chgF (al μ) (μ 15 0 5).toNat ∧ KI μ' ∧ (∀ (g : Nat) (r j : Int), g ≠ 3 → g ≠ 12 → μ' g r j = μ g r j), fun σ as μ k => False)
def cd_X4_chargeFees : Cd := mkcd k_X4_chargeFees co_X4 fl_X4 [] [] [] [] 4 0 0
set_option maxHeartbeats 4000000 in
set_option maxRecDepth 20000 in
theorem run_X4_chargeFees {ER : Option AV → Mm → Prop} {ET : Nat → Mm → Prop} (σ μ : Mm) (hM : MR fam0 μ)  (hP : KI μ) (hER : ∀ ov μ', (ov = none ∧ al μ' = chgF (al μ) (μ 15 0 5).toNat ∧ KI μ' ∧ (∀ (g : Nat) (r j : Int), g ≠ 3 → g ≠ 12 → μ' g r j = μ g r j)) → ER ov μ') : Run fam0 none cd_X4_chargeFees ER ET 0 0 [some (vR 0 0), none, none, none] [] μ := by
  have hl0 : 0 ≤ μ 15 0 5 ∧ μ 15 0 5 ≤ 1000 := hP.1.1.1
  refine run_k 2 ?_
  show Run fam0 none cd_X4_chargeFees ER ET 2 0 [some (vR 0 0), some (vI 0), none, none] [] μ
  have lp2 : ∀ (fz : Nat) (k : Nat) (M : Mm), (μ 15 0 5 - (k : Int)).toNat < fz → ((k : Int) ≤ μ 15 0 5 ∧ al M = chgF (al μ) k ∧ (∀ (g : Nat) (r j : Int), g ≠ 3 → g ≠ 12 → M g r j = μ g r j)) → Run fam0 none cd_X4_chargeFees ER ET 2 0 [some (vR 0 0), some (vI (k : Int)), none, none] [] M := by
    intro fz
    induction fz with
    | zero => intro k M hf; omega
    | succ fz ih2 =>
      intro k M hf hI
      obtain ⟨hk1, hM2, hfr⟩ := hI
      have hnM := hfr 15 0 5 (by decide) (by decide)
      refine run_k 5 ?_
      show ((M 15 0 5) ≤ (k : Int) → Run fam0 none cd_X4_chargeFees ER ET 114 0 [some (vR 0 0), some (vI (k : Int)), none, none] [] M) ∧ ((k : Int) < (M 15 0 5) → Run fam0 none cd_X4_chargeFees ER ET 13 0 [some (vR 0 0), some (vI (k : Int)), none, none] [] M)
      refine ⟨fun c2 => ?_, fun c2 => ?_⟩
      · refine run_k 1 ?_
        show ER none M
        have hM3 : al M = chgF (al μ) (μ 15 0 5).toNat := by rw [hM2, show k = (μ 15 0 5).toNat by omega]
        have hu : ∀ (g : Nat) (j : Int), g ≠ 41 → g ≠ 47 → al M g 0 j = al μ g 0 j := fun g j g1 g2 => by rw [hM3]; exact chgF_u g1 g2 _
        exact hER _ _ ⟨rfl, hM3, KI_cg hP (VB_cg hP.1 (hu 38 11 (by decide) (by decide)) (fun g j q => hu g j (by omega) (by omega))) (hu 38 11 (by decide) (by decide)) (fun g j q => hu g j (by omega) (by omega)) (fun g r j q => hfr g r j (by omega) (by omega)), hfr⟩
      · have hlk : (0 ≤ M 16 0 k ∧ M 16 0 k ≤ 3) ∧ ((0 ≤ M 17 0 k ∧ M 17 0 k ≤ 5) ∨ (10 ≤ M 17 0 k ∧ M 17 0 k ≤ 13)) ∧ (0 ≤ M 18 0 k ∧ M 18 0 k ≤ 5) ∧ (0 ≤ M 19 0 k ∧ M 19 0 k ≤ 500) ∧ (0 ≤ M 20 0 k ∧ M 20 0 k ≤ 10000) := by
          rw [hfr 16 0 k (by decide) (by decide), hfr 17 0 k (by decide) (by decide), hfr 18 0 k (by decide) (by decide), hfr 19 0 k (by decide) (by decide), hfr 20 0 k (by decide) (by decide)]
          exact Lk_at hP.1.1 (by omega) (show (k : Int) < μ 15 0 5 by omega)
        refine run_k 7 ?_
        show (0 ≤ (k : Int) ∧ (k : Int) < 1000) ∧ (((M 17 0 (k : Int)) < 10 → Run fam0 none cd_X4_chargeFees ER ET 108 0 [some (vR 0 0), some (vI (k : Int)), none, none] [] M) ∧ (10 ≤ (M 17 0 (k : Int)) → Run fam0 none cd_X4_chargeFees ER ET 27 0 [some (vR 0 0), some (vI (k : Int)), none, none] [] M))
        refine ⟨by omega, ?_⟩
        refine ⟨fun c4 => ?_, fun c4 => ?_⟩
        · refine run_k 2 ?_
          show Run fam0 none cd_X4_chargeFees ER ET 2 0 [some (vR 0 0), some (vI (w32 ((k : Int) + 1))), none, none] [] M
          rw [show w32 ((k : Int) + 1) = (k : Int) + 1 from w32_id (by simp only [in32]; omega)]
          exact ih2 (k + 1) M (by omega) (⟨by omega, by rw [chgF, ← hM2, if_neg (show ¬ 10 ≤ al M 49 0 k from by have := al_r49 M k; omega)], hfr⟩)
        · refine run_k 54 ?_
          show (0 ≤ (k : Int) ∧ (k : Int) < 1000) ∧ ((0 ≤ (k : Int) ∧ (k : Int) < 1000) ∧ ((0 ≤ (M 16 0 (k : Int)) ∧ (M 16 0 (k : Int)) < 4) ∧ ((0 ≤ (k : Int) ∧ (k : Int) < 1000) ∧ ((3600000 ≠ 0) ∧ ((0 ≤ (k : Int) ∧ (k : Int) < 1000) ∧ ((0 ≤ (M 18 0 (k : Int)) ∧ (M 18 0 (k : Int)) < 6) ∧ ((0 ≤ (M 18 0 (k : Int)) ∧ (M 18 0 (k : Int)) < 6) ∧ ((0 ≤ (k : Int) ∧ (k : Int) < 1000) ∧ ((0 ≤ (w32 ((M 17 0 (k : Int)) - 10)) ∧ (w32 ((M 17 0 (k : Int)) - 10)) < 4) ∧ ((0 ≤ (w32 ((M 17 0 (k : Int)) - 10)) ∧ (w32 ((M 17 0 (k : Int)) - 10)) < 4) ∧ (Run fam0 none cd_X4_chargeFees ER ET 2 0 [some (vR 0 0), some (vI (w32 ((k : Int) + 1))), some (vL (w64 ((w64 ((w64 ((M 19 0 (k : Int)) * (M 1 0 (M 16 0 (k : Int))))) * (M 20 0 (k : Int)))).tdiv 3600000))), none] [] (st (st M 3 0 (M 18 0 (k : Int)) (w64 ((M 3 0 (M 18 0 (k : Int))) - (w64 ((w64 ((w64 ((M 19 0 (k : Int)) * (M 1 0 (M 16 0 (k : Int))))) * (M 20 0 (k : Int)))).tdiv 3600000))))) 12 0 (w32 ((M 17 0 (k : Int)) - 10)) (w64 ((M 12 0 (w32 ((M 17 0 (k : Int)) - 10))) + (w64 ((w64 ((w64 ((M 19 0 (k : Int)) * (M 1 0 (M 16 0 (k : Int))))) * (M 20 0 (k : Int)))).tdiv 3600000))))))))))))))))
          rw [show w32 ((M 17 0 (k : Int)) - 10) = (M 17 0 (k : Int)) - 10 from w32_id (by simp only [in32]; omega)]
          rw [show w32 ((k : Int) + 1) = (k : Int) + 1 from w32_id (by simp only [in32]; omega)]
          refine ⟨by omega, ?_⟩
          refine ⟨by omega, ?_⟩
          refine ⟨by omega, ?_⟩
          refine ⟨by omega, ?_⟩
          refine ⟨by decide, ?_⟩
          refine ⟨by omega, ?_⟩
          refine ⟨by omega, ?_⟩
          refine ⟨by omega, ?_⟩
          refine ⟨by omega, ?_⟩
          refine ⟨by omega, ?_⟩
          refine ⟨by omega, ?_⟩
          refine run_w (L' := [some (vR 0 0), some (vI ((k : Int) + 1)), none, none]) ⟨rfl, rfl, True.intro⟩ ?_
          exact ih2 (k + 1) (st (st M 3 0 (M 18 0 (k : Int)) (w64 ((M 3 0 (M 18 0 (k : Int))) - (w64 ((w64 ((w64 ((M 19 0 (k : Int)) * (M 1 0 (M 16 0 (k : Int))))) * (M 20 0 (k : Int)))).tdiv 3600000))))) 12 0 ((M 17 0 (k : Int)) - 10) (w64 ((M 12 0 ((M 17 0 (k : Int)) - 10)) + (w64 ((w64 ((w64 ((M 19 0 (k : Int)) * (M 1 0 (M 16 0 (k : Int))))) * (M 20 0 (k : Int)))).tdiv 3600000))))) (by omega) (⟨by omega, by rw [chgF, ← hM2, if_pos (show 10 ≤ al M 49 0 k from by have := al_r49 M k; omega), al_s12, al_s3]; rfl, fun g r j g1 g2 => (st_o g2).trans ((st_o g1).trans (hfr g r j g1 g2))⟩)
  exact lp2 _ 0 μ (Nat.lt_succ_self _) (⟨by omega, rfl, fun _ _ _ _ _ => rfl⟩)
set_option maxRecDepth 20000 in
theorem con_X4_chargeFees (l : Launch) (htr : l.stackTraces = false) (σ : Mm) : CON fam0 63 l yX4_chargeFees (Cond.code yX4_chargeFees cX4_chargeFees 4 none :: wm) 0 0 0 (cl_X4_chargeFees.2.2.1 σ) (cl_X4_chargeFees.2.2.2.1 σ) (cl_X4_chargeFees.2.2.2.2 σ) :=
  con_of (cd := cd_X4_chargeFees) (own := RX4) (rk := 0) (sc_of htr (by decide) k_X4_chargeFees_ok (by decide +kernel) co_X4_ok fl_X4_ok all_nil all_nil all_nil) rfl (by decide +kernel) rfl rfl rfl rfl (fun as μ hs => by rw [hs.1]; exact Nat.le_of_ble_eq_true rfl)
    (fun as μ hs hM hrg => by
      have hs1 := hs.1
      have hmem : ∀ v, v ∈ ([vR 0 0] : List AV) → rg fam0 v := by rw [← hs1]; exact hrg
      have key := run_X4_chargeFees (ER := cl_X4_chargeFees.2.2.2.1 σ as μ) (ET := fun k μ' => cl_X4_chargeFees.2.2.2.2 σ as μ k ∧ μ' = μ) σ μ  hM  hs.2 (fun ov μ' h => h)
      have e : entL as 4 = [some (vR 0 0), none, none, none] := by rw [hs1]; rfl
      rw [e]; exact key)
/-! ### Primeborrow.meet -/
def cl_X4_meet : Cl := (4, 0, fun σ as μ => as = [vR 0 0, vI (iaI as 1), vI (iaI as 2), vI (iaI as 3)] ∧ (KI μ ∧ Wk (al μ) ∧ (0 ≤ (iaI as 1) ∧ (iaI as 1) ≤ 3) ∧ (0 ≤ (iaI as 2) ∧ (iaI as 2) ≤ 3) ∧ (1 ≤ (iaI as 3) ∧ (iaI as 3) ≤ 500)), fun σ as μ ov μ' => ov = none ∧ al μ' = callF (al μ) (10 + (iaI as 1)) (iaI as 2) (minI (iaI as 3) (lentF (al μ) (10 + (iaI as 1)) (iaI as 2))) ∧ KI μ' ∧ Fr μ μ', fun σ as μ k => False)
def cd_X4_meet : Cd := mkcd k_X4_meet co_X4 fl_X4 [(268, cl_X4_callBack)] [(258, cl_J9_min_7cf53)] [] [] 5 0 0
set_option maxHeartbeats 4000000 in
set_option maxRecDepth 20000 in
theorem run_X4_meet {ER : Option AV → Mm → Prop} {ET : Nat → Mm → Prop} (σ μ : Mm) (l s n : Int) (hM : MR fam0 μ) (h_l : in32 l) (h_s : in32 s) (h_n : in32 n) (hP : KI μ ∧ Wk (al μ) ∧ (0 ≤ l ∧ l ≤ 3) ∧ (0 ≤ s ∧ s ≤ 3) ∧ (1 ≤ n ∧ n ≤ 500)) (hER : ∀ ov μ', (ov = none ∧ al μ' = callF (al μ) (10 + l) s (minI n (lentF (al μ) (10 + l) s)) ∧ KI μ' ∧ Fr μ μ') → ER ov μ') : Run fam0 none cd_X4_meet ER ET 0 0 [some (vR 0 0), some (vI l), some (vI s), some (vI n), none] [] μ := by
  obtain ⟨hK, hW, hl, hs, hn⟩ := hP
  have hkl := ki_len hK hl hs
  have hmi := minI_le n (μ 14 (10 + l) s)
  have e14 : minI n (μ 14 (10 + l) s) = (minI n (lentF (al μ) (10 + l) s)) := by rw [hkl.2.2.1]
  have hco := callF_ok (src := 10 + l) (s := s) (many := minI n (μ 14 (10 + l) s)) (M := al μ) hs hW (by omega) (by omega)
  refine run_k 10 ?_
  show (0 ≤ (w32 (10 + l)) ∧ (w32 (10 + l)) < 14) ∧ ((0 ≤ s ∧ s < 4) ∧ (∃ σ : Mm, cl_J9_min_7cf53.2.2.1 σ [vI n, vI (μ 14 (w32 (10 + l)) s)] μ ∧ (∀ ov μ', cl_J9_min_7cf53.2.2.2.1 σ [vI n, vI (μ 14 (w32 (10 + l)) s)] μ ov μ' → Run fam0 none cd_X4_meet ER ET 15 0 [some (vR 0 0), some (vI l), some (vI s), some (vI n), none] (ov.toList ++ []) μ') ∧ ∀ kx, cl_J9_min_7cf53.2.2.2.2 σ [vI n, vI (μ 14 (w32 (10 + l)) s)] μ kx → thr cd_X4_meet ET (Run fam0 none cd_X4_meet ER ET) 12 0 [some (vR 0 0), some (vI l), some (vI s), some (vI n), none] μ kx))
  rw [show w32 (10 + l) = 10 + l from w32_id (by simp only [in32]; omega)]
  refine ⟨by omega, ?_⟩
  refine ⟨by omega, ?_⟩
  refine ⟨μ, ⟨rfl, show True from True.intro⟩, fun ov μ' hq => ?_, fun k hk => hk.elim⟩
  obtain ⟨hov, hmu⟩ : ov = some (vI (minI n (μ 14 (10 + l) s))) ∧ μ' = μ := hq
  rw [hov, hmu]
  show Run fam0 none cd_X4_meet ER ET 15 0 [some (vR 0 0), some (vI l), some (vI s), some (vI n), none] [vI (minI n (μ 14 (10 + l) s))] μ
  refine run_k 8 ?_
  show ∃ σ : Mm, cl_X4_callBack.2.2.1 σ [vR 0 0, vI (w32 (10 + l)), vI s, vI (minI n (μ 14 (10 + l) s))] μ ∧ (∀ ov μ', cl_X4_callBack.2.2.2.1 σ [vR 0 0, vI (w32 (10 + l)), vI s, vI (minI n (μ 14 (10 + l) s))] μ ov μ' → Run fam0 none cd_X4_meet ER ET 28 0 [some (vR 0 0), some (vI l), some (vI s), some (vI n), some (vI (minI n (μ 14 (10 + l) s)))] (ov.toList ++ []) μ') ∧ ∀ kx, cl_X4_callBack.2.2.2.2 σ [vR 0 0, vI (w32 (10 + l)), vI s, vI (minI n (μ 14 (10 + l) s))] μ kx → thr cd_X4_meet ET (Run fam0 none cd_X4_meet ER ET) 25 0 [some (vR 0 0), some (vI l), some (vI s), some (vI n), some (vI (minI n (μ 14 (10 + l) s)))] μ kx
  rw [show w32 (10 + l) = 10 + l from w32_id (by simp only [in32]; omega)]
  refine ⟨μ, ⟨rfl, show KI μ ∧ Wk (al μ) ∧ (0 ≤ s ∧ s ≤ 3) ∧ (0 ≤ (minI n (μ 14 (10 + l) s)) ∧ (minI n (μ 14 (10 + l) s)) ≤ 500) ∧ (minI n (μ 14 (10 + l) s)) ≤ lentF (al μ) ((10 + l)) s from ⟨by assumption, by assumption, by omega, by omega, by omega⟩⟩, fun ov μ' hq => ?_, fun k hk => hk.elim⟩
  obtain ⟨hov, hal1, hK1, hF1⟩ : ov = none ∧ al μ' = ap (10 + l) s (minI n (μ 14 (10 + l) s)) (callF (al μ) (10 + l) s (minI n (μ 14 (10 + l) s))) ∧ KI μ' ∧ Fr μ μ' := hq
  rw [hov]
  clear hov
  rename Mm => M1
  show Run fam0 none cd_X4_meet ER ET 28 0 [some (vR 0 0), some (vI l), some (vI s), some (vI n), some (vI (minI n (μ 14 (10 + l) s)))] [] M1
  have hk1 := ki_len hK1 hl hs
  refine run_k 11 ?_
  show (0 ≤ l ∧ l < 4) ∧ ((0 ≤ s ∧ s < 4) ∧ ((0 ≤ s ∧ s < 4) ∧ (ER none (st M1 9 l s (w32 ((M1 9 l s) - (minI n (μ 14 (10 + l) s))))))))
  rw [show w32 ((M1 9 l s) - (minI n (μ 14 (10 + l) s))) = (M1 9 l s) - (minI n (μ 14 (10 + l) s)) from w32_id (by simp only [in32]; omega)]
  refine ⟨by omega, ?_⟩
  refine ⟨by omega, ?_⟩
  refine ⟨by omega, ?_⟩
  have hX : al (st M1 9 l s ((M1 9 l s) - (minI n (μ 14 (10 + l) s)))) = callF (al μ) (10 + l) s (minI n (μ 14 (10 + l) s)) := by
    rw [al_s9 _ _ _ _ hs, ← al_45 (μ := M1) (c := l) hs, hal1]
    generalize callF (al μ) (10 + l) s (minI n (μ 14 (10 + l) s)) = X
    generalize minI n (μ 14 (10 + l) s) = d
    unfold ap
    rw [if_neg (show ¬ 10 + l < 10 by omega), show 4 * (10 + l - 10) + s = 4 * l + s by omega, st_s, st_ov, show X 45 0 (4 * l + s) + d - d = X 45 0 (4 * l + s) by omega]
    exact st_self
  refine hER _ _ ⟨rfl, by rw [hX, e14], KI_cg hK1 (by rw [hX]; exact VB_of hco.1) (by rw [al_s9 _ _ _ _ hs]; exact st_o (by decide)) (fun g j q => by rw [al_s9 _ _ _ _ hs]; exact st_o (by omega)) (fun g r j q => st_o (by omega)), Fr_st hF1 (by decide)⟩
set_option maxRecDepth 20000 in
theorem con_X4_meet (l : Launch) (htr : l.stackTraces = false) (σ : Mm) : CON fam0 63 l yX4_meet (Cond.code yX4_meet cX4_meet 5 none :: wm) 4 106 0 (cl_X4_meet.2.2.1 σ) (cl_X4_meet.2.2.2.1 σ) (cl_X4_meet.2.2.2.2 σ) :=
  con_of (cd := cd_X4_meet) (own := RX4) (rk := 0) (sc_of htr (by decide) k_X4_meet_ok (by decide +kernel) co_X4_ok fl_X4_ok (all_cons ⟨RX4, yX4_callBack, cX4_callBack, 8, none, 3, 79, 3, con_X4_callBack l htr, rfl, vw_X4_268, ⟨rfl, by decide, by decide, by decide +kernel⟩, ⟨by decide, by decide⟩, fun σ as μ h => ⟨0, 0, _, h.1, rfl, TX4, 17, rfl⟩⟩ all_nil) (all_cons ⟨yJ9_min_7cf53, cJ9_min_7cf53, 2, (some .int), 0, 0, con_J9_min_7cf53 l htr, vw_X4_258, ⟨by decide, by decide, by decide +kernel⟩, ⟨by decide, by decide⟩⟩ all_nil) all_nil) rfl (by decide +kernel) rfl rfl rfl rfl (fun as μ hs => by rw [hs.1]; exact Nat.le_of_ble_eq_true rfl)
    (fun as μ hs hM hrg => by
      have hs1 := hs.1
      have hmem : ∀ v, v ∈ ([vR 0 0, vI (iaI as 1), vI (iaI as 2), vI (iaI as 3)] : List AV) → rg fam0 v := by rw [← hs1]; exact hrg
      have key := run_X4_meet (ER := cl_X4_meet.2.2.2.1 σ as μ) (ET := fun k μ' => cl_X4_meet.2.2.2.2 σ as μ k ∧ μ' = μ) σ μ (iaI as 1) (iaI as 2) (iaI as 3) hM (hmem (vI (iaI as 1)) (by simp)) (hmem (vI (iaI as 2)) (by simp)) (hmem (vI (iaI as 3)) (by simp)) hs.2 (fun ov μ' h => h)
      have e : entL as 5 = [some (vR 0 0), some (vI (iaI as 1)), some (vI (iaI as 2)), some (vI (iaI as 3)), none] := by rw [hs1]; rfl
      rw [e]; exact key)
/-- recalls met by a day -/
def CMt (d : Int) (k : Int) (μ : Mm) : Prop := ∀ i : Int, 0 ≤ i → μ 32 0 i = if i < μ 27 0 5 ∧ (μ 31 0 i < d ∨ (μ 31 0 i = d ∧ i < k)) then 1 else 0
theorem al_s32 {M : Mm} {i : Int} (h0 : 0 ≤ i) (h1 : i < M 27 0 5) (hz : M 32 0 i = 0) : al (st M 32 0 i 1) = st (al M) 38 0 30 (mtF M + 1) := by
  have hm : mtF (st M 32 0 i 1) = mtF M + 1 := by
    unfold mtF
    rw [st_o (by decide)]
    refine sm_upd (k0 := i.toNat) (by omega) ?_ (fun k hk hne => ?_)
    · rw [show ((i.toNat : Nat) : Int) = i by omega, st_s, hz]
      rfl
    · rw [st_i (by omega)]
  funext h t j
  unfold al
  simp only [hm]
  unfold st
  split <;> first | (simp; done) | (simp; intro q; exact absurd q (by assumption)) | skip
  simp
  by_cases q0 : t = 0
  · by_cases q : j = 30
    · subst q; simp [q0]
    · simp [q, q0]
  · simp [q0]
theorem mt_rng {M : Mm} (h : 0 ≤ M 27 0 5 ∧ M 27 0 5 ≤ 40) : 0 ≤ mtF M ∧ mtF M ≤ 40 := by
  have := sm_le (g := fun k : Nat => if M 32 0 (k : Int) ≠ 0 then (1 : Int) else 0) (c := 1) (n := (M 27 0 5).toNat) (fun k _ => by split <;> omega)
  unfold mtF
  omega
theorem meet_is {M M2 : Mm} {i : Int} (h0 : 0 ≤ i) (h1 : i < M 27 0 5) (hr : 0 ≤ M 27 0 5 ∧ M 27 0 5 ≤ 40) (hz : M 32 0 i = 0) (h : al M2 = callF (al (st M 32 0 i 1)) (10 + M 28 0 i) (M 29 0 i) (minI (M 30 0 i) (lentF (al (st M 32 0 i 1)) (10 + M 28 0 i) (M 29 0 i)))) : al M2 = meetF (al M) i := by
  have hm := mt_rng hr
  have hl : lentF (st (al M) 38 0 30 (mtF M + 1)) (10 + M 28 0 i) (M 29 0 i) = lentF (al M) (10 + M 28 0 i) (M 29 0 i) := lentF_cg (st_i (by decide)) (fun _ => st_o (by decide)) (fun _ => st_o (by decide)) (fun _ => st_o (by decide)) _ _
  rw [h, al_s32 h0 h1 hz, callF_30, hl]
  unfold meetF
  have e : callF (al M) (10 + al M 58 0 i) (al M 59 0 i) (wantF (al M) i) 38 0 30 = mtF M := by
    rw [callF_u _ _ _ _ (by decide) (by decide) (by omega)]; rfl
  rw [e, w32_id (by simp only [in32]; omega)]
  rfl
def mrL (m : Mm) : Nat → Mm
  | 0 => m
  | k + 1 => if mrL m k 61 0 k = mrL m k 38 0 1 then meetF (mrL m k) k else mrL m k
theorem mr_is (m : Mm) : ∀ k : Nat, metF m k = mrL (dayF m) k
  | 0 => rfl
  | k + 1 => by rw [metF, mrL, mr_is m k]
/-! ### Primeborrow.meetRecalls -/
def cl_X4_meetRecalls : Cl := (1, 0, fun σ as μ => as = [vR 0 0] ∧ (KI μ ∧ Wk (al μ) ∧ Xk (al μ) ∧ CMt (μ 0 0 14) 0 μ), fun σ as μ ov μ' => ov = none ∧ al μ' = mrL (al μ) (μ 27 0 5).toNat ∧ KI μ' ∧ CMt (μ' 0 0 14) 40 μ' ∧ (∀ (g : Nat) (r j : Int), (21 ≤ g ∧ g ≠ 35 ∧ g ≠ 37 ∧ g ≠ 32) → μ' g r j = μ g r j), fun σ as μ k => False)
def cd_X4_meetRecalls : Cd := mkcd k_X4_meetRecalls co_X4 fl_X4 [(312, cl_X4_meet)] [] [] [] 2 0 0
set_option maxHeartbeats 4000000 in
set_option maxRecDepth 20000 in
theorem run_X4_meetRecalls {ER : Option AV → Mm → Prop} {ET : Nat → Mm → Prop} (σ μ : Mm) (hM : MR fam0 μ)  (hP : KI μ ∧ Wk (al μ) ∧ Xk (al μ) ∧ CMt (μ 0 0 14) 0 μ) (hER : ∀ ov μ', (ov = none ∧ al μ' = mrL (al μ) (μ 27 0 5).toNat ∧ KI μ' ∧ CMt (μ' 0 0 14) 40 μ' ∧ (∀ (g : Nat) (r j : Int), (21 ≤ g ∧ g ≠ 35 ∧ g ≠ 37 ∧ g ≠ 32) → μ' g r j = μ g r j)) → ER ov μ') : Run fam0 none cd_X4_meetRecalls ER ET 0 0 [some (vR 0 0), none] [] μ := by
  obtain ⟨hK0, hW0, hX, hC0⟩ := hP
  have hrec0 : 0 ≤ μ 27 0 5 ∧ μ 27 0 5 ≤ 40 := hX.2.2.1.1
  refine run_k 2 ?_
  show Run fam0 none cd_X4_meetRecalls ER ET 2 0 [some (vR 0 0), some (vI 0)] [] μ
  have lp2 : ∀ (fz : Nat) (k : Nat) (M : Mm), (μ 27 0 5 - (k : Int)).toNat < fz → ((k : Int) ≤ μ 27 0 5 ∧ al M = mrL (al μ) k ∧ KI M ∧ Wk (al M) ∧ CMt (M 0 0 14) k M ∧ (∀ (g : Nat) (r j : Int), (21 ≤ g ∧ g ≠ 35 ∧ g ≠ 37 ∧ g ≠ 32) → M g r j = μ g r j)) → Run fam0 none cd_X4_meetRecalls ER ET 2 0 [some (vR 0 0), some (vI (k : Int))] [] M := by
    intro fz
    induction fz with
    | zero => intro k M hf; omega
    | succ fz ih2 =>
      intro k M hf hI
      obtain ⟨hk1, hM2, hK, hWM, hcm, hfr⟩ := hI
      have hnM := hfr 27 0 5 (by decide)
      have hck := hcm k (by omega)
      have hrec : 0 ≤ M 27 0 5 ∧ M 27 0 5 ≤ 40 := by omega
      refine run_k 5 ?_
      show ((M 27 0 5) ≤ (k : Int) → Run fam0 none cd_X4_meetRecalls ER ET 88 0 [some (vR 0 0), some (vI (k : Int))] [] M) ∧ ((k : Int) < (M 27 0 5) → Run fam0 none cd_X4_meetRecalls ER ET 13 0 [some (vR 0 0), some (vI (k : Int))] [] M)
      refine ⟨fun c2 => ?_, fun c2 => ?_⟩
      · refine run_k 1 ?_
        show ER none M
        refine hER _ _ ⟨rfl, by rw [hM2, show k = (μ 27 0 5).toNat by omega], hK, fun i i0 => ?_, hfr⟩
        rw [hcm i i0]
        split <;> split <;> omega
      · have hrk : (0 ≤ M 28 0 k ∧ M 28 0 k ≤ 3) ∧ (0 ≤ M 29 0 k ∧ M 29 0 k ≤ 3) ∧ (1 ≤ M 30 0 k ∧ M 30 0 k ≤ 500) ∧ (1 ≤ M 31 0 k ∧ M 31 0 k ≤ 510) := by
          rw [hfr 28 0 k (by decide), hfr 29 0 k (by decide), hfr 30 0 k (by decide), hfr 31 0 k (by decide)]
          exact hX.2.2.1.2 k (by omega) (show (k : Int) < μ 27 0 5 by omega)
        refine run_k 6 ?_
        show (0 ≤ (k : Int) ∧ (k : Int) < 40) ∧ (((M 32 0 (k : Int)) ≠ 0 → Run fam0 none cd_X4_meetRecalls ER ET 82 0 [some (vR 0 0), some (vI (k : Int))] [] M) ∧ ((M 32 0 (k : Int)) = 0 → Run fam0 none cd_X4_meetRecalls ER ET 25 0 [some (vR 0 0), some (vI (k : Int))] [] M))
        refine ⟨by omega, ?_⟩
        refine ⟨fun c4 => ?_, fun c4 => ?_⟩
        · refine run_k 2 ?_
          show Run fam0 none cd_X4_meetRecalls ER ET 2 0 [some (vR 0 0), some (vI (w32 ((k : Int) + 1)))] [] M
          rw [show w32 ((k : Int) + 1) = (k : Int) + 1 from w32_id (by simp only [in32]; omega)]
          exact ih2 (k + 1) M (by omega) (by
              have hne : ¬ al M 61 0 k = al M 38 0 1 := by
                have e61 := al_r61 M k
                have e1 := al_n1 M
                by_cases q : M 31 0 k < M 0 0 14 ∨ (M 31 0 k = M 0 0 14 ∧ (k : Int) < k)
                · omega
                · rw [if_neg (fun z => q z.2)] at hck; omega
              refine ⟨by omega, by rw [mrL, ← hM2, if_neg hne], hK, hWM, fun i i0 => ?_, hfr⟩
              rw [hcm i i0]
              have e61 : i = k → ¬ M 31 0 i = M 0 0 14 := fun q => by rw [q]; exact hne
              by_cases q : i = k
              · have := e61 q
                split <;> split <;> omega
              · split <;> split <;> omega)
        · refine run_k 8 ?_
          show (0 ≤ (k : Int) ∧ (k : Int) < 40) ∧ (((M 0 0 14) < (M 31 0 (k : Int)) → Run fam0 none cd_X4_meetRecalls ER ET 82 0 [some (vR 0 0), some (vI (k : Int))] [] M) ∧ ((M 31 0 (k : Int)) ≤ (M 0 0 14) → Run fam0 none cd_X4_meetRecalls ER ET 41 0 [some (vR 0 0), some (vI (k : Int))] [] M))
          refine ⟨by omega, ?_⟩
          refine ⟨fun c6 => ?_, fun c6 => ?_⟩
          · refine run_k 2 ?_
            show Run fam0 none cd_X4_meetRecalls ER ET 2 0 [some (vR 0 0), some (vI (w32 ((k : Int) + 1)))] [] M
            rw [show w32 ((k : Int) + 1) = (k : Int) + 1 from w32_id (by simp only [in32]; omega)]
            exact ih2 (k + 1) M (by omega) (by
                have hne : ¬ al M 61 0 k = al M 38 0 1 := by
                  have e61 := al_r61 M k
                  have e1 := al_n1 M
                  by_cases q : M 31 0 k < M 0 0 14 ∨ (M 31 0 k = M 0 0 14 ∧ (k : Int) < k)
                  · omega
                  · rw [if_neg (fun z => q z.2)] at hck; omega
                refine ⟨by omega, by rw [mrL, ← hM2, if_neg hne], hK, hWM, fun i i0 => ?_, hfr⟩
                rw [hcm i i0]
                have e61 : i = k → ¬ M 31 0 i = M 0 0 14 := fun q => by rw [q]; exact hne
                by_cases q : i = k
                · have := e61 q
                  split <;> split <;> omega
                · split <;> split <;> omega)
          · have hKs : KI (st M 32 0 k 1) := KI_cg hK (by rw [al_s32 (by omega) (by omega) (by omega)]; exact VB_cg hK.1 (st_i (by decide)) (fun g j q => st_o (by omega))) (by rw [al_s32 (by omega) (by omega) (by omega)]; exact st_i (by decide)) (fun g j q => by rw [al_s32 (by omega) (by omega) (by omega)]; exact st_o (by omega)) (fun g r j q => st_o (by omega))
            have hWs : Wk (al (st M 32 0 k 1)) := by rw [al_s32 (by omega) (by omega) (by omega)]; exact Wk_st hWM (by decide)
            refine run_k 23 ?_
            show (0 ≤ (k : Int) ∧ (k : Int) < 40) ∧ ((1 = 0 ∨ 1 = 1) ∧ ((0 ≤ (k : Int) ∧ (k : Int) < 40) ∧ ((0 ≤ (k : Int) ∧ (k : Int) < 40) ∧ ((0 ≤ (k : Int) ∧ (k : Int) < 40) ∧ (∃ σ : Mm, cl_X4_meet.2.2.1 σ [vR 0 0, vI (M 28 0 (k : Int)), vI (M 29 0 (k : Int)), vI (M 30 0 (k : Int))] (st M 32 0 (k : Int) 1) ∧ (∀ ov μ', cl_X4_meet.2.2.2.1 σ [vR 0 0, vI (M 28 0 (k : Int)), vI (M 29 0 (k : Int)), vI (M 30 0 (k : Int))] (st M 32 0 (k : Int) 1) ov μ' → Run fam0 none cd_X4_meetRecalls ER ET 82 0 [some (vR 0 0), some (vI (k : Int))] (ov.toList ++ []) μ') ∧ ∀ kx, cl_X4_meet.2.2.2.2 σ [vR 0 0, vI (M 28 0 (k : Int)), vI (M 29 0 (k : Int)), vI (M 30 0 (k : Int))] (st M 32 0 (k : Int) 1) kx → thr cd_X4_meetRecalls ET (Run fam0 none cd_X4_meetRecalls ER ET) 79 0 [some (vR 0 0), some (vI (k : Int))] (st M 32 0 (k : Int) 1) kx)))))
            refine ⟨by omega, ?_⟩
            refine ⟨by omega, ?_⟩
            refine ⟨by omega, ?_⟩
            refine ⟨by omega, ?_⟩
            refine ⟨by omega, ?_⟩
            refine ⟨μ, ⟨rfl, show KI (st M 32 0 (k : Int) 1) ∧ Wk (al (st M 32 0 (k : Int) 1)) ∧ (0 ≤ (M 28 0 (k : Int)) ∧ (M 28 0 (k : Int)) ≤ 3) ∧ (0 ≤ (M 29 0 (k : Int)) ∧ (M 29 0 (k : Int)) ≤ 3) ∧ (1 ≤ (M 30 0 (k : Int)) ∧ (M 30 0 (k : Int)) ≤ 500) from ⟨by assumption, by assumption, by omega, by omega, by omega⟩⟩, fun ov μ' hq => ?_, fun k hk => hk.elim⟩
            obtain ⟨hov, hal1, hK1, hF1⟩ : ov = none ∧ al μ' = callF (al (st M 32 0 (k : Int) 1)) (10 + (M 28 0 (k : Int))) (M 29 0 (k : Int)) (minI (M 30 0 (k : Int)) (lentF (al (st M 32 0 (k : Int) 1)) (10 + (M 28 0 (k : Int))) (M 29 0 (k : Int)))) ∧ KI μ' ∧ Fr (st M 32 0 (k : Int) 1) μ' := hq
            rw [hov]
            clear hov
            rename Mm => M1
            show Run fam0 none cd_X4_meetRecalls ER ET 82 0 [some (vR 0 0), some (vI (k : Int))] [] M1
            refine run_k 2 ?_
            show Run fam0 none cd_X4_meetRecalls ER ET 2 0 [some (vR 0 0), some (vI (w32 ((k : Int) + 1)))] [] M1
            rw [show w32 ((k : Int) + 1) = (k : Int) + 1 from w32_id (by simp only [in32]; omega)]
            exact ih2 (k + 1) M1 (by omega) (by
                have hz : M 32 0 k = 0 := by omega
                have hdue : M 31 0 k = M 0 0 14 := by
                  by_cases q : M 31 0 k < M 0 0 14
                  · rw [if_pos ⟨by omega, Or.inl q⟩] at hck; omega
                  · omega
                have hm1 := meet_is (M2 := M1) (by omega) (by omega) hrec hz hal1
                have hd14 : M1 0 0 14 = M 0 0 14 := by
                  rw [← al_n1 M1, hm1]
                  unfold meetF
                  rw [st_u (by decide), callF_u _ _ _ _ (by decide) (by decide) (by decide)]
                  rfl
                refine ⟨by omega, by rw [mrL, ← hM2, if_pos (show al M 61 0 k = al M 38 0 1 from hdue)]; exact hm1, hK1, by rw [hm1]; unfold meetF; exact Wk_st (callF_ok hrk.2.1 hWM (want_ok (k := k) hWM.1 hrk.2.2.1).1 (want_ok (k := k) hWM.1 hrk.2.2.1).2).1 (by decide), fun i i0 => ?_, fun g r j q => (hF1 g r j (by omega)).trans ((st_o (by omega)).trans (hfr g r j q))⟩
                rw [hF1 32 0 i (by decide), hF1 27 0 5 (by decide), hF1 31 0 i (by decide), hd14, st_o (show (27 : Nat) ≠ 32 by decide), st_o (show (31 : Nat) ≠ 32 by decide)]
                by_cases q : i = k
                · rw [q, st_s, if_pos ⟨by omega, Or.inr ⟨hdue, by omega⟩⟩]
                · rw [st_i q, hcm i i0]
                  split <;> split <;> omega)
  exact lp2 _ 0 μ (Nat.lt_succ_self _) (⟨by omega, rfl, hK0, hW0, hC0, fun _ _ _ _ => rfl⟩)
theorem vw_X4_312 : ∀ w ∈ ([.methodLink RX4 312 yX4_meet, .instanceMethod yX4_meet, .selects RX4 yX4_meet yX4_meet, .initialized RX4, .code yX4_meet cX4_meet 5 none] : List Cond), w ∈ wm := wm_ps _ [438, 440, 6, 50, 441] (by decide +kernel)
set_option maxRecDepth 20000 in
theorem con_X4_meetRecalls (l : Launch) (htr : l.stackTraces = false) (σ : Mm) : CON fam0 63 l yX4_meetRecalls (Cond.code yX4_meetRecalls cX4_meetRecalls 2 none :: wm) 5 130 0 (cl_X4_meetRecalls.2.2.1 σ) (cl_X4_meetRecalls.2.2.2.1 σ) (cl_X4_meetRecalls.2.2.2.2 σ) :=
  con_of (cd := cd_X4_meetRecalls) (own := RX4) (rk := 0) (sc_of htr (by decide) k_X4_meetRecalls_ok (by decide +kernel) co_X4_ok fl_X4_ok (all_cons ⟨RX4, yX4_meet, cX4_meet, 5, none, 4, 106, 3, con_X4_meet l htr, rfl, vw_X4_312, ⟨rfl, by decide, by decide, by decide +kernel⟩, ⟨by decide, by decide⟩, fun σ as μ h => ⟨0, 0, _, h.1, rfl, TX4, 17, rfl⟩⟩ all_nil) all_nil all_nil) rfl (by decide +kernel) rfl rfl rfl rfl (fun as μ hs => by rw [hs.1]; exact Nat.le_of_ble_eq_true rfl)
    (fun as μ hs hM hrg => by
      have hs1 := hs.1
      have hmem : ∀ v, v ∈ ([vR 0 0] : List AV) → rg fam0 v := by rw [← hs1]; exact hrg
      have key := run_X4_meetRecalls (ER := cl_X4_meetRecalls.2.2.2.1 σ as μ) (ET := fun k μ' => cl_X4_meetRecalls.2.2.2.2 σ as μ k ∧ μ' = μ) σ μ  hM  hs.2 (fun ov μ' h => h)
      have e : entL as 2 = [some (vR 0 0), none] := by rw [hs1]; rfl
      rw [e]; exact key)
