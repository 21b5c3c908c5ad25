/-! ===== the class: failing -/
theorem KI_fl {M M' : Mm} (h : KI M) (hV : VB (al M')) (h1 : al M' 38 0 11 = al M 38 0 11) (ho : ∀ (g : Nat) (j : Int), (g = 42 ∨ g = 48 ∨ g = 49 ∨ g = 50 ∨ g = 51) → al M' g 0 j = al M g 0 j) (hr : ∀ (g : Nat) (r j : Int), g = 14 ∨ g = 35 ∨ g = 37 → M' g r j = M g r j) (hF' : FZ (al M')) : KI M' := by
  obtain ⟨hV0, hC, hH, hF⟩ := h
  have q : ∀ (g : Nat), (g = 42 ∨ g = 48 ∨ g = 49 ∨ g = 50 ∨ g = 51) → ∀ j, al M' g 0 j = al M g 0 j := fun g hg j => ho g j hg
  have ql := lentF_cg h1 (q 48 (by decide)) (q 49 (by decide)) (q 51 (by decide))
  have qf := ftF_cg h1 (q 48 (by decide)) (q 49 (by decide)) (q 50 (by decide)) (q 51 (by decide))
  have qc : ∀ s P, cnP M' s P 3000 = cnP M s P 3000 := fun s P => cnP_cg (fun i _ => ⟨hr 37 s i (by decide), hr 35 s i (by decide)⟩)
  refine ⟨hV, fun x s hx s0 s1 => by rw [hr 14 x s (by decide), ql]; exact hC x s hx s0 s1, fun s s0 s1 => ?_, hF'⟩
  obtain ⟨g1, g2⟩ := hH s s0 s1
  refine ⟨by rw [qc, longF_cg (q 42 (by decide))]; exact g1, fun c c0 c1 => ⟨?_, fun b b0 b1 => by rw [qc, qf]; exact (g2 c c0 c1).2 b b0 b1⟩⟩
  rw [qc]
  unfold partF
  rw [q 42 (by decide), ql]
  exact (g2 c c0 c1).1
theorem loss_is {x : Int} (h : -9000000000000000000 ≤ x ∧ x ≤ 9000000000000000000) : maxI 0 (w64 (-x)) = if x < 0 then w64 (-x) else 0 := by
  rw [w64_id (by simp only [in64]; omega)]
  unfold maxI
  split <;> split <;> omega
/-! ### Primeborrow.fail -/
def cl_X4_fail : Cl := (2, 2, fun σ as μ => as = [vR 0 0, vI (iaI as 1)] ∧ (CV μ ∧ ((0 ≤ (iaI as 1) ∧ (iaI as 1) ≤ 5) → -9000000000000000000 ≤ failL (al μ) (iaI as 1) 4 41 0 (iaI as 1) ∧ failL (al μ) (iaI as 1) 4 41 0 (iaI as 1) ≤ 9000000000000000000)), fun σ as μ ov μ' => ((0 ≤ (iaI as 1) ∧ (iaI as 1) ≤ 5) ∧ (μ 5 0 (iaI as 1) = 0)) ∧ ov = some (vL (lossF (failL (al μ) (iaI as 1) 4) (iaI as 1))) ∧ al μ' = failF (al μ) (iaI as 1) ∧ PB μ μ', fun σ as μ k => (k = 1 ∧ ¬ (0 ≤ (iaI as 1) ∧ (iaI as 1) ≤ 5)) ∨ (k = 3 ∧ (0 ≤ (iaI as 1) ∧ (iaI as 1) ≤ 5) ∧ ¬ (μ 5 0 (iaI as 1) = 0)))
def cd_X4_fail : Cd := mkcd k_X4_fail co_X4 fl_X4 [(159, cl_X4_close)] [(81, cl_X4_needClient), (86, cl_X4_needState), (163, cl_J9_max_f86c9)] [] [] 4 2 2
set_option maxHeartbeats 4000000 in
set_option maxRecDepth 20000 in
theorem run_X4_fail {ER : Option AV → Mm → Prop} {ET : Nat → Mm → Prop} (σ μ : Mm) (c : Int) (hM : MR fam0 μ) (h_c : in32 c) (hP : CV μ ∧ ((0 ≤ c ∧ c ≤ 5) → -9000000000000000000 ≤ failL (al μ) c 4 41 0 c ∧ failL (al μ) c 4 41 0 c ≤ 9000000000000000000)) (hER : ∀ ov μ', (((0 ≤ c ∧ c ≤ 5) ∧ (μ 5 0 c = 0)) ∧ ov = some (vL (lossF (failL (al μ) c 4) c)) ∧ al μ' = failF (al μ) c ∧ PB μ μ') → ER ov μ') (hET : ∀ k, ((k = 1 ∧ ¬ (0 ≤ c ∧ c ≤ 5)) ∨ (k = 3 ∧ (0 ≤ c ∧ c ≤ 5) ∧ ¬ (μ 5 0 c = 0))) → ET k μ) : Run fam0 none cd_X4_fail ER ET 0 0 [some (vR 0 0), some (vI c), none, none] [] μ := by
  obtain ⟨hP0, hbd⟩ := hP
  obtain ⟨hK, hW, hX, hC⟩ := hP0
  refine run_k 2 ?_
  show ∃ σ : Mm, cl_X4_needClient.2.2.1 σ [vI c] μ ∧ (∀ ov μ', cl_X4_needClient.2.2.2.1 σ [vI c] μ ov μ' → Run fam0 none cd_X4_fail ER ET 4 1 [some (vR 0 0), some (vI c), none, none] (ov.toList ++ []) μ') ∧ ∀ kx, cl_X4_needClient.2.2.2.2 σ [vI c] μ kx → thr cd_X4_fail ET (Run fam0 none cd_X4_fail ER ET) 1 1 [some (vR 0 0), some (vI c), none, none] μ kx
  refine ⟨μ, ⟨rfl, show True from True.intro⟩, fun ov μ' hq => ?_, fun kx hk => (by have hk : kx = 1 ∧ ¬ (0 ≤ c ∧ c ≤ 5) := hk; exact hET kx (by omega))⟩
  obtain ⟨hov, hmu, hc1⟩ : ov = none ∧ μ' = μ ∧ (0 ≤ c ∧ c ≤ 5) := hq
  rw [hov, hmu]
  show Run fam0 none cd_X4_fail ER ET 4 1 [some (vR 0 0), some (vI c), none, none] [] μ
  refine run_k 5 ?_
  show (0 ≤ c ∧ c < 6) ∧ (((μ 5 0 c) ≠ 0 → Run fam0 none cd_X4_fail ER ET 17 1 [some (vR 0 0), some (vI c), none, none] [] μ) ∧ ((μ 5 0 c) = 0 → Run fam0 none cd_X4_fail ER ET 13 1 [some (vR 0 0), some (vI c), none, none] [] μ))
  refine ⟨by omega, ?_⟩
  refine ⟨fun c2 => ?_, fun c2 => ?_⟩
  · refine run_k 2 ?_
    show ∃ σ : Mm, cl_X4_needState.2.2.1 σ [vI 0] μ ∧ (∀ ov μ', cl_X4_needState.2.2.2.1 σ [vI 0] μ ov μ' → Run fam0 none cd_X4_fail ER ET 21 2 [some (vR 0 0), some (vI c), none, none] (ov.toList ++ []) μ') ∧ ∀ kx, cl_X4_needState.2.2.2.2 σ [vI 0] μ kx → thr cd_X4_fail ET (Run fam0 none cd_X4_fail ER ET) 18 2 [some (vR 0 0), some (vI c), none, none] μ kx
    refine ⟨μ, ⟨rfl, show True from True.intro⟩, fun ov μ' hq => ?_, fun kx hk => (by have hk : kx = 3 ∧ ¬ ((0 : Int) ≠ 0) := hk; exact hET kx (by omega))⟩
    exact absurd rfl hq.2.2
  · refine run_k 3 ?_
    show ∃ σ : Mm, cl_X4_needState.2.2.1 σ [vI 1] μ ∧ (∀ ov μ', cl_X4_needState.2.2.2.1 σ [vI 1] μ ov μ' → Run fam0 none cd_X4_fail ER ET 21 2 [some (vR 0 0), some (vI c), none, none] (ov.toList ++ []) μ') ∧ ∀ kx, cl_X4_needState.2.2.2.2 σ [vI 1] μ kx → thr cd_X4_fail ET (Run fam0 none cd_X4_fail ER ET) 18 2 [some (vR 0 0), some (vI c), none, none] μ kx
    refine ⟨μ, ⟨rfl, show True from True.intro⟩, fun ov μ' hq => ?_, fun kx hk => (by have hk : kx = 3 ∧ ¬ ((1 : Int) ≠ 0) := hk; exact hET kx (by omega))⟩
    obtain ⟨hov, hmu, hc4⟩ : ov = none ∧ μ' = μ ∧ ((1 : Int) ≠ 0) := hq
    rw [hov, hmu]
    show Run fam0 none cd_X4_fail ER ET 21 2 [some (vR 0 0), some (vI c), none, none] [] μ
    refine run_k 2 ?_
    show Run fam0 none cd_X4_fail ER ET 23 2 [some (vR 0 0), some (vI c), some (vI 0), none] [] μ
    have lp23 : ∀ (fz : Nat) (k : Nat) (M : Mm), (4 - (k : Int)).toNat < fz → ((k : Int) ≤ 4 ∧ al M = failL (al μ) c k ∧ KI M ∧ Wk (al M) ∧ Fr μ M ∧ M 0 0 14 = μ 0 0 14) → Run fam0 none cd_X4_fail ER ET 23 2 [some (vR 0 0), some (vI c), some (vI (k : Int)), none] [] M := by
      intro fz
      induction fz with
      | zero => intro k M hf; omega
      | succ fz ih23 =>
        intro k M hf hI
        obtain ⟨hk1, hM2, hKM, hWM, hFM, hdM⟩ := hI
        refine run_k 3 ?_
        show (4 ≤ (k : Int) → Run fam0 none cd_X4_fail ER ET 40 2 [some (vR 0 0), some (vI c), some (vI (k : Int)), none] [] M) ∧ ((k : Int) < 4 → Run fam0 none cd_X4_fail ER ET 28 2 [some (vR 0 0), some (vI c), some (vI (k : Int)), none] [] M)
        refine ⟨fun c6 => ?_, fun c6 => ?_⟩
        · refine run_k 12 ?_
          show (0 ≤ c ∧ c < 6) ∧ ((1 = 0 ∨ 1 = 1) ∧ ((0 ≤ c ∧ c < 6) ∧ (∃ σ : Mm, cl_J9_max_f86c9.2.2.1 σ [vL 0, vL (w64 (-(M 3 0 c)))] (st M 5 0 c 1) ∧ (∀ ov μ', cl_J9_max_f86c9.2.2.2.1 σ [vL 0, vL (w64 (-(M 3 0 c)))] (st M 5 0 c 1) ov μ' → Run fam0 none cd_X4_fail ER ET 58 2 [some (vR 0 0), some (vI c), some (vI (k : Int)), none] (ov.toList ++ []) μ') ∧ ∀ kx, cl_J9_max_f86c9.2.2.2.2 σ [vL 0, vL (w64 (-(M 3 0 c)))] (st M 5 0 c 1) kx → thr cd_X4_fail ET (Run fam0 none cd_X4_fail ER ET) 55 2 [some (vR 0 0), some (vI c), some (vI (k : Int)), none] (st M 5 0 c 1) kx)))
          refine ⟨by omega, ?_⟩
          refine ⟨by omega, ?_⟩
          refine ⟨by omega, ?_⟩
          refine ⟨μ, ⟨rfl, show True from True.intro⟩, fun ov μ' hq => ?_, fun k hk => hk.elim⟩
          obtain ⟨hov, hmu⟩ : ov = some (vL (maxI 0 (w64 (-(M 3 0 c))))) ∧ μ' = st M 5 0 c 1 := hq
          rw [hov, hmu]
          show Run fam0 none cd_X4_fail ER ET 58 2 [some (vR 0 0), some (vI c), some (vI (k : Int)), none] [vL (maxI 0 (w64 (-(M 3 0 c))))] (st M 5 0 c 1)
          refine run_k 17 ?_
          show (0 ≤ c ∧ c < 6) ∧ ((0 ≤ c ∧ c < 6) ∧ (ER (some (vL (maxI 0 (w64 (-(M 3 0 c)))))) (st (st (st M 5 0 c 1) 3 0 c (w64 ((M 3 0 c) + (maxI 0 (w64 (-(M 3 0 c))))))) 0 0 16 (w64 ((M 0 0 16) + (maxI 0 (w64 (-(M 3 0 c)))))))))
          refine ⟨by omega, ?_⟩
          refine ⟨by omega, ?_⟩
          have hM4 : al M = failL (al μ) c 4 := by rw [hM2, show k = 4 by omega]
          have hb2 := hbd (by omega)
          rw [← hM4] at hb2
          change -9000000000000000000 ≤ M 3 0 c ∧ M 3 0 c ≤ 9000000000000000000 at hb2
          have hls : maxI 0 (w64 (-M 3 0 c)) = lossF (al M) c := loss_is hb2
          have ha : al (st (st (st M 5 0 c 1) 3 0 c (w64 ((M 3 0 c) + (maxI 0 (w64 (-(M 3 0 c))))))) 0 0 16 (w64 ((M 0 0 16) + (maxI 0 (w64 (-(M 3 0 c))))))) = failF (al μ) c := by
            rw [al_f16, al_s3, al_s5 (by decide), hls]
            unfold failF
            rw [← hM4]
            rfl
          have hro : ∀ (g : Nat) (r j : Int), g ≠ 5 → g ≠ 3 → g ≠ 0 → (st (st (st M 5 0 c 1) 3 0 c (w64 ((M 3 0 c) + (maxI 0 (w64 (-(M 3 0 c))))))) 0 0 16 (w64 ((M 0 0 16) + (maxI 0 (w64 (-(M 3 0 c))))))) g r j = M g r j := fun g r j q1 q2 q3 => (st_o q3).trans ((st_o q2).trans (st_o q1))
          have hao : ∀ (g : Nat) (j : Int), g ≠ 44 → g ≠ 43 → g ≠ 41 → ¬ (g = 38 ∧ j = 29) → al (st (st (st M 5 0 c 1) 3 0 c (w64 ((M 3 0 c) + (maxI 0 (w64 (-(M 3 0 c))))))) 0 0 16 (w64 ((M 0 0 16) + (maxI 0 (w64 (-(M 3 0 c))))))) g 0 j = al M g 0 j := fun g j q1 q2 q3 q4 => by
            rw [al_f16, al_s3, al_s5 (by decide), st_u q4, st_o q3, st_o q2, st_o q1]
          refine hER _ _ ⟨by omega, congrArg (fun z => some (vL z)) (by rw [hls, hM4]), ha, KI_fl hKM (VB_cg hKM.1 (hao 38 11 (by decide) (by decide) (by decide) (by decide)) (fun g j q => hao g j (by omega) (by omega) (by omega) (by omega))) (hao 38 11 (by decide) (by decide) (by decide) (by decide)) (fun g j q => hao g j (by omega) (by omega) (by omega) (by omega)) (fun g r j q => hro g r j (by omega) (by omega) (by omega)) (fun d s d0 d1 s0 s1 z => ?_), ?_, fun g r j q => (hro g r j (by omega) (by omega) (by omega)).trans (hFM g r j (by omega))⟩
          · rw [hao 42 _ (by decide) (by decide) (by decide) (by omega)]
            by_cases q : d = c
            · have := failL_z hW (c := c) (by omega) 4 (by decide) s.toNat (by omega)
              rw [show ((s.toNat : Nat) : Int) = s by omega] at this
              rw [hM4, q]; exact this
            · refine hKM.2.2.2 d s d0 d1 s0 s1 (fun e => z ?_)
              rw [al_f16, al_s3, al_s5 (by decide), st_u (by omega), st_o (by decide), st_o (by decide), st_i q]
              exact e
          · show CMt (M 0 0 14) 40 _
            rw [hdM]
            exact CMt_fr hC (fun g r j q => (hro g r j (by omega) (by omega) (by omega)).trans (hFM g r j (by omega)))
        · refine run_k 4 ?_
          show ∃ σ : Mm, cl_X4_close.2.2.1 σ [vR 0 0, vI c, vI (k : Int)] M ∧ (∀ ov μ', cl_X4_close.2.2.2.1 σ [vR 0 0, vI c, vI (k : Int)] M ov μ' → Run fam0 none cd_X4_fail ER ET 34 2 [some (vR 0 0), some (vI c), some (vI (k : Int)), none] (ov.toList ++ []) μ') ∧ ∀ kx, cl_X4_close.2.2.2.2 σ [vR 0 0, vI c, vI (k : Int)] M kx → thr cd_X4_fail ET (Run fam0 none cd_X4_fail ER ET) 31 2 [some (vR 0 0), some (vI c), some (vI (k : Int)), none] M kx
          refine ⟨μ, ⟨rfl, show KI M ∧ Wk (al M) ∧ (0 ≤ c ∧ c ≤ 5) ∧ (0 ≤ ((k : Int)) ∧ ((k : Int)) ≤ 3) from ⟨by assumption, by assumption, by omega, by omega⟩⟩, fun ov μ' hq => ?_, fun k hk => hk.elim⟩
          obtain ⟨hov, hal1, hK1, hF1⟩ : ov = none ∧ al μ' = closeF (al M) c (k : Int) ∧ KI μ' ∧ Fr M μ' := hq
          rw [hov]
          clear hov
          rename Mm => M1
          show Run fam0 none cd_X4_fail ER ET 34 2 [some (vR 0 0), some (vI c), some (vI (k : Int)), none] [] M1
          refine run_k 2 ?_
          show Run fam0 none cd_X4_fail ER ET 23 2 [some (vR 0 0), some (vI c), some (vI (w32 ((k : Int) + 1))), none] [] M1
          rw [show w32 ((k : Int) + 1) = (k : Int) + 1 from w32_id (by simp only [in32]; omega)]
          exact ih23 (k + 1) M1 (by omega) (⟨by omega, by rw [hal1, hM2]; rfl, hK1, by rw [hal1]; exact closeF_ok hWM (by omega) (by omega), Fr_tr hFM hF1, by rw [← hdM, ← al_n1 M1, hal1]; exact closeF_u _ _ _ (by decide) (by decide) (by decide)⟩)
    exact lp23 _ 0 μ (Nat.lt_succ_self _) (⟨by omega, (al_th μ).symm, hK, hW, Fr_rf _, rfl⟩)
theorem vw_X4_163 : ∀ w ∈ ([.methodLink RX4 163 yJ9_max_f86c9, .static yJ9_max_f86c9, .initialized yJ9_max_f86c9.cls, .code yJ9_max_f86c9 cJ9_max_f86c9 4 (some .long)] : List Cond), w ∈ wm := wm_ps _ [592, 593, 62, 594] (by decide +kernel)
set_option maxRecDepth 20000 in
theorem con_X4_fail (l : Launch) (htr : l.stackTraces = false) (σ : Mm) : CON fam0 63 l yX4_fail (Cond.code yX4_fail cX4_fail 4 (some .long) :: wm) 7 153 2 (cl_X4_fail.2.2.1 σ) (cl_X4_fail.2.2.2.1 σ) (cl_X4_fail.2.2.2.2 σ) :=
  con_of (cd := cd_X4_fail) (own := RX4) (rk := 2) (sc_of htr (by decide) k_X4_fail_ok (by decide +kernel) co_X4_ok fl_X4_ok (all_cons ⟨RX4, yX4_close, cX4_close, 4, none, 5, 130, 2, con_X4_close l htr, rfl, vw_X4_159, ⟨rfl, by decide, by decide, by decide +kernel⟩, ⟨by decide, by decide⟩, fun σ as μ h => ⟨0, 0, _, h.1, rfl, TX4, 17, rfl⟩⟩ all_nil) (all_cons ⟨yX4_needClient, cX4_needClient, 1, none, 6, 82, con_X4_needClient l htr, vw_X4_81, ⟨by decide, by decide, by decide +kernel⟩, ⟨by decide, by decide⟩⟩ (all_cons ⟨yX4_needState, cX4_needState, 1, none, 6, 82, con_X4_needState l htr, vw_X4_86, ⟨by decide, by decide, by decide +kernel⟩, ⟨by decide, by decide⟩⟩ (all_cons ⟨yJ9_max_f86c9, cJ9_max_f86c9, 4, (some .long), 0, 0, con_J9_max_f86c9 l htr, vw_X4_163, ⟨by decide, by decide, by decide +kernel⟩, ⟨by decide, by decide⟩⟩ all_nil))) all_nil) rfl (by decide +kernel) rfl rfl rfl rfl (fun as μ hs => by rw [hs.1]; exact Nat.le_of_ble_eq_true rfl)
    (fun as μ hs hM hrg => by
      have hs1 := hs.1
      have hmem : ∀ v, v ∈ ([vR 0 0, vI (iaI as 1)] : List AV) → rg fam0 v := by rw [← hs1]; exact hrg
      have key := run_X4_fail (ER := cl_X4_fail.2.2.2.1 σ as μ) (ET := fun k μ' => cl_X4_fail.2.2.2.2 σ as μ k ∧ μ' = μ) σ μ (iaI as 1) hM (hmem (vI (iaI as 1)) (by simp)) hs.2 (fun ov μ' h => h) (fun k h => ⟨h, rfl⟩)
      have e : entL as 4 = [some (vR 0 0), some (vI (iaI as 1)), none, none] := by rw [hs1]; rfl
      rw [e]; exact key)
