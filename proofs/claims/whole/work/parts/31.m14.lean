/-! ===== liquidating: the reference -/
theorem cbL_q {i s : Int} (h : i % 4 ≠ s % 4) (src : Int) : ∀ (k : Nat) (M : Mm) (rest : Int), cbL src s k M rest 42 0 i = M 42 0 i
  | 0, _, _ => rfl
  | k + 1, M, rest => by
    rw [cbL]
    split
    · split
      · rw [cbL_q h src k]
        unfold cbS
        show (st (st (st _ 42 0 _ _) 41 0 _ _) 38 0 28 _) 42 0 i = _
        rw [st_o (by decide), st_o (by decide), st_i (by omega)]
        unfold borF
        rw [borL_u (by decide) (by omega), st_o (by decide)]
      · exact cbL_q h src k M rest
    · rfl
theorem closeF_q {i s c : Int} (μ : Mm) (h : i % 4 ≠ s % 4) : closeF μ c s 42 0 i = μ 42 0 i := by
  unfold closeF
  split
  · unfold sellsF
    show (st (st _ 42 0 _ _) 41 0 _ _) 42 0 i = _
    rw [st_o (by decide), st_i (by omega)]
    split
    · exact cbL_q h c _ μ _
    · rfl
  · split
    · unfold buysF
      show (st (st _ 42 0 _ _) 41 0 _ _) 42 0 i = _
      rw [st_o (by decide), st_i (by omega)]
      exact giveF_o _ _ _ _ (by decide)
    · rfl
theorem closeF_z {μ : Mm} {c s : Int} (hW : Wk μ) (hc : 0 ≤ c ∧ c ≤ 5) (hs : 0 ≤ s ∧ s ≤ 3) : closeF μ c s 42 0 (4 * c + s) = 0 := by
  have hp := hW.2.1 (4 * c + s) (by omega) (by omega)
  have hpt := part_at hW.1 hW.2.2.2.1 hc hs
  have hln := lentF_rng hW.1 c s
  unfold closeF
  split
  · unfold sellsF
    show (st (st _ 42 0 _ _) 41 0 _ _) 42 0 (4 * c + s) = _
    rw [st_o (by decide), st_s]
    split
    · rw [(callF_ok (src := c) (many := μ 42 0 (4 * c + s) - partF μ c s) hs hW (by omega) (by omega)).2.2 (by omega) hc.1]
      omega
    · omega
  · split
    · unfold buysF
      show (st (st _ 42 0 _ _) 41 0 _ _) 42 0 (4 * c + s) = _
      rw [st_o (by decide), st_s, giveF_o _ _ _ _ (by decide)]
      omega
    · omega
def btL (μ : Mm) (c : Int) : Nat → Int
  | 0 => 0
  | k + 1 => if worthF μ c (btL μ c k) < worthF μ c ((k : Int) + 1) then (k : Int) + 1 else btL μ c k
theorem btL_rng (μ : Mm) (c : Int) : ∀ k : Nat, 0 ≤ btL μ c k ∧ btL μ c k ≤ (k : Int)
  | 0 => by simp [btL]
  | k + 1 => by
    have := btL_rng μ c k
    rw [btL]
    split <;> omega
def liqL (c : Int) : Nat → Mm → Int → Mm × Int
  | 0, M, n => (M, n)
  | f + 1, M, n => if 0 < worthF M c (btL M c 3) ∧ calledF M c ≠ 0 then liqL c f (closeF M c (btL M c 3)) (n + 1) else (M, n)
def liqF (μ : Mm) (c : Int) : Mm × Int := liqL c 4 (st μ 38 0 0 0) 0
theorem liqL_n {c : Int} {f : Nat} {M : Mm} {n : Int} (h : ¬ (0 < worthF M c (btL M c 3) ∧ calledF M c ≠ 0)) : liqL c f M n = (M, n) := by
  cases f with
  | zero => rfl
  | succ f => rw [liqL, if_neg h]
def nz1 (M : Mm) (i : Int) : Int := if M 42 0 i = 0 then 0 else 1
def nzF (M : Mm) (c : Int) : Int := nz1 M (4 * c) + nz1 M (4 * c + 1) + nz1 M (4 * c + 2) + nz1 M (4 * c + 3)
theorem nz1_rng (M : Mm) (i : Int) : 0 ≤ nz1 M i ∧ nz1 M i ≤ 1 := by unfold nz1; split <;> omega
theorem worth_ne {M : Mm} {c s : Int} (h : 0 < worthF M c s) : M 42 0 (4 * c + s) ≠ 0 := by
  intro q
  unfold worthF at h
  rw [q, Int.zero_mul] at h
  exact absurd h (by decide)
theorem nz_close {M : Mm} {c b : Int} (hW : Wk M) (hc : 0 ≤ c ∧ c ≤ 5) (hb : 0 ≤ b ∧ b ≤ 3) (h : M 42 0 (4 * c + b) ≠ 0) : nzF (closeF M c b) c = nzF M c - 1 := by
  have hz := closeF_z hW hc hb
  have hz1 : nz1 (closeF M c b) (4 * c + b) = 0 := if_pos hz
  have hz2 : nz1 M (4 * c + b) = 1 := if_neg h
  have hq : ∀ i : Int, i % 4 ≠ b % 4 → nz1 (closeF M c b) i = nz1 M i := fun i q => by unfold nz1; rw [closeF_q M q]
  have hb4 : b = 0 ∨ b = 1 ∨ b = 2 ∨ b = 3 := by omega
  unfold nzF
  rcases hb4 with rfl | rfl | rfl | rfl
  · rw [Int.add_zero] at hz1 hz2
    rw [hz1, hq (4 * c + 1) (by omega), hq (4 * c + 2) (by omega), hq (4 * c + 3) (by omega)]; omega
  · rw [hz1, hq (4 * c) (by omega), hq (4 * c + 2) (by omega), hq (4 * c + 3) (by omega)]; omega
  · rw [hz1, hq (4 * c) (by omega), hq (4 * c + 1) (by omega), hq (4 * c + 3) (by omega)]; omega
  · rw [hz1, hq (4 * c) (by omega), hq (4 * c + 1) (by omega), hq (4 * c + 2) (by omega)]; omega
theorem nz_pos {M : Mm} {c b : Int} (hb : 0 ≤ b ∧ b ≤ 3) (h : M 42 0 (4 * c + b) ≠ 0) : 1 ≤ nzF M c := by
  have hz2 : nz1 M (4 * c + b) = 1 := if_neg h
  have h0 := nz1_rng M (4 * c)
  have h1 := nz1_rng M (4 * c + 1)
  have h2 := nz1_rng M (4 * c + 2)
  have h3 := nz1_rng M (4 * c + 3)
  have hb4 : b = 0 ∨ b = 1 ∨ b = 2 ∨ b = 3 := by omega
  unfold nzF
  rcases hb4 with rfl | rfl | rfl | rfl
  · rw [Int.add_zero] at hz2; omega
  · omega
  · omega
  · omega
/-! ### PrimeborrowModel.liquidate -/
def cl_X5_liquidate : Cl := (2, 0, fun σ as μ => as = [vR 38 0, vI (iaI as 1)] ∧ (Wk μ ∧ Xk μ), fun σ as μ ov μ' => ((¬ (0 ≤ (iaI as 1) ∧ (iaI as 1) ≤ 5)) → ov = some (vI 0) ∧ μ' = st μ 38 0 0 1) ∧ (((0 ≤ (iaI as 1) ∧ (iaI as 1) ≤ 5) ∧ calledF μ (iaI as 1) = 0) → ov = some (vI 0) ∧ μ' = st μ 38 0 0 2) ∧ (((0 ≤ (iaI as 1) ∧ (iaI as 1) ≤ 5) ∧ calledF μ (iaI as 1) ≠ 0) → ov = some (vI ((liqF μ (iaI as 1)).2)) ∧ μ' = (liqF μ (iaI as 1)).1), fun σ as μ k => False)
def cd_X5_liquidate : Cd := mkcd k_X5_liquidate co_X5 fl_X5 [(189, cl_X5_isCalled), (127, cl_X5_refused), (130, cl_X5_worth), (192, cl_X5_closes)] [(145, cl_X5_isClient)] [] [] 7 1 0
set_option maxHeartbeats 4000000 in
set_option maxRecDepth 20000 in
theorem run_X5_liquidate {ER : Option AV → Mm → Prop} {ET : Nat → Mm → Prop} (σ μ : Mm) (c : Int) (hM : MR fam0 μ) (h_c : in32 c) (hP : Wk μ ∧ Xk μ) (hER : ∀ ov μ', (((¬ (0 ≤ c ∧ c ≤ 5)) → ov = some (vI 0) ∧ μ' = st μ 38 0 0 1) ∧ (((0 ≤ c ∧ c ≤ 5) ∧ calledF μ c = 0) → ov = some (vI 0) ∧ μ' = st μ 38 0 0 2) ∧ (((0 ≤ c ∧ c ≤ 5) ∧ calledF μ c ≠ 0) → ov = some (vI ((liqF μ c).2)) ∧ μ' = (liqF μ c).1)) → ER ov μ') : Run fam0 none cd_X5_liquidate ER ET 0 0 [some (vR 38 0), some (vI c), none, none, none, none, none] [] μ := by
  obtain ⟨hW, hX⟩ := hP
  have hW0 : Wk (st μ 38 0 0 0) := Wk_st hW (by decide)
  have hLk := hW.1
  have hLk0 := hW0.1
  have hPk := hW.2.1
  have hPk0 := hW0.2.1
  have hGk := Gk_of hLk hW.2.2.2.2
  have hGk0 := Gk_of hLk0 hW0.2.2.2.2
  have hday := hX.1
  have hloc := hX.2.1.1
  have hrec := hX.2.2.1.1
  have hl0 := hLk.1
  refine run_k 2 ?_
  show ∃ σ : Mm, cl_X5_isClient.2.2.1 σ [vI c] μ ∧ (∀ ov μ', cl_X5_isClient.2.2.2.1 σ [vI c] μ ov μ' → Run fam0 none cd_X5_liquidate ER ET 4 0 [some (vR 38 0), some (vI c), none, none, none, none, none] (ov.toList ++ []) μ') ∧ ∀ kx, cl_X5_isClient.2.2.2.2 σ [vI c] μ kx → thr cd_X5_liquidate ET (Run fam0 none cd_X5_liquidate ER ET) 1 0 [some (vR 38 0), some (vI c), none, none, none, none, none] μ kx
  refine ⟨μ, ⟨rfl, show True from True.intro⟩, fun ov μ' hq => ?_, fun k hk => hk.elim⟩
  obtain ⟨hov, hmu⟩ : ov = some (vI (bi (0 ≤ c ∧ c ≤ 5))) ∧ μ' = μ := hq
  rw [hov, hmu]
  show Run fam0 none cd_X5_liquidate ER ET 4 0 [some (vR 38 0), some (vI c), none, none, none, none, none] [vI (bi (0 ≤ c ∧ c ≤ 5))] μ
  refine run_k 4 ?_
  show ((bi (0 ≤ c ∧ c ≤ 5)) ≠ 0 → Run fam0 none cd_X5_liquidate ER ET 14 0 [some (vR 38 0), some (vI c), some (vI (bi (0 ≤ c ∧ c ≤ 5))), none, none, none, none] [vR 38 0] μ) ∧ ((bi (0 ≤ c ∧ c ≤ 5)) = 0 → Run fam0 none cd_X5_liquidate ER ET 10 0 [some (vR 38 0), some (vI c), some (vI (bi (0 ≤ c ∧ c ≤ 5))), none, none, none, none] [vR 38 0] μ)
  refine ⟨fun c2 => ?_, fun c2 => ?_⟩
  · replace c2 := (bi_n0.mp c2)
    refine run_k 3 ?_
    show ∃ σ : Mm, cl_X5_isCalled.2.2.1 σ [vR 38 0, vI c] μ ∧ (∀ ov μ', cl_X5_isCalled.2.2.2.1 σ [vR 38 0, vI c] μ ov μ' → Run fam0 none cd_X5_liquidate ER ET 19 0 [some (vR 38 0), some (vI c), some (vI (bi (0 ≤ c ∧ c ≤ 5))), none, none, none, none] (ov.toList ++ [vR 38 0]) μ') ∧ ∀ kx, cl_X5_isCalled.2.2.2.2 σ [vR 38 0, vI c] μ kx → thr cd_X5_liquidate ET (Run fam0 none cd_X5_liquidate ER ET) 16 0 [some (vR 38 0), some (vI c), some (vI (bi (0 ≤ c ∧ c ≤ 5))), none, none, none, none] μ kx
    refine ⟨μ, ⟨rfl, show (0 ≤ c ∧ c ≤ 5) from by omega⟩, fun ov μ' hq => ?_, fun k hk => hk.elim⟩
    obtain ⟨hov, hmu⟩ : ov = some (vI (calledF μ c)) ∧ μ' = μ := hq
    rw [hov, hmu]
    show Run fam0 none cd_X5_liquidate ER ET 19 0 [some (vR 38 0), some (vI c), some (vI (bi (0 ≤ c ∧ c ≤ 5))), none, none, none, none] [vI (calledF μ c), vR 38 0] μ
    refine run_k 1 ?_
    show ((calledF μ c) ≠ 0 → Run fam0 none cd_X5_liquidate ER ET 26 0 [some (vR 38 0), some (vI c), some (vI (bi (0 ≤ c ∧ c ≤ 5))), none, none, none, none] [vR 38 0] μ) ∧ ((calledF μ c) = 0 → Run fam0 none cd_X5_liquidate ER ET 22 0 [some (vR 38 0), some (vI c), some (vI (bi (0 ≤ c ∧ c ≤ 5))), none, none, none, none] [vR 38 0] μ)
    refine ⟨fun c4 => ?_, fun c4 => ?_⟩
    · refine run_k 2 ?_
      show ∃ σ : Mm, cl_X5_refused.2.2.1 σ [vR 38 0, vI 0] μ ∧ (∀ ov μ', cl_X5_refused.2.2.2.1 σ [vR 38 0, vI 0] μ ov μ' → Run fam0 none cd_X5_liquidate ER ET 30 0 [some (vR 38 0), some (vI c), some (vI (bi (0 ≤ c ∧ c ≤ 5))), none, none, none, none] (ov.toList ++ []) μ') ∧ ∀ kx, cl_X5_refused.2.2.2.2 σ [vR 38 0, vI 0] μ kx → thr cd_X5_liquidate ET (Run fam0 none cd_X5_liquidate ER ET) 27 0 [some (vR 38 0), some (vI c), some (vI (bi (0 ≤ c ∧ c ≤ 5))), none, none, none, none] μ kx
      refine ⟨μ, ⟨rfl, show True from True.intro⟩, fun ov μ' hq => ?_, fun k hk => hk.elim⟩
      obtain ⟨hov, hmu⟩ : ov = some (vI 0) ∧ μ' = st μ 38 0 0 0 := hq
      rw [hov, hmu]
      show Run fam0 none cd_X5_liquidate ER ET 30 0 [some (vR 38 0), some (vI c), some (vI (bi (0 ≤ c ∧ c ≤ 5))), none, none, none, none] [vI 0] (st μ 38 0 0 0)
      refine run_k 1 ?_
      show (0 = 0 → Run fam0 none cd_X5_liquidate ER ET 35 0 [some (vR 38 0), some (vI c), some (vI (bi (0 ≤ c ∧ c ≤ 5))), none, none, none, none] [] (st μ 38 0 0 0)) ∧ (0 ≠ 0 → Run fam0 none cd_X5_liquidate ER ET 33 0 [some (vR 38 0), some (vI c), some (vI (bi (0 ≤ c ∧ c ≤ 5))), none, none, none, none] [] (st μ 38 0 0 0))
      refine ⟨fun c6 => ?_, fun c6 => absurd c6 (by decide)⟩
      refine run_k 4 ?_
      show Run fam0 none cd_X5_liquidate ER ET 40 0 [some (vR 38 0), some (vI c), some (vI (bi (0 ≤ c ∧ c ≤ 5))), some (vI 0), some (vI 1), none, none] [] (st μ 38 0 0 0)
      have lp40 : ∀ (fz : Nat) (f : Nat) (M : Mm) (n go : Int), f + go.toNat < fz → (((go = 1 ∧ liqL c f M n = liqF μ c) ∨ (go = 0 ∧ (M, n) = liqF μ c)) ∧ (0 ≤ n ∧ n + (f : Int) ≤ 4) ∧ nzF M c ≤ (f : Int) ∧ Wk M) → Run fam0 none cd_X5_liquidate ER ET 40 0 [some (vR 38 0), some (vI c), none, some (vI n), some (vI go), none, none] [] M := by
        intro fz
        induction fz with
        | zero => intro f M n go hf; omega
        | succ fz ih40 =>
          intro f M n go hf hI
          obtain ⟨hgo, hnf, hnz, hWM⟩ := hI
          refine run_k 2 ?_
          show (go = 0 → Run fam0 none cd_X5_liquidate ER ET 135 0 [some (vR 38 0), some (vI c), none, some (vI n), some (vI go), none, none] [] M) ∧ (go ≠ 0 → Run fam0 none cd_X5_liquidate ER ET 45 0 [some (vR 38 0), some (vI c), none, some (vI n), some (vI go), none, none] [] M)
          refine ⟨fun c8 => ?_, fun c8 => ?_⟩
          · have hres : (M, n) = liqF μ c := by
              rcases hgo with q | q
              · exact absurd q.1 (by omega)
              · exact q.2
            refine run_k 2 ?_
            show ER (some (vI n)) M
            refine hER _ _ ⟨fun h => ?_, fun h => ?_, fun h => ?_⟩ <;> first | (exfalso; omega) | exact ⟨by rw [← hres], by rw [← hres]⟩ | exact ⟨rfl, rfl⟩
          · have hgo2 : liqL c f M n = liqF μ c := by
              rcases hgo with q | q
              · exact q.2
              · exact absurd q.1 (by omega)
            have hgo1 : go = 1 := by
              rcases hgo with q | q
              · exact q.1
              · exact absurd q.1 (by omega)
            refine run_k 4 ?_
            show Run fam0 none cd_X5_liquidate ER ET 51 0 [some (vR 38 0), some (vI c), none, some (vI n), some (vI go), some (vI 0), some (vI 1)] [] M
            have lp51 : ∀ (fz : Nat) (k : Nat) (x y : Int), (3 - k) < fz → (y = (k : Int) + 1 ∧ k ≤ 3 ∧ x = btL M c k) → Run fam0 none cd_X5_liquidate ER ET 51 0 [some (vR 38 0), some (vI c), none, some (vI n), some (vI go), some (vI x), some (vI y)] [] M := by
              intro fz
              induction fz with
              | zero => intro k x y hf; omega
              | succ fz ih51 =>
                intro k x y hf hI
                obtain ⟨hy, hk1, hx2⟩ := hI
                have hxr := btL_rng M c k
                rw [← hx2] at hxr
                refine run_k 3 ?_
                show (4 ≤ y → Run fam0 none cd_X5_liquidate ER ET 90 0 [some (vR 38 0), some (vI c), none, some (vI n), some (vI go), some (vI x), some (vI y)] [] M) ∧ (y < 4 → Run fam0 none cd_X5_liquidate ER ET 57 0 [some (vR 38 0), some (vI c), none, some (vI n), some (vI go), some (vI x), some (vI y)] [] M)
                refine ⟨fun c11 => ?_, fun c11 => ?_⟩
                · have hb3 : x = btL M c 3 := by rw [hx2, show k = 3 by omega]
                  refine run_k 4 ?_
                  show ∃ σ : Mm, cl_X5_worth.2.2.1 σ [vR 38 0, vI c, vI x] M ∧ (∀ ov μ', cl_X5_worth.2.2.2.1 σ [vR 38 0, vI c, vI x] M ov μ' → Run fam0 none cd_X5_liquidate ER ET 97 0 [some (vR 38 0), some (vI c), none, some (vI n), some (vI go), some (vI x), some (vI y)] (ov.toList ++ []) μ') ∧ ∀ kx, cl_X5_worth.2.2.2.2 σ [vR 38 0, vI c, vI x] M kx → thr cd_X5_liquidate ET (Run fam0 none cd_X5_liquidate ER ET) 94 0 [some (vR 38 0), some (vI c), none, some (vI n), some (vI go), some (vI x), some (vI y)] M kx
                  refine ⟨μ, ⟨rfl, show (0 ≤ c ∧ c ≤ 5) ∧ (0 ≤ x ∧ x ≤ 3) from ⟨by omega, by omega⟩⟩, fun ov μ' hq => ?_, fun k hk => hk.elim⟩
                  obtain ⟨hov, hmu⟩ : ov = some (vL (worthF M c x)) ∧ μ' = M := hq
                  rw [hov, hmu]
                  show Run fam0 none cd_X5_liquidate ER ET 97 0 [some (vR 38 0), some (vI c), none, some (vI n), some (vI go), some (vI x), some (vI y)] [vL (worthF M c x)] M
                  refine run_k 3 ?_
                  show ((cmpL (worthF M c x) 0) ≤ 0 → Run fam0 none cd_X5_liquidate ER ET 114 0 [some (vR 38 0), some (vI c), none, some (vI n), some (vI go), some (vI x), some (vI y)] [] M) ∧ (0 < (cmpL (worthF M c x) 0) → Run fam0 none cd_X5_liquidate ER ET 102 0 [some (vR 38 0), some (vI c), none, some (vI n), some (vI go), some (vI x), some (vI y)] [] M)
                  refine ⟨fun c13 => ?_, fun c13 => ?_⟩
                  · replace c13 := (show ¬ _ from fun q => (Int.not_lt.mpr c13) (cmpL_p.mpr q))
                    refine run_k 4 ?_
                    show (0 = 0 → Run fam0 none cd_X5_liquidate ER ET 132 0 [some (vR 38 0), some (vI c), none, some (vI n), some (vI 0), some (vI x), some (vI y)] [] M) ∧ (0 ≠ 0 → Run fam0 none cd_X5_liquidate ER ET 122 0 [some (vR 38 0), some (vI c), none, some (vI n), some (vI 0), some (vI x), some (vI y)] [] M)
                    refine ⟨fun c14 => ?_, fun c14 => absurd c14 (by decide)⟩
                    refine run_k 1 ?_
                    show Run fam0 none cd_X5_liquidate ER ET 40 0 [some (vR 38 0), some (vI c), none, some (vI n), some (vI 0), some (vI x), some (vI y)] [] M
                    refine run_w (L' := [some (vR 38 0), some (vI c), none, some (vI n), some (vI 0), none, none]) ⟨rfl, rfl, rfl, rfl, True.intro⟩ ?_
                    exact ih40 f M n 0 (by omega) (⟨Or.inr ⟨rfl, by rw [← hgo2]; exact (liqL_n (by rw [← hb3]; omega)).symm⟩, by omega, by omega, hWM⟩)
                  · replace c13 := cmpL_p.mp c13
                    have hpn := worth_ne (M := M) (c := c) (s := x) (by omega)
                    have hnp := nz_pos (M := M) (c := c) (b := x) (by omega) hpn
                    have hnc := nz_close hWM (c := c) (b := x) (by omega) (by omega) hpn
                    refine run_k 3 ?_
                    show ∃ σ : Mm, cl_X5_isCalled.2.2.1 σ [vR 38 0, vI c] M ∧ (∀ ov μ', cl_X5_isCalled.2.2.2.1 σ [vR 38 0, vI c] M ov μ' → Run fam0 none cd_X5_liquidate ER ET 107 0 [some (vR 38 0), some (vI c), none, some (vI n), some (vI go), some (vI x), some (vI y)] (ov.toList ++ []) μ') ∧ ∀ kx, cl_X5_isCalled.2.2.2.2 σ [vR 38 0, vI c] M kx → thr cd_X5_liquidate ET (Run fam0 none cd_X5_liquidate ER ET) 104 0 [some (vR 38 0), some (vI c), none, some (vI n), some (vI go), some (vI x), some (vI y)] M kx
                    refine ⟨μ, ⟨rfl, show (0 ≤ c ∧ c ≤ 5) from by omega⟩, fun ov μ' hq => ?_, fun k hk => hk.elim⟩
                    obtain ⟨hov, hmu⟩ : ov = some (vI (calledF M c)) ∧ μ' = M := hq
                    rw [hov, hmu]
                    show Run fam0 none cd_X5_liquidate ER ET 107 0 [some (vR 38 0), some (vI c), none, some (vI n), some (vI go), some (vI x), some (vI y)] [vI (calledF M c)] M
                    refine run_k 1 ?_
                    show ((calledF M c) = 0 → Run fam0 none cd_X5_liquidate ER ET 114 0 [some (vR 38 0), some (vI c), none, some (vI n), some (vI go), some (vI x), some (vI y)] [] M) ∧ ((calledF M c) ≠ 0 → Run fam0 none cd_X5_liquidate ER ET 110 0 [some (vR 38 0), some (vI c), none, some (vI n), some (vI go), some (vI x), some (vI y)] [] M)
                    refine ⟨fun c17 => ?_, fun c17 => ?_⟩
                    · refine run_k 4 ?_
                      show (0 = 0 → Run fam0 none cd_X5_liquidate ER ET 132 0 [some (vR 38 0), some (vI c), none, some (vI n), some (vI 0), some (vI x), some (vI y)] [] M) ∧ (0 ≠ 0 → Run fam0 none cd_X5_liquidate ER ET 122 0 [some (vR 38 0), some (vI c), none, some (vI n), some (vI 0), some (vI x), some (vI y)] [] M)
                      refine ⟨fun c18 => ?_, fun c18 => absurd c18 (by decide)⟩
                      refine run_k 1 ?_
                      show Run fam0 none cd_X5_liquidate ER ET 40 0 [some (vR 38 0), some (vI c), none, some (vI n), some (vI 0), some (vI x), some (vI y)] [] M
                      refine run_w (L' := [some (vR 38 0), some (vI c), none, some (vI n), some (vI 0), none, none]) ⟨rfl, rfl, rfl, rfl, True.intro⟩ ?_
                      exact ih40 f M n 0 (by omega) (⟨Or.inr ⟨rfl, by rw [← hgo2]; exact (liqL_n (by rw [← hb3]; omega)).symm⟩, by omega, by omega, hWM⟩)
                    · obtain ⟨f', hf'⟩ : ∃ f', f = f' + 1 := ⟨f - 1, by omega⟩
                      subst hf'
                      refine run_k 5 ?_
                      show (1 = 0 → Run fam0 none cd_X5_liquidate ER ET 132 0 [some (vR 38 0), some (vI c), none, some (vI n), some (vI 1), some (vI x), some (vI y)] [] M) ∧ (1 ≠ 0 → Run fam0 none cd_X5_liquidate ER ET 122 0 [some (vR 38 0), some (vI c), none, some (vI n), some (vI 1), some (vI x), some (vI y)] [] M)
                      refine ⟨fun c20 => absurd c20 (by decide), fun c20 => ?_⟩
                      refine run_k 4 ?_
                      show ∃ σ : Mm, cl_X5_closes.2.2.1 σ [vR 38 0, vI c, vI x] M ∧ (∀ ov μ', cl_X5_closes.2.2.2.1 σ [vR 38 0, vI c, vI x] M ov μ' → Run fam0 none cd_X5_liquidate ER ET 129 0 [some (vR 38 0), some (vI c), none, some (vI n), some (vI 1), some (vI x), some (vI y)] (ov.toList ++ []) μ') ∧ ∀ kx, cl_X5_closes.2.2.2.2 σ [vR 38 0, vI c, vI x] M kx → thr cd_X5_liquidate ET (Run fam0 none cd_X5_liquidate ER ET) 126 0 [some (vR 38 0), some (vI c), none, some (vI n), some (vI 1), some (vI x), some (vI y)] M kx
                      refine ⟨μ, ⟨rfl, show Wk M ∧ (0 ≤ c ∧ c ≤ 5) ∧ (0 ≤ x ∧ x ≤ 3) from ⟨(by assumption), by omega, by omega⟩⟩, fun ov μ' hq => ?_, fun k hk => hk.elim⟩
                      obtain ⟨hov, hmu⟩ : ov = none ∧ μ' = closeF M c x := hq
                      rw [hov, hmu]
                      show Run fam0 none cd_X5_liquidate ER ET 129 0 [some (vR 38 0), some (vI c), none, some (vI n), some (vI 1), some (vI x), some (vI y)] [] (closeF M c x)
                      refine run_k 2 ?_
                      show Run fam0 none cd_X5_liquidate ER ET 40 0 [some (vR 38 0), some (vI c), none, some (vI (w32 (n + 1))), some (vI 1), some (vI x), some (vI y)] [] (closeF M c x)
                      rw [show w32 (n + 1) = n + 1 from w32_id (by simp only [in32]; omega)]
                      refine run_w (L' := [some (vR 38 0), some (vI c), none, some (vI (n + 1)), some (vI 1), none, none]) ⟨rfl, rfl, rfl, rfl, True.intro⟩ ?_
                      exact ih40 f' (closeF M c x) (n + 1) 1 (by omega) (⟨Or.inl ⟨rfl, by rw [← hgo2, liqL, if_pos (by rw [← hb3]; omega), ← hb3]⟩, by omega, by omega, closeF_ok hWM (by omega) (by omega)⟩)
                · refine run_k 4 ?_
                  show ∃ σ : Mm, cl_X5_worth.2.2.1 σ [vR 38 0, vI c, vI y] M ∧ (∀ ov μ', cl_X5_worth.2.2.2.1 σ [vR 38 0, vI c, vI y] M ov μ' → Run fam0 none cd_X5_liquidate ER ET 64 0 [some (vR 38 0), some (vI c), none, some (vI n), some (vI go), some (vI x), some (vI y)] (ov.toList ++ []) μ') ∧ ∀ kx, cl_X5_worth.2.2.2.2 σ [vR 38 0, vI c, vI y] M kx → thr cd_X5_liquidate ET (Run fam0 none cd_X5_liquidate ER ET) 61 0 [some (vR 38 0), some (vI c), none, some (vI n), some (vI go), some (vI x), some (vI y)] M kx
                  refine ⟨μ, ⟨rfl, show (0 ≤ c ∧ c ≤ 5) ∧ (0 ≤ y ∧ y ≤ 3) from ⟨by omega, by omega⟩⟩, fun ov μ' hq => ?_, fun k hk => hk.elim⟩
                  obtain ⟨hov, hmu⟩ : ov = some (vL (worthF M c y)) ∧ μ' = M := hq
                  rw [hov, hmu]
                  show Run fam0 none cd_X5_liquidate ER ET 64 0 [some (vR 38 0), some (vI c), none, some (vI n), some (vI go), some (vI x), some (vI y)] [vL (worthF M c y)] M
                  refine run_k 4 ?_
                  show ∃ σ : Mm, cl_X5_worth.2.2.1 σ [vR 38 0, vI c, vI x] M ∧ (∀ ov μ', cl_X5_worth.2.2.2.1 σ [vR 38 0, vI c, vI x] M ov μ' → Run fam0 none cd_X5_liquidate ER ET 71 0 [some (vR 38 0), some (vI c), none, some (vI n), some (vI go), some (vI x), some (vI y)] (ov.toList ++ [vL (worthF M c y)]) μ') ∧ ∀ kx, cl_X5_worth.2.2.2.2 σ [vR 38 0, vI c, vI x] M kx → thr cd_X5_liquidate ET (Run fam0 none cd_X5_liquidate ER ET) 68 0 [some (vR 38 0), some (vI c), none, some (vI n), some (vI go), some (vI x), some (vI y)] M kx
                  refine ⟨μ, ⟨rfl, show (0 ≤ c ∧ c ≤ 5) ∧ (0 ≤ x ∧ x ≤ 3) from ⟨by omega, by omega⟩⟩, fun ov μ' hq => ?_, fun k hk => hk.elim⟩
                  obtain ⟨hov, hmu⟩ : ov = some (vL (worthF M c x)) ∧ μ' = M := hq
                  rw [hov, hmu]
                  show Run fam0 none cd_X5_liquidate ER ET 71 0 [some (vR 38 0), some (vI c), none, some (vI n), some (vI go), some (vI x), some (vI y)] [vL (worthF M c x), vL (worthF M c y)] M
                  refine run_k 2 ?_
                  show ((cmpL (worthF M c y) (worthF M c x)) ≤ 0 → Run fam0 none cd_X5_liquidate ER ET 80 0 [some (vR 38 0), some (vI c), none, some (vI n), some (vI go), some (vI x), some (vI y)] [] M) ∧ (0 < (cmpL (worthF M c y) (worthF M c x)) → Run fam0 none cd_X5_liquidate ER ET 75 0 [some (vR 38 0), some (vI c), none, some (vI n), some (vI go), some (vI x), some (vI y)] [] M)
                  refine ⟨fun c25 => ?_, fun c25 => ?_⟩
                  · replace c25 := (show ¬ _ from fun q => (Int.not_lt.mpr c25) (cmpL_p.mpr q))
                    refine run_k 4 ?_
                    show Run fam0 none cd_X5_liquidate ER ET 51 0 [some (vR 38 0), some (vI c), none, some (vI n), some (vI go), some (vI x), some (vI (w32 (y + 1)))] [] M
                    rw [show w32 (y + 1) = y + 1 from w32_id (by simp only [in32]; omega)]
                    exact ih51 (k + 1) x (y + 1) (by omega) (⟨by omega, by omega, by rw [btL, ← hx2, ← hy]; first | rw [if_pos (by omega)] | rw [if_neg (by omega)]⟩)
                  · replace c25 := cmpL_p.mp c25
                    refine run_k 5 ?_
                    show Run fam0 none cd_X5_liquidate ER ET 51 0 [some (vR 38 0), some (vI c), none, some (vI n), some (vI go), some (vI y), some (vI (w32 (y + 1)))] [] M
                    rw [show w32 (y + 1) = y + 1 from w32_id (by simp only [in32]; omega)]
                    exact ih51 (k + 1) y (y + 1) (by omega) (⟨by omega, by omega, by rw [btL, ← hx2, ← hy]; first | rw [if_pos (by omega)] | rw [if_neg (by omega)]⟩)
            exact lp51 _ 0 0 1 (Nat.lt_succ_self _) (⟨by omega, by omega, rfl⟩)
      refine run_w (L' := [some (vR 38 0), some (vI c), none, some (vI 0), some (vI 1), none, none]) ⟨rfl, rfl, rfl, rfl, True.intro⟩ ?_
      exact lp40 _ 4 (st μ 38 0 0 0) 0 1 (Nat.lt_succ_self _) (⟨Or.inl ⟨rfl, rfl⟩, by omega, by have h0 := nz1_rng (st μ 38 0 0 0) (4 * c); have h1 := nz1_rng (st μ 38 0 0 0) (4 * c + 1); have h2 := nz1_rng (st μ 38 0 0 0) (4 * c + 2); have h3 := nz1_rng (st μ 38 0 0 0) (4 * c + 3); unfold nzF; omega, hW0⟩)
    · refine run_k 3 ?_
      show ∃ σ : Mm, cl_X5_refused.2.2.1 σ [vR 38 0, vI 2] μ ∧ (∀ ov μ', cl_X5_refused.2.2.2.1 σ [vR 38 0, vI 2] μ ov μ' → Run fam0 none cd_X5_liquidate ER ET 30 0 [some (vR 38 0), some (vI c), some (vI (bi (0 ≤ c ∧ c ≤ 5))), none, none, none, none] (ov.toList ++ []) μ') ∧ ∀ kx, cl_X5_refused.2.2.2.2 σ [vR 38 0, vI 2] μ kx → thr cd_X5_liquidate ET (Run fam0 none cd_X5_liquidate ER ET) 27 0 [some (vR 38 0), some (vI c), some (vI (bi (0 ≤ c ∧ c ≤ 5))), none, none, none, none] μ kx
      refine ⟨μ, ⟨rfl, show True from True.intro⟩, fun ov μ' hq => ?_, fun k hk => hk.elim⟩
      obtain ⟨hov, hmu⟩ : ov = some (vI 1) ∧ μ' = st μ 38 0 0 2 := hq
      rw [hov, hmu]
      show Run fam0 none cd_X5_liquidate ER ET 30 0 [some (vR 38 0), some (vI c), some (vI (bi (0 ≤ c ∧ c ≤ 5))), none, none, none, none] [vI 1] (st μ 38 0 0 2)
      refine run_k 1 ?_
      show (1 = 0 → Run fam0 none cd_X5_liquidate ER ET 35 0 [some (vR 38 0), some (vI c), some (vI (bi (0 ≤ c ∧ c ≤ 5))), none, none, none, none] [] (st μ 38 0 0 2)) ∧ (1 ≠ 0 → Run fam0 none cd_X5_liquidate ER ET 33 0 [some (vR 38 0), some (vI c), some (vI (bi (0 ≤ c ∧ c ≤ 5))), none, none, none, none] [] (st μ 38 0 0 2))
      refine ⟨fun c29 => absurd c29 (by decide), fun c29 => ?_⟩
      refine run_k 2 ?_
      show ER (some (vI 0)) (st μ 38 0 0 2)
      refine hER _ _ ⟨fun h => ?_, fun h => ?_, fun h => ?_⟩ <;> first | (exfalso; omega) | exact ⟨by rw [← hres], by rw [← hres]⟩ | exact ⟨rfl, rfl⟩
  · replace c2 := (bi_e0.mp c2)
    refine run_k 3 ?_
    show ∃ σ : Mm, cl_X5_refused.2.2.1 σ [vR 38 0, vI 1] μ ∧ (∀ ov μ', cl_X5_refused.2.2.2.1 σ [vR 38 0, vI 1] μ ov μ' → Run fam0 none cd_X5_liquidate ER ET 30 0 [some (vR 38 0), some (vI c), some (vI (bi (0 ≤ c ∧ c ≤ 5))), none, none, none, none] (ov.toList ++ []) μ') ∧ ∀ kx, cl_X5_refused.2.2.2.2 σ [vR 38 0, vI 1] μ kx → thr cd_X5_liquidate ET (Run fam0 none cd_X5_liquidate ER ET) 27 0 [some (vR 38 0), some (vI c), some (vI (bi (0 ≤ c ∧ c ≤ 5))), none, none, none, none] μ kx
    refine ⟨μ, ⟨rfl, show True from True.intro⟩, fun ov μ' hq => ?_, fun k hk => hk.elim⟩
    obtain ⟨hov, hmu⟩ : ov = some (vI 1) ∧ μ' = st μ 38 0 0 1 := hq
    rw [hov, hmu]
    show Run fam0 none cd_X5_liquidate ER ET 30 0 [some (vR 38 0), some (vI c), some (vI (bi (0 ≤ c ∧ c ≤ 5))), none, none, none, none] [vI 1] (st μ 38 0 0 1)
    refine run_k 1 ?_
    show (1 = 0 → Run fam0 none cd_X5_liquidate ER ET 35 0 [some (vR 38 0), some (vI c), some (vI (bi (0 ≤ c ∧ c ≤ 5))), none, none, none, none] [] (st μ 38 0 0 1)) ∧ (1 ≠ 0 → Run fam0 none cd_X5_liquidate ER ET 33 0 [some (vR 38 0), some (vI c), some (vI (bi (0 ≤ c ∧ c ≤ 5))), none, none, none, none] [] (st μ 38 0 0 1))
    refine ⟨fun c32 => absurd c32 (by decide), fun c32 => ?_⟩
    refine run_k 2 ?_
    show ER (some (vI 0)) (st μ 38 0 0 1)
    refine hER _ _ ⟨fun h => ?_, fun h => ?_, fun h => ?_⟩ <;> first | (exfalso; omega) | exact ⟨by rw [← hres], by rw [← hres]⟩ | exact ⟨rfl, rfl⟩
set_option maxRecDepth 20000 in
theorem con_X5_liquidate (l : Launch) (htr : l.stackTraces = false) (σ : Mm) : CON fam0 63 l yX5_liquidate (Cond.code yX5_liquidate cX5_liquidate 7 (some .int) :: wm) 7 173 0 (cl_X5_liquidate.2.2.1 σ) (cl_X5_liquidate.2.2.2.1 σ) (cl_X5_liquidate.2.2.2.2 σ) :=
  con_of (cd := cd_X5_liquidate) (own := RX5) (rk := 1) (sc_of htr (by decide) k_X5_liquidate_ok (by decide +kernel) co_X5_ok fl_X5_ok (all_cons ⟨RX5, yX5_isCalled, cX5_isCalled, 2, (some .boolean), 2, 52, 1, con_X5_isCalled l htr, rfl, vw_X5_189, ⟨rfl, by decide, by decide, by decide +kernel⟩, ⟨by decide, by decide⟩, fun σ as μ h => ⟨38, 0, _, h.1, rfl, TX5, 31, rfl⟩⟩ (all_cons ⟨RX5, yX5_refused, cX5_refused, 2, (some .boolean), 0, 0, 1, con_X5_refused l htr, rfl, vw_X5_127, ⟨rfl, by decide, by decide, by decide +kernel⟩, ⟨by decide, by decide⟩, fun σ as μ h => ⟨38, 0, _, h.1, rfl, TX5, 31, rfl⟩⟩ (all_cons ⟨RX5, yX5_worth, cX5_worth, 5, (some .long), 0, 0, 2, con_X5_worth l htr, rfl, vw_X5_130, ⟨rfl, by decide, by decide, by decide +kernel⟩, ⟨by decide, by decide⟩, fun σ as μ h => ⟨38, 0, _, h.1, rfl, TX5, 31, rfl⟩⟩ (all_cons ⟨RX5, yX5_closes, cX5_closes, 4, none, 6, 150, 2, con_X5_closes l htr, rfl, vw_X5_192, ⟨rfl, by decide, by decide, by decide +kernel⟩, ⟨by decide, by decide⟩, fun σ as μ h => ⟨38, 0, _, h.1, rfl, TX5, 31, rfl⟩⟩ all_nil)))) (all_cons ⟨yX5_isClient, cX5_isClient, 1, (some .boolean), 1, 22, con_X5_isClient l htr, vw_X5_145, ⟨by decide, by decide, by decide +kernel⟩, ⟨by decide, by decide⟩⟩ all_nil) all_nil) rfl (by decide +kernel) rfl rfl rfl rfl (fun as μ hs => by rw [hs.1]; exact Nat.le_of_ble_eq_true rfl)
    (fun as μ hs hM hrg => by
      have hs1 := hs.1
      have hmem : ∀ v, v ∈ ([vR 38 0, vI (iaI as 1)] : List AV) → rg fam0 v := by rw [← hs1]; exact hrg
      have key := run_X5_liquidate (ER := cl_X5_liquidate.2.2.2.1 σ as μ) (ET := fun k μ' => cl_X5_liquidate.2.2.2.2 σ as μ k ∧ μ' = μ) σ μ (iaI as 1) hM (hmem (vI (iaI as 1)) (by simp)) hs.2 (fun ov μ' h => h)
      have e : entL as 7 = [some (vR 38 0), some (vI (iaI as 1)), none, none, none, none, none] := by rw [hs1]; rfl
      rw [e]; exact key)
