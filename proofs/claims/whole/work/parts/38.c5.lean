/-! ===== the class: borrowing, giving back -/
theorem sfx_cg {m m' : Mm} {s last : Int} {l : List Int} (h : srcs m' s = srcs m s) (hl : sfx m s last l) : sfx m' s last l := by
  unfold sfx at *
  rw [h]; exact hl
theorem ns_r {m : Mm} {s b w last y : Int} (h : NS m s b w last y) : y = -1 ∨ srcR y := by
  rcases h with ⟨h, -⟩ | ⟨⟨h, -⟩, -⟩
  · exact Or.inl h
  · exact Or.inr h
theorem ns_ne {m : Mm} {s b w last y : Int} (h : NS m s b w last y) (hy : y ≠ -1) : srcR y ∧ 0 < hasF m y b s w := by
  rcases h with ⟨h, -⟩ | ⟨⟨h, -, h2⟩, -⟩
  · exact absurd h hy
  · exact ⟨h, h2⟩
/-- the loop of what can be borrowed -/
def cbI (m : Mm) (s b : Int) (k last n : Int) : Prop := ∃ l, sfx m s last l ∧ (l.length : Int) ≤ 10 - k ∧ canL m b s l (1000 - m 38 0 11 - k) n = canF m b s
theorem cbI_0 (m : Mm) (s b : Int) : cbI m s b 0 (-1) 0 := ⟨srcs m s, Or.inl ⟨rfl, rfl⟩, by rw [srcs_len]; decide, by rw [Int.sub_zero]; rfl⟩
theorem cbI_e {m : Mm} {s b k last n : Int} (h : cbI m s b k last n) (he : 10 ≤ k ∨ 1000 - m 38 0 11 ≤ k) : n = canF m b s := by
  obtain ⟨l, h1, h2, h3⟩ := h
  rw [← h3]
  rcases he with q | q
  · have : l = [] := List.length_eq_zero_iff.mp (by omega)
    rw [this]; rfl
  · rw [canL_nc (by omega)]
theorem cbI_n {m : Mm} (hV : VB m) {s b k last n : Int} (hs : 0 ≤ s ∧ s ≤ 3) (h : cbI m s b k last n) (hn : NS m s b (-1) last (-1)) : n = canF m b s := by
  obtain ⟨l, h1, h2, h3⟩ := h
  have e := canL_sk hV hs (b := b) (l1 := l) (l2 := []) (left := 1000 - m 38 0 11 - k) (n := n) (fun x hx => ((sfx_mem h1).mp hx).1) (ns_no hn h1)
  rw [List.append_nil, h3] at e
  rw [e]; rfl
theorem cbI_y {m : Mm} (hV : VB m) {s b k last n y : Int} (hs : 0 ≤ s ∧ s ≤ 3) (h : cbI m s b k last n) (hn : NS m s b (-1) last y) (hy : y ≠ -1) (hk : k < 1000 - m 38 0 11) : cbI m s b (k + 1) y (n + thF m y s) := by
  obtain ⟨l, h1, h2, h3⟩ := h
  obtain ⟨hr, hh, l1, l2, e, hsf, hsk⟩ := ns_at hn hy h1
  subst e
  rw [canL_sk hV hs (fun x hx => ((sfx_mem h1).mp (by simp [hx])).1) hsk, canL, if_pos (by omega), if_pos hh] at h3
  simp only [List.length_append, List.length_cons] at h2
  refine ⟨l2, hsf, by omega, ?_⟩
  rw [(has_th hh).1, ← h3, show 1000 - m 38 0 11 - (k + 1) = 1000 - m 38 0 11 - k - 1 by omega]
/-- the loop of borrowing -/
def bwI (m0 m : Mm) (s b w n k last left : Int) : Prop := ∃ l, sfx m s last l ∧ (l.length : Int) ≤ 10 - k ∧ borL b s w l m left = borF m0 b s n w
theorem bwI_0 (m : Mm) (s b w n : Int) : bwI m m s b w n 0 (-1) n := ⟨srcs m s, Or.inl ⟨rfl, rfl⟩, by rw [srcs_len]; decide, rfl⟩
theorem bwI_e {m0 m : Mm} {s b w n k last left : Int} (h : bwI m0 m s b w n k last left) (he : 10 ≤ k ∨ left ≤ 0 ∨ 1000 ≤ m 38 0 11) : borF m0 b s n w = (m, left) := by
  obtain ⟨l, h1, h2, h3⟩ := h
  rw [← h3]
  rcases he with q | q
  · have : l = [] := List.length_eq_zero_iff.mp (by omega)
    rw [this]; rfl
  · rw [borL_nc (by omega)]
theorem bwI_n {m0 m : Mm} {s b w n k last left : Int} (h : bwI m0 m s b w n k last left) (hn : NS m s b w last (-1)) : borF m0 b s n w = (m, left) := by
  obtain ⟨l, h1, h2, h3⟩ := h
  have e := borL_sk (s := s) (rest := left) (l1 := l) (l2 := []) (ns_no hn h1)
  rw [List.append_nil, h3] at e
  rw [e]; rfl
theorem bwI_y {m0 m : Mm} {s b w n k last left y : Int} (h : bwI m0 m s b w n k last left) (hn : NS m s b w last y) (hy : y ≠ -1) (hl : 0 < left) (hm : m 38 0 11 < 1000) : bwI m0 (mkLn m s y b (minI left (thF m y s))) s b w n (k + 1) y (left - minI left (thF m y s)) := by
  obtain ⟨l, h1, h2, h3⟩ := h
  obtain ⟨hr, hh, l1, l2, e, hsf, hsk⟩ := ns_at hn hy h1
  subst e
  have hmi := minI_le (hasF m y b s w) left
  rw [borL_sk hsk, borL, if_pos ⟨hl, hm⟩, if_pos (by omega)] at h3
  simp only [List.length_append, List.length_cons] at h2
  refine ⟨l2, sfx_cg (mkLn_srcs _ _ _ _ _ _) hsf, by omega, ?_⟩
  rw [(has_th hh).1, minI_cm left]
  exact h3
/-! ### Primeborrow.borrowable -/
def cl_X4_borrowable : Cl := (3, 0, fun σ as μ => as = [vR 0 0, vI (iaI as 1), vI (iaI as 2)] ∧ (KI μ ∧ (0 ≤ (iaI as 1) ∧ (iaI as 1) ≤ 3) ∧ (0 ≤ (iaI as 2) ∧ (iaI as 2) ≤ 5)), fun σ as μ ov μ' => ov = some (vI (canF (al μ) (iaI as 2) (iaI as 1))) ∧ μ' = μ, fun σ as μ k => False)
def cd_X4_borrowable : Cd := mkcd k_X4_borrowable co_X4 fl_X4 [(271, cl_X4_nextSource), (274, cl_X4_there)] [] [] [] 6 1 0
set_option maxHeartbeats 4000000 in
set_option maxRecDepth 20000 in
theorem run_X4_borrowable {ER : Option AV → Mm → Prop} {ET : Nat → Mm → Prop} (σ μ : Mm) (s b : Int) (hM : MR fam0 μ) (h_s : in32 s) (h_b : in32 b) (hP : KI μ ∧ (0 ≤ s ∧ s ≤ 3) ∧ (0 ≤ b ∧ b ≤ 5)) (hER : ∀ ov μ', (ov = some (vI (canF (al μ) b s)) ∧ μ' = μ) → ER ov μ') : Run fam0 none cd_X4_borrowable ER ET 0 0 [some (vR 0 0), some (vI s), some (vI b), none, none, none] [] μ := by
  obtain ⟨hK, hs, hb⟩ := hP
  have hl0 : 0 ≤ μ 15 0 5 ∧ μ 15 0 5 ≤ 1000 := hK.1.1.1
  have hVB := hK.1
  refine run_k 6 ?_
  show Run fam0 none cd_X4_borrowable ER ET 8 0 [some (vR 0 0), some (vI s), some (vI b), some (vI 0), some (vI (-1)), some (vI 0)] [] μ
  have lp8 : ∀ (fz : Nat) (k n last : Int), (10 - k).toNat < fz → ((0 ≤ k ∧ k ≤ 10) ∧ cbI (al μ) s b k last n ∧ (0 ≤ n ∧ n ≤ 1000000 * k) ∧ (last = -1 ∨ srcR last)) → Run fam0 none cd_X4_borrowable ER ET 8 0 [some (vR 0 0), some (vI s), some (vI b), some (vI n), some (vI last), some (vI k)] [] μ := by
    intro fz
    induction fz with
    | zero => intro k n last hf; omega
    | succ fz ih8 =>
      intro k n last hf hI
      obtain ⟨hk, hcb, hn, hla⟩ := hI
      refine run_k 3 ?_
      show (10 ≤ k → Run fam0 none cd_X4_borrowable ER ET 67 0 [some (vR 0 0), some (vI s), some (vI b), some (vI n), some (vI last), some (vI k)] [] μ) ∧ (k < 10 → Run fam0 none cd_X4_borrowable ER ET 15 0 [some (vR 0 0), some (vI s), some (vI b), some (vI n), some (vI last), some (vI k)] [] μ)
      refine ⟨fun c2 => ?_, fun c2 => ?_⟩
      · refine run_k 2 ?_
        show ER (some (vI n)) μ
        refine hER _ _ ⟨congrArg (fun z => some (vI z)) ?_, rfl⟩
        first | exact cbI_e hcb (by first | exact Or.inl (by omega) | exact Or.inr (show 1000 - μ 15 0 5 ≤ k from by omega)) | exact cbI_n hVB hs hcb (by rw [show (-1 : Int) = y by omega]; first | exact hns | (rw [show y = (-1 : Int) by omega] at hns ⊢; exact hns))
      · refine run_k 7 ?_
        show ((w32 (1000 - (μ 15 0 5))) ≤ k → Run fam0 none cd_X4_borrowable ER ET 67 0 [some (vR 0 0), some (vI s), some (vI b), some (vI n), some (vI last), some (vI k)] [] μ) ∧ (k < (w32 (1000 - (μ 15 0 5))) → Run fam0 none cd_X4_borrowable ER ET 31 0 [some (vR 0 0), some (vI s), some (vI b), some (vI n), some (vI last), some (vI k)] [] μ)
        rw [show w32 (1000 - (μ 15 0 5)) = 1000 - (μ 15 0 5) from w32_id (by simp only [in32]; omega)]
        refine ⟨fun c4 => ?_, fun c4 => ?_⟩
        · refine run_k 2 ?_
          show ER (some (vI n)) μ
          refine hER _ _ ⟨congrArg (fun z => some (vI z)) ?_, rfl⟩
          first | exact cbI_e hcb (by first | exact Or.inl (by omega) | exact Or.inr (show 1000 - μ 15 0 5 ≤ k from by omega)) | exact cbI_n hVB hs hcb (by rw [show (-1 : Int) = y by omega]; first | exact hns | (rw [show y = (-1 : Int) by omega] at hns ⊢; exact hns))
        · refine run_k 6 ?_
          show ∃ σ : Mm, cl_X4_nextSource.2.2.1 σ [vR 0 0, vI s, vI b, vI (-1), vI last] μ ∧ (∀ ov μ', cl_X4_nextSource.2.2.2.1 σ [vR 0 0, vI s, vI b, vI (-1), vI last] μ ov μ' → Run fam0 none cd_X4_borrowable ER ET 40 0 [some (vR 0 0), some (vI s), some (vI b), some (vI n), some (vI last), some (vI k)] (ov.toList ++ []) μ') ∧ ∀ kx, cl_X4_nextSource.2.2.2.2 σ [vR 0 0, vI s, vI b, vI (-1), vI last] μ kx → thr cd_X4_borrowable ET (Run fam0 none cd_X4_borrowable ER ET) 37 0 [some (vR 0 0), some (vI s), some (vI b), some (vI n), some (vI last), some (vI k)] μ kx
          refine ⟨μ, ⟨rfl, show KI μ ∧ (0 ≤ s ∧ s ≤ 3) ∧ (0 ≤ b ∧ b ≤ 5) ∧ (last = -1 ∨ srcR last) from ⟨by assumption, by omega, by omega, by first | assumption | exact Or.inl rfl⟩⟩, fun ov μ' hq => ?_, fun k hk => hk.elim⟩
          obtain ⟨y, hov, hmu, hns⟩ : ∃ y, ov = some (vI y) ∧ μ' = μ ∧ NS (al μ) s b (-1) last y := hq
          rw [hov, hmu]
          clear hov hmu
          have hyr := ns_r hns
          have hyn := ns_ne hns
          show Run fam0 none cd_X4_borrowable ER ET 40 0 [some (vR 0 0), some (vI s), some (vI b), some (vI n), some (vI last), some (vI k)] [vI y] μ
          refine run_k 4 ?_
          show (y ≠ (-1) → Run fam0 none cd_X4_borrowable ER ET 51 0 [some (vR 0 0), some (vI s), some (vI b), some (vI n), some (vI y), some (vI k)] [] μ) ∧ (y = (-1) → Run fam0 none cd_X4_borrowable ER ET 48 0 [some (vR 0 0), some (vI s), some (vI b), some (vI n), some (vI y), some (vI k)] [] μ)
          refine ⟨fun c7 => ?_, fun c7 => ?_⟩
          · obtain ⟨hyr2, hyh⟩ := hyn (by omega)
            have htr := thF_rng hVB (x := y) hyr2 hs
            refine run_k 5 ?_
            show ∃ σ : Mm, cl_X4_there.2.2.1 σ [vR 0 0, vI y, vI s] μ ∧ (∀ ov μ', cl_X4_there.2.2.2.1 σ [vR 0 0, vI y, vI s] μ ov μ' → Run fam0 none cd_X4_borrowable ER ET 59 0 [some (vR 0 0), some (vI s), some (vI b), some (vI n), some (vI y), some (vI k)] (ov.toList ++ [vI n]) μ') ∧ ∀ kx, cl_X4_there.2.2.2.2 σ [vR 0 0, vI y, vI s] μ kx → thr cd_X4_borrowable ET (Run fam0 none cd_X4_borrowable ER ET) 56 0 [some (vR 0 0), some (vI s), some (vI b), some (vI n), some (vI y), some (vI k)] μ kx
            refine ⟨μ, ⟨rfl, show KI μ ∧ srcR y ∧ (0 ≤ s ∧ s ≤ 3) from ⟨by assumption, by assumption, by omega⟩⟩, fun ov μ' hq => ?_, fun k hk => hk.elim⟩
            obtain ⟨hov, hmu⟩ : ov = some (vI (thF (al μ) y s)) ∧ μ' = μ := hq
            rw [hov, hmu]
            show Run fam0 none cd_X4_borrowable ER ET 59 0 [some (vR 0 0), some (vI s), some (vI b), some (vI n), some (vI y), some (vI k)] [vI (thF (al μ) y s), vI n] μ
            refine run_k 4 ?_
            show Run fam0 none cd_X4_borrowable ER ET 8 0 [some (vR 0 0), some (vI s), some (vI b), some (vI (w32 (n + (thF (al μ) y s)))), some (vI y), some (vI (w32 (k + 1)))] [] μ
            rw [show w32 (n + (thF (al μ) y s)) = n + (thF (al μ) y s) from w32_id (by simp only [in32]; omega)]
            rw [show w32 (k + 1) = k + 1 from w32_id (by simp only [in32]; omega)]
            exact ih8 (k + 1) (n + (thF (al μ) y s)) y (by omega) (⟨by omega, cbI_y hVB hs hcb hns (by omega) (show k < 1000 - μ 15 0 5 by omega), by omega, hyr⟩)
          · refine run_k 3 ?_
            show ER (some (vI n)) μ
            refine hER _ _ ⟨congrArg (fun z => some (vI z)) ?_, rfl⟩
            first | exact cbI_e hcb (by first | exact Or.inl (by omega) | exact Or.inr (show 1000 - μ 15 0 5 ≤ k from by omega)) | exact cbI_n hVB hs hcb (by rw [show (-1 : Int) = y by omega]; first | exact hns | (rw [show y = (-1 : Int) by omega] at hns ⊢; exact hns))
  exact lp8 _ 0 0 (-1) (Nat.lt_succ_self _) (⟨by omega, cbI_0 _ _ _, by omega, Or.inl rfl⟩)
theorem vw_X4_274 : ∀ w ∈ ([.methodLink RX4 274 yX4_there, .instanceMethod yX4_there, .selects RX4 yX4_there yX4_there, .initialized RX4, .code yX4_there cX4_there 3 (some .int)] : List Cond), w ∈ wm := wm_ps _ [476, 478, 13, 50, 479] (by decide +kernel)
theorem vw_X4_271 : ∀ w ∈ ([.methodLink RX4 271 yX4_nextSource, .instanceMethod yX4_nextSource, .selects RX4 yX4_nextSource yX4_nextSource, .initialized RX4, .code yX4_nextSource cX4_nextSource 7 (some .int)] : List Cond), w ∈ wm := wm_ps _ [461, 463, 10, 50, 464] (by decide +kernel)
set_option maxRecDepth 20000 in
theorem con_X4_borrowable (l : Launch) (htr : l.stackTraces = false) (σ : Mm) : CON fam0 63 l yX4_borrowable (Cond.code yX4_borrowable cX4_borrowable 6 (some .int) :: wm) 2 51 0 (cl_X4_borrowable.2.2.1 σ) (cl_X4_borrowable.2.2.2.1 σ) (cl_X4_borrowable.2.2.2.2 σ) :=
  con_of (cd := cd_X4_borrowable) (own := RX4) (rk := 1) (sc_of htr (by decide) k_X4_borrowable_ok (by decide +kernel) co_X4_ok fl_X4_ok (all_cons ⟨RX4, yX4_nextSource, cX4_nextSource, 7, (some .int), 1, 25, 4, con_X4_nextSource l htr, rfl, vw_X4_271, ⟨rfl, by decide, by decide, by decide +kernel⟩, ⟨by decide, by decide⟩, fun σ as μ h => ⟨0, 0, _, h.1, rfl, TX4, 17, rfl⟩⟩ (all_cons ⟨RX4, yX4_there, cX4_there, 3, (some .int), 1, 23, 2, con_X4_there l htr, rfl, vw_X4_274, ⟨rfl, by decide, by decide, by decide +kernel⟩, ⟨by decide, by decide⟩, fun σ as μ h => ⟨0, 0, _, h.1, rfl, TX4, 17, rfl⟩⟩ all_nil)) all_nil all_nil) rfl (by decide +kernel) rfl rfl rfl rfl (fun as μ hs => by rw [hs.1]; exact Nat.le_of_ble_eq_true rfl)
    (fun as μ hs hM hrg => by
      have hs1 := hs.1
      have hmem : ∀ v, v ∈ ([vR 0 0, vI (iaI as 1), vI (iaI as 2)] : List AV) → rg fam0 v := by rw [← hs1]; exact hrg
      have key := run_X4_borrowable (ER := cl_X4_borrowable.2.2.2.1 σ as μ) (ET := fun k μ' => cl_X4_borrowable.2.2.2.2 σ as μ k ∧ μ' = μ) σ μ (iaI as 1) (iaI as 2) hM (hmem (vI (iaI as 1)) (by simp)) (hmem (vI (iaI as 2)) (by simp)) hs.2 (fun ov μ' h => h)
      have e : entL as 6 = [some (vR 0 0), some (vI (iaI as 1)), some (vI (iaI as 2)), none, none, none] := by rw [hs1]; rfl
      rw [e]; exact key)
/-! ### Primeborrow.borrow -/
def cl_X4_borrow : Cl := (5, 0, fun σ as μ => as = [vR 0 0, vI (iaI as 1), vI (iaI as 2), vI (iaI as 3), vI (iaI as 4)] ∧ (KI μ ∧ (0 ≤ (iaI as 1) ∧ (iaI as 1) ≤ 3) ∧ (0 ≤ (iaI as 2) ∧ (iaI as 2) ≤ 5) ∧ (0 ≤ (iaI as 4) ∧ (iaI as 4) ≤ 500)), fun σ as μ ov μ' => ov = some (vI ((iaI as 4) - (borF (al μ) (iaI as 2) (iaI as 1) (iaI as 4) (iaI as 3)).2)) ∧ al μ' = (borF (al μ) (iaI as 2) (iaI as 1) (iaI as 4) (iaI as 3)).1 ∧ KI μ' ∧ Fr μ μ', fun σ as μ k => False)
def cd_X4_borrow : Cd := mkcd k_X4_borrow co_X4 fl_X4 [(271, cl_X4_nextSource), (274, cl_X4_there), (277, cl_X4_lend)] [(258, cl_J9_min_7cf53)] [] [] 9 1 0
set_option maxHeartbeats 4000000 in
set_option maxRecDepth 20000 in
theorem run_X4_borrow {ER : Option AV → Mm → Prop} {ET : Nat → Mm → Prop} (σ μ : Mm) (s b w n : Int) (hM : MR fam0 μ) (h_s : in32 s) (h_b : in32 b) (h_w : in32 w) (h_n : in32 n) (hP : KI μ ∧ (0 ≤ s ∧ s ≤ 3) ∧ (0 ≤ b ∧ b ≤ 5) ∧ (0 ≤ n ∧ n ≤ 500)) (hER : ∀ ov μ', (ov = some (vI (n - (borF (al μ) b s n w).2)) ∧ al μ' = (borF (al μ) b s n w).1 ∧ KI μ' ∧ Fr μ μ') → ER ov μ') : Run fam0 none cd_X4_borrow ER ET 0 0 [some (vR 0 0), some (vI s), some (vI b), some (vI w), some (vI n), none, none, none, none] [] μ := by
  obtain ⟨hK0, hs, hb, hn⟩ := hP
  refine run_k 6 ?_
  show Run fam0 none cd_X4_borrow ER ET 10 0 [some (vR 0 0), some (vI s), some (vI b), some (vI w), some (vI n), some (vI n), some (vI (-1)), some (vI 0), none] [] μ
  have lp10 : ∀ (fz : Nat) (k left last : Int) (M : Mm), (10 - k).toNat < fz → ((0 ≤ k ∧ k ≤ 10) ∧ (0 ≤ left ∧ left ≤ n) ∧ bwI (al μ) (al M) s b w n k last left ∧ (last = -1 ∨ srcR last) ∧ KI M ∧ Fr μ M) → Run fam0 none cd_X4_borrow ER ET 10 0 [some (vR 0 0), some (vI s), some (vI b), some (vI w), some (vI n), some (vI left), some (vI last), some (vI k), none] [] M := by
    intro fz
    induction fz with
    | zero => intro k left last M hf; omega
    | succ fz ih10 =>
      intro k left last M hf hI
      obtain ⟨hk, hlf, hbw, hla, hK, hFr⟩ := hI
      have hl0 : 0 ≤ M 15 0 5 ∧ M 15 0 5 ≤ 1000 := hK.1.1.1
      refine run_k 3 ?_
      show (10 ≤ k → Run fam0 none cd_X4_borrow ER ET 92 0 [some (vR 0 0), some (vI s), some (vI b), some (vI w), some (vI n), some (vI left), some (vI last), some (vI k), none] [] M) ∧ (k < 10 → Run fam0 none cd_X4_borrow ER ET 17 0 [some (vR 0 0), some (vI s), some (vI b), some (vI w), some (vI n), some (vI left), some (vI last), some (vI k), none] [] M)
      refine ⟨fun c2 => ?_, fun c2 => ?_⟩
      · refine run_k 4 ?_
        show ER (some (vI (w32 (n - left)))) M
        rw [show w32 (n - left) = n - left from w32_id (by simp only [in32]; omega)]
        have hres : borF (al μ) b s n w = (al M, left) := by
          first | exact bwI_e hbw (by first | exact Or.inl (by omega) | exact Or.inr (Or.inl (by omega)) | exact Or.inr (Or.inr (show 1000 ≤ M 15 0 5 from by omega))) | exact bwI_n hbw (by rw [show y = (-1 : Int) by omega] at hns; exact hns)
        exact hER _ _ ⟨by rw [hres], by rw [hres], hK, hFr⟩
      · refine run_k 2 ?_
        show (left ≤ 0 → Run fam0 none cd_X4_borrow ER ET 92 0 [some (vR 0 0), some (vI s), some (vI b), some (vI w), some (vI n), some (vI left), some (vI last), some (vI k), none] [] M) ∧ (0 < left → Run fam0 none cd_X4_borrow ER ET 22 0 [some (vR 0 0), some (vI s), some (vI b), some (vI w), some (vI n), some (vI left), some (vI last), some (vI k), none] [] M)
        refine ⟨fun c4 => ?_, fun c4 => ?_⟩
        · refine run_k 4 ?_
          show ER (some (vI (w32 (n - left)))) M
          rw [show w32 (n - left) = n - left from w32_id (by simp only [in32]; omega)]
          have hres : borF (al μ) b s n w = (al M, left) := by
            first | exact bwI_e hbw (by first | exact Or.inl (by omega) | exact Or.inr (Or.inl (by omega)) | exact Or.inr (Or.inr (show 1000 ≤ M 15 0 5 from by omega))) | exact bwI_n hbw (by rw [show y = (-1 : Int) by omega] at hns; exact hns)
          exact hER _ _ ⟨by rw [hres], by rw [hres], hK, hFr⟩
        · 
          refine run_k 5 ?_
          show (1000 ≤ (M 15 0 5) → Run fam0 none cd_X4_borrow ER ET 92 0 [some (vR 0 0), some (vI s), some (vI b), some (vI w), some (vI n), some (vI left), some (vI last), some (vI k), none] [] M) ∧ ((M 15 0 5) < 1000 → Run fam0 none cd_X4_borrow ER ET 35 0 [some (vR 0 0), some (vI s), some (vI b), some (vI w), some (vI n), some (vI left), some (vI last), some (vI k), none] [] M)
          refine ⟨fun c6 => ?_, fun c6 => ?_⟩
          · refine run_k 4 ?_
            show ER (some (vI (w32 (n - left)))) M
            rw [show w32 (n - left) = n - left from w32_id (by simp only [in32]; omega)]
            have hres : borF (al μ) b s n w = (al M, left) := by
              first | exact bwI_e hbw (by first | exact Or.inl (by omega) | exact Or.inr (Or.inl (by omega)) | exact Or.inr (Or.inr (show 1000 ≤ M 15 0 5 from by omega))) | exact bwI_n hbw (by rw [show y = (-1 : Int) by omega] at hns; exact hns)
            exact hER _ _ ⟨by rw [hres], by rw [hres], hK, hFr⟩
          · refine run_k 6 ?_
            show ∃ σ : Mm, cl_X4_nextSource.2.2.1 σ [vR 0 0, vI s, vI b, vI w, vI last] M ∧ (∀ ov μ', cl_X4_nextSource.2.2.2.1 σ [vR 0 0, vI s, vI b, vI w, vI last] M ov μ' → Run fam0 none cd_X4_borrow ER ET 44 0 [some (vR 0 0), some (vI s), some (vI b), some (vI w), some (vI n), some (vI left), some (vI last), some (vI k), none] (ov.toList ++ []) μ') ∧ ∀ kx, cl_X4_nextSource.2.2.2.2 σ [vR 0 0, vI s, vI b, vI w, vI last] M kx → thr cd_X4_borrow ET (Run fam0 none cd_X4_borrow ER ET) 41 0 [some (vR 0 0), some (vI s), some (vI b), some (vI w), some (vI n), some (vI left), some (vI last), some (vI k), none] M kx
            refine ⟨μ, ⟨rfl, show KI M ∧ (0 ≤ s ∧ s ≤ 3) ∧ (0 ≤ b ∧ b ≤ 5) ∧ (last = -1 ∨ srcR last) from ⟨by assumption, by omega, by omega, by first | assumption | exact Or.inl rfl⟩⟩, fun ov μ' hq => ?_, fun k hk => hk.elim⟩
            obtain ⟨y, hov, hmu, hns⟩ : ∃ y, ov = some (vI y) ∧ μ' = M ∧ NS (al M) s b w last y := hq
            rw [hov, hmu]
            clear hov hmu
            have hyr := ns_r hns
            have hyn := ns_ne hns
            show Run fam0 none cd_X4_borrow ER ET 44 0 [some (vR 0 0), some (vI s), some (vI b), some (vI w), some (vI n), some (vI left), some (vI last), some (vI k), none] [vI y] M
            refine run_k 4 ?_
            show (y ≠ (-1) → Run fam0 none cd_X4_borrow ER ET 55 0 [some (vR 0 0), some (vI s), some (vI b), some (vI w), some (vI n), some (vI left), some (vI y), some (vI k), none] [] M) ∧ (y = (-1) → Run fam0 none cd_X4_borrow ER ET 52 0 [some (vR 0 0), some (vI s), some (vI b), some (vI w), some (vI n), some (vI left), some (vI y), some (vI k), none] [] M)
            refine ⟨fun c9 => ?_, fun c9 => ?_⟩
            · obtain ⟨hyr2, hyh⟩ := hyn (by omega)
              have htr := thF_rng hK.1 (x := y) hyr2 hs
              have hth := has_th hyh
              have hmi := minI_le left (thF (al M) y s)
              refine run_k 5 ?_
              show ∃ σ : Mm, cl_X4_there.2.2.1 σ [vR 0 0, vI y, vI s] M ∧ (∀ ov μ', cl_X4_there.2.2.2.1 σ [vR 0 0, vI y, vI s] M ov μ' → Run fam0 none cd_X4_borrow ER ET 64 0 [some (vR 0 0), some (vI s), some (vI b), some (vI w), some (vI n), some (vI left), some (vI y), some (vI k), none] (ov.toList ++ [vI left]) μ') ∧ ∀ kx, cl_X4_there.2.2.2.2 σ [vR 0 0, vI y, vI s] M kx → thr cd_X4_borrow ET (Run fam0 none cd_X4_borrow ER ET) 61 0 [some (vR 0 0), some (vI s), some (vI b), some (vI w), some (vI n), some (vI left), some (vI y), some (vI k), none] M kx
              refine ⟨μ, ⟨rfl, show KI M ∧ srcR y ∧ (0 ≤ s ∧ s ≤ 3) from ⟨by assumption, by assumption, by omega⟩⟩, fun ov μ' hq => ?_, fun k hk => hk.elim⟩
              obtain ⟨hov, hmu⟩ : ov = some (vI (thF (al M) y s)) ∧ μ' = M := hq
              rw [hov, hmu]
              show Run fam0 none cd_X4_borrow ER ET 64 0 [some (vR 0 0), some (vI s), some (vI b), some (vI w), some (vI n), some (vI left), some (vI y), some (vI k), none] [vI (thF (al M) y s), vI left] M
              refine run_k 1 ?_
              show ∃ σ : Mm, cl_J9_min_7cf53.2.2.1 σ [vI left, vI (thF (al M) y s)] M ∧ (∀ ov μ', cl_J9_min_7cf53.2.2.2.1 σ [vI left, vI (thF (al M) y s)] M ov μ' → Run fam0 none cd_X4_borrow ER ET 67 0 [some (vR 0 0), some (vI s), some (vI b), some (vI w), some (vI n), some (vI left), some (vI y), some (vI k), none] (ov.toList ++ []) μ') ∧ ∀ kx, cl_J9_min_7cf53.2.2.2.2 σ [vI left, vI (thF (al M) y s)] M kx → thr cd_X4_borrow ET (Run fam0 none cd_X4_borrow ER ET) 64 0 [some (vR 0 0), some (vI s), some (vI b), some (vI w), some (vI n), some (vI left), some (vI y), some (vI k), none] M kx
              refine ⟨μ, ⟨rfl, show True from True.intro⟩, fun ov μ' hq => ?_, fun k hk => hk.elim⟩
              obtain ⟨hov, hmu⟩ : ov = some (vI (minI left (thF (al M) y s))) ∧ μ' = M := hq
              rw [hov, hmu]
              show Run fam0 none cd_X4_borrow ER ET 67 0 [some (vR 0 0), some (vI s), some (vI b), some (vI w), some (vI n), some (vI left), some (vI y), some (vI k), none] [vI (minI left (thF (al M) y s))] M
              refine run_k 7 ?_
              show ∃ σ : Mm, cl_X4_lend.2.2.1 σ [vR 0 0, vI s, vI y, vI b, vI (minI left (thF (al M) y s))] M ∧ (∀ ov μ', cl_X4_lend.2.2.2.1 σ [vR 0 0, vI s, vI y, vI b, vI (minI left (thF (al M) y s))] M ov μ' → Run fam0 none cd_X4_borrow ER ET 79 0 [some (vR 0 0), some (vI s), some (vI b), some (vI w), some (vI n), some (vI left), some (vI y), some (vI k), some (vI (minI left (thF (al M) y s)))] (ov.toList ++ []) μ') ∧ ∀ kx, cl_X4_lend.2.2.2.2 σ [vR 0 0, vI s, vI y, vI b, vI (minI left (thF (al M) y s))] M kx → thr cd_X4_borrow ET (Run fam0 none cd_X4_borrow ER ET) 76 0 [some (vR 0 0), some (vI s), some (vI b), some (vI w), some (vI n), some (vI left), some (vI y), some (vI k), some (vI (minI left (thF (al M) y s)))] M kx
              refine ⟨μ, ⟨rfl, show KI M ∧ (0 ≤ s ∧ s ≤ 3) ∧ srcR y ∧ (0 ≤ b ∧ b ≤ 5) ∧ (1 ≤ (minI left (thF (al M) y s)) ∧ (minI left (thF (al M) y s)) ≤ 500) ∧ (minI left (thF (al M) y s)) ≤ thF (al M) y s ∧ M 15 0 5 < 1000 from ⟨by assumption, by omega, hyr2, by omega, by omega, by omega, by omega⟩⟩, fun ov μ' hq => ?_, fun k hk => hk.elim⟩
              obtain ⟨hov, halL, hKL, hFL⟩ : ov = none ∧ al μ' = mkLn (al M) s y b (minI left (thF (al M) y s)) ∧ KI μ' ∧ Fr M μ' := hq
              rw [hov]
              clear hov
              rename Mm => M1
              show Run fam0 none cd_X4_borrow ER ET 79 0 [some (vR 0 0), some (vI s), some (vI b), some (vI w), some (vI n), some (vI left), some (vI y), some (vI k), some (vI (minI left (thF (al M) y s)))] [] M1
              refine run_k 6 ?_
              show Run fam0 none cd_X4_borrow ER ET 10 0 [some (vR 0 0), some (vI s), some (vI b), some (vI w), some (vI n), some (vI (w32 (left - (minI left (thF (al M) y s))))), some (vI y), some (vI (w32 (k + 1))), some (vI (minI left (thF (al M) y s)))] [] M1
              rw [show w32 (left - (minI left (thF (al M) y s))) = left - (minI left (thF (al M) y s)) from w32_id (by simp only [in32]; omega)]
              rw [show w32 (k + 1) = k + 1 from w32_id (by simp only [in32]; omega)]
              refine run_w (L' := [some (vR 0 0), some (vI s), some (vI b), some (vI w), some (vI n), some (vI (left - (minI left (thF (al M) y s)))), some (vI y), some (vI (k + 1)), none]) ⟨rfl, rfl, rfl, rfl, rfl, rfl, rfl, rfl, True.intro⟩ ?_
              exact ih10 (k + 1) (left - (minI left (thF (al M) y s))) y M1 (by omega) (⟨by omega, by omega, by rw [halL]; exact bwI_y hbw hns (by omega) (by omega) (show M 15 0 5 < 1000 by omega), hyr, hKL, Fr_tr hFr hFL⟩)
            · refine run_k 5 ?_
              show ER (some (vI (w32 (n - left)))) M
              rw [show w32 (n - left) = n - left from w32_id (by simp only [in32]; omega)]
              have hres : borF (al μ) b s n w = (al M, left) := by
                first | exact bwI_e hbw (by first | exact Or.inl (by omega) | exact Or.inr (Or.inl (by omega)) | exact Or.inr (Or.inr (show 1000 ≤ M 15 0 5 from by omega))) | exact bwI_n hbw (by rw [show y = (-1 : Int) by omega] at hns; exact hns)
              exact hER _ _ ⟨by rw [hres], by rw [hres], hK, hFr⟩
  exact lp10 _ 0 n (-1) μ (Nat.lt_succ_self _) (⟨by omega, by omega, bwI_0 _ _ _ _ _, Or.inl rfl, hK0, Fr_rf _⟩)
theorem vw_X4_277 : ∀ w ∈ ([.methodLink RX4 277 yX4_lend, .instanceMethod yX4_lend, .selects RX4 yX4_lend yX4_lend, .initialized RX4, .code yX4_lend cX4_lend 5 none] : List Cond), w ∈ wm := wm_ps _ [480, 482, 14, 50, 483] (by decide +kernel)
theorem vw_X4_258 : ∀ w ∈ ([.methodLink RX4 258 yJ9_min_7cf53, .static yJ9_min_7cf53, .initialized yJ9_min_7cf53.cls, .code yJ9_min_7cf53 cJ9_min_7cf53 2 (some .int)] : List Cond), w ∈ wm := wm_ps _ [442, 443, 62, 444] (by decide +kernel)
set_option maxRecDepth 20000 in
theorem con_X4_borrow (l : Launch) (htr : l.stackTraces = false) (σ : Mm) : CON fam0 63 l yX4_borrow (Cond.code yX4_borrow cX4_borrow 9 (some .int) :: wm) 2 51 0 (cl_X4_borrow.2.2.1 σ) (cl_X4_borrow.2.2.2.1 σ) (cl_X4_borrow.2.2.2.2 σ) :=
  con_of (cd := cd_X4_borrow) (own := RX4) (rk := 1) (sc_of htr (by decide) k_X4_borrow_ok (by decide +kernel) co_X4_ok fl_X4_ok (all_cons ⟨RX4, yX4_nextSource, cX4_nextSource, 7, (some .int), 1, 25, 4, con_X4_nextSource l htr, rfl, vw_X4_271, ⟨rfl, by decide, by decide, by decide +kernel⟩, ⟨by decide, by decide⟩, fun σ as μ h => ⟨0, 0, _, h.1, rfl, TX4, 17, rfl⟩⟩ (all_cons ⟨RX4, yX4_there, cX4_there, 3, (some .int), 1, 23, 2, con_X4_there l htr, rfl, vw_X4_274, ⟨rfl, by decide, by decide, by decide +kernel⟩, ⟨by decide, by decide⟩, fun σ as μ h => ⟨0, 0, _, h.1, rfl, TX4, 17, rfl⟩⟩ (all_cons ⟨RX4, yX4_lend, cX4_lend, 5, none, 1, 27, 4, con_X4_lend l htr, rfl, vw_X4_277, ⟨rfl, by decide, by decide, by decide +kernel⟩, ⟨by decide, by decide⟩, fun σ as μ h => ⟨0, 0, _, h.1, rfl, TX4, 17, rfl⟩⟩ all_nil))) (all_cons ⟨yJ9_min_7cf53, cJ9_min_7cf53, 2, (some .int), 0, 0, con_J9_min_7cf53 l htr, vw_X4_258, ⟨by decide, by decide, by decide +kernel⟩, ⟨by decide, by decide⟩⟩ all_nil) all_nil) rfl (by decide +kernel) rfl rfl rfl rfl (fun as μ hs => by rw [hs.1]; exact Nat.le_of_ble_eq_true rfl)
    (fun as μ hs hM hrg => by
      have hs1 := hs.1
      have hmem : ∀ v, v ∈ ([vR 0 0, vI (iaI as 1), vI (iaI as 2), vI (iaI as 3), vI (iaI as 4)] : List AV) → rg fam0 v := by rw [← hs1]; exact hrg
      have key := run_X4_borrow (ER := cl_X4_borrow.2.2.2.1 σ as μ) (ET := fun k μ' => cl_X4_borrow.2.2.2.2 σ as μ k ∧ μ' = μ) σ μ (iaI as 1) (iaI as 2) (iaI as 3) (iaI as 4) hM (hmem (vI (iaI as 1)) (by simp)) (hmem (vI (iaI as 2)) (by simp)) (hmem (vI (iaI as 3)) (by simp)) (hmem (vI (iaI as 4)) (by simp)) hs.2 (fun ov μ' h => h)
      have e : entL as 9 = [some (vR 0 0), some (vI (iaI as 1)), some (vI (iaI as 2)), some (vI (iaI as 3)), some (vI (iaI as 4)), none, none, none, none] := by rw [hs1]; rfl
      rw [e]; exact key)
/-! ### Primeborrow.giveBack -/
def cl_X4_giveBack : Cl := (4, 0, fun σ as μ => as = [vR 0 0, vI (iaI as 1), vI (iaI as 2), vI (iaI as 3)] ∧ (KI μ ∧ (0 ≤ (iaI as 1) ∧ (iaI as 1) ≤ 5) ∧ (0 ≤ (iaI as 2) ∧ (iaI as 2) ≤ 3) ∧ (0 ≤ (iaI as 3) ∧ (iaI as 3) ≤ 500) ∧ (iaI as 3) ≤ toF (al μ) (iaI as 1) (iaI as 2)), fun σ as μ ov μ' => ov = none ∧ al μ' = giveF (al μ) (iaI as 1) (iaI as 2) (iaI as 3) ∧ KI μ' ∧ Fr μ μ', fun σ as μ k => False)
def cd_X4_giveBack : Cd := mkcd k_X4_giveBack co_X4 fl_X4 [(286, cl_X1_firstBack), (289, cl_X4_comeBack)] [(258, cl_J9_min_7cf53)] [] [] 8 0 0
set_option maxHeartbeats 4000000 in
set_option maxRecDepth 20000 in
theorem run_X4_giveBack {ER : Option AV → Mm → Prop} {ET : Nat → Mm → Prop} (σ μ : Mm) (c s n : Int) (hM : MR fam0 μ) (h_c : in32 c) (h_s : in32 s) (h_n : in32 n) (hP : KI μ ∧ (0 ≤ c ∧ c ≤ 5) ∧ (0 ≤ s ∧ s ≤ 3) ∧ (0 ≤ n ∧ n ≤ 500) ∧ n ≤ toF (al μ) c s) (hER : ∀ ov μ', (ov = none ∧ al μ' = giveF (al μ) c s n ∧ KI μ' ∧ Fr μ μ') → ER ov μ') : Run fam0 none cd_X4_giveBack ER ET 0 0 [some (vR 0 0), some (vI c), some (vI s), some (vI n), none, none, none, none] [] μ := by
  obtain ⟨hK0, hc, hs, hn, hto0⟩ := hP
  refine run_k 4 ?_
  show Run fam0 none cd_X4_giveBack ER ET 6 0 [some (vR 0 0), some (vI c), some (vI s), some (vI n), some (vI n), some (vI 0), none, none] [] μ
  have lp6 : ∀ (fz : Nat) (f : Nat) (k left : Int) (M : Mm), left.toNat < fz → ((0 ≤ k ∧ k + left ≤ n) ∧ (0 ≤ left ∧ left ≤ (f : Int)) ∧ gbL c s f (al M) left = giveF (al μ) c s n ∧ left ≤ toF (al M) c s ∧ KI M ∧ Fr μ M) → Run fam0 none cd_X4_giveBack ER ET 6 0 [some (vR 0 0), some (vI c), some (vI s), some (vI n), some (vI left), some (vI k), none, none] [] M := by
    intro fz
    induction fz with
    | zero => intro f k left M hf; omega
    | succ fz ih6 =>
      intro f k left M hf hI
      obtain ⟨hk, hlf, hgb, hto, hK, hFr⟩ := hI
      have hl0 : 0 ≤ M 15 0 5 ∧ M 15 0 5 ≤ 1000 := hK.1.1.1
      refine run_k 3 ?_
      show (1000 ≤ k → Run fam0 none cd_X4_giveBack ER ET 77 0 [some (vR 0 0), some (vI c), some (vI s), some (vI n), some (vI left), some (vI k), none, none] [] M) ∧ (k < 1000 → Run fam0 none cd_X4_giveBack ER ET 14 0 [some (vR 0 0), some (vI c), some (vI s), some (vI n), some (vI left), some (vI k), none, none] [] M)
      refine ⟨fun c2 => ?_, fun c2 => ?_⟩
      · refine run_k 1 ?_
        show ER none M
        exact hER _ _ ⟨rfl, by rw [← hgb, gbL_0 (by omega)], hK, hFr⟩
      · refine run_k 2 ?_
        show (left ≤ 0 → Run fam0 none cd_X4_giveBack ER ET 77 0 [some (vR 0 0), some (vI c), some (vI s), some (vI n), some (vI left), some (vI k), none, none] [] M) ∧ (0 < left → Run fam0 none cd_X4_giveBack ER ET 19 0 [some (vR 0 0), some (vI c), some (vI s), some (vI n), some (vI left), some (vI k), none, none] [] M)
        refine ⟨fun c4 => ?_, fun c4 => ?_⟩
        · refine run_k 1 ?_
          show ER none M
          exact hER _ _ ⟨rfl, by rw [← hgb, gbL_0 (by omega)], hK, hFr⟩
        · refine run_k 5 ?_
          show ∃ σ : Mm, cl_X1_firstBack.2.2.1 σ [vR 15 0, vI c, vI s] M ∧ (∀ ov μ', cl_X1_firstBack.2.2.2.1 σ [vR 15 0, vI c, vI s] M ov μ' → Run fam0 none cd_X4_giveBack ER ET 28 0 [some (vR 0 0), some (vI c), some (vI s), some (vI n), some (vI left), some (vI k), none, none] (ov.toList ++ []) μ') ∧ ∀ kx, cl_X1_firstBack.2.2.2.2 σ [vR 15 0, vI c, vI s] M kx → thr cd_X4_giveBack ET (Run fam0 none cd_X4_giveBack ER ET) 25 0 [some (vR 0 0), some (vI c), some (vI s), some (vI n), some (vI left), some (vI k), none, none] M kx
          refine ⟨μ, ⟨rfl, show 0 ≤ M 15 0 5 ∧ M 15 0 5 ≤ 1000 from by omega⟩, fun ov μ' hq => ?_, fun k hk => hk.elim⟩
          obtain ⟨hov, hmu⟩ : ov = some (vI (bstF (al M) c s (M 15 0 5).toNat)) ∧ μ' = M := hq
          rw [hov, hmu]
          generalize hxe : bstF (al M) c s (M 15 0 5).toNat = x
          show Run fam0 none cd_X4_giveBack ER ET 28 0 [some (vR 0 0), some (vI c), some (vI s), some (vI n), some (vI left), some (vI k), none, none] [vI x] M
          have hxe2 : x = bstF (al M) c s (al M 38 0 11).toNat := hxe.symm
          have hbn : x ≠ -1 := by rw [hxe2]; exact bst_ne c s (μ := al M) (by omega)
          have hbr := bst_rng (al M) c s (al M 38 0 11).toNat
          rw [← hxe2] at hbr
          have hbc := hbr.2.2 hbn
          have e11 := al_n11 M
          obtain ⟨f', hf'⟩ : ∃ f', f = f' + 1 := ⟨f - 1, by omega⟩
          subst hf'
          have hgb2 := hgb
          rw [gbL, if_pos (by omega), ← hxe2] at hgb2
          have hx0 : 0 ≤ x := by omega
          have hx1 : x < M 15 0 5 := by omega
          have e51 := al_r51 M x
          have hlk := Lk_at hK.1.1 hx0 (show x < al M 38 0 11 from hx1)
          have hmi := minI_le left (M 19 0 x)
          rw [show minI (al M 51 0 x) left = minI left (M 19 0 x) from minI_cm _ _] at hgb2
          refine run_k 4 ?_
          show (x ≠ (-1) → Run fam0 none cd_X4_giveBack ER ET 39 0 [some (vR 0 0), some (vI c), some (vI s), some (vI n), some (vI left), some (vI k), some (vI x), none] [] M) ∧ (x = (-1) → Run fam0 none cd_X4_giveBack ER ET 36 0 [some (vR 0 0), some (vI c), some (vI s), some (vI n), some (vI left), some (vI k), some (vI x), none] [] M)
          refine ⟨fun c7 => ?_, fun c7 => ?_⟩
          · refine run_k 7 ?_
            show (0 ≤ x ∧ x < 1000) ∧ (∃ σ : Mm, cl_J9_min_7cf53.2.2.1 σ [vI left, vI (M 19 0 x)] M ∧ (∀ ov μ', cl_J9_min_7cf53.2.2.2.1 σ [vI left, vI (M 19 0 x)] M ov μ' → Run fam0 none cd_X4_giveBack ER ET 54 0 [some (vR 0 0), some (vI c), some (vI s), some (vI n), some (vI left), some (vI k), some (vI x), none] (ov.toList ++ []) μ') ∧ ∀ kx, cl_J9_min_7cf53.2.2.2.2 σ [vI left, vI (M 19 0 x)] M kx → thr cd_X4_giveBack ET (Run fam0 none cd_X4_giveBack ER ET) 51 0 [some (vR 0 0), some (vI c), some (vI s), some (vI n), some (vI left), some (vI k), some (vI x), none] M kx)
            refine ⟨by omega, ?_⟩
            refine ⟨μ, ⟨rfl, show True from True.intro⟩, fun ov μ' hq => ?_, fun k hk => hk.elim⟩
            obtain ⟨hov, hmu⟩ : ov = some (vI (minI left (M 19 0 x))) ∧ μ' = M := hq
            rw [hov, hmu]
            show Run fam0 none cd_X4_giveBack ER ET 54 0 [some (vR 0 0), some (vI c), some (vI s), some (vI n), some (vI left), some (vI k), some (vI x), none] [vI (minI left (M 19 0 x))] M
            refine run_k 5 ?_
            show ∃ σ : Mm, cl_X4_comeBack.2.2.1 σ [vR 0 0, vI x, vI (minI left (M 19 0 x))] M ∧ (∀ ov μ', cl_X4_comeBack.2.2.2.1 σ [vR 0 0, vI x, vI (minI left (M 19 0 x))] M ov μ' → Run fam0 none cd_X4_giveBack ER ET 64 0 [some (vR 0 0), some (vI c), some (vI s), some (vI n), some (vI left), some (vI k), some (vI x), some (vI (minI left (M 19 0 x)))] (ov.toList ++ []) μ') ∧ ∀ kx, cl_X4_comeBack.2.2.2.2 σ [vR 0 0, vI x, vI (minI left (M 19 0 x))] M kx → thr cd_X4_giveBack ET (Run fam0 none cd_X4_giveBack ER ET) 61 0 [some (vR 0 0), some (vI c), some (vI s), some (vI n), some (vI left), some (vI k), some (vI x), some (vI (minI left (M 19 0 x)))] M kx
            refine ⟨μ, ⟨rfl, show KI M ∧ (0 ≤ x ∧ x < M 15 0 5) ∧ (0 ≤ (minI left (M 19 0 x)) ∧ (minI left (M 19 0 x)) ≤ M 19 0 x) from ⟨by assumption, by omega, by omega⟩⟩, fun ov μ' hq => ?_, fun k hk => hk.elim⟩
            obtain ⟨hov, halC, hKC, hFC⟩ : ov = none ∧ al μ' = backF (al M) x (minI left (M 19 0 x)) (M 16 0 x) ∧ KI μ' ∧ Fr M μ' := hq
            rw [hov]
            clear hov
            rename Mm => M1
            show Run fam0 none cd_X4_giveBack ER ET 64 0 [some (vR 0 0), some (vI c), some (vI s), some (vI n), some (vI left), some (vI k), some (vI x), some (vI (minI left (M 19 0 x)))] [] M1
            refine run_k 6 ?_
            show Run fam0 none cd_X4_giveBack ER ET 6 0 [some (vR 0 0), some (vI c), some (vI s), some (vI n), some (vI (w32 (left - (minI left (M 19 0 x))))), some (vI (w32 (k + 1))), some (vI x), some (vI (minI left (M 19 0 x)))] [] M1
            rw [show w32 (left - (minI left (M 19 0 x))) = left - (minI left (M 19 0 x)) from w32_id (by simp only [in32]; omega)]
            rw [show w32 (k + 1) = k + 1 from w32_id (by simp only [in32]; omega)]
            refine run_w (L' := [some (vR 0 0), some (vI c), some (vI s), some (vI n), some (vI (left - (minI left (M 19 0 x)))), some (vI (k + 1)), none, none]) ⟨rfl, rfl, rfl, rfl, rfl, rfl, True.intro⟩ ?_
            exact ih6 f' (k + 1) (left - (minI left (M 19 0 x))) M1 (by omega) (by
                have e16 : M 16 0 x = s := hbc.2.1
                rw [e16] at halC
                have hto2 := backF_to hK.1.1 (own := minI left (M 19 0 x)) s hx0 hx1 c s
                rw [if_pos ⟨hbc.1, hbc.2.1⟩, ← halC] at hto2
                refine ⟨by omega, by omega, by rw [halC]; exact hgb2, by omega, hKC, Fr_tr hFr hFC⟩)
          · refine run_k 2 ?_
            show ER none M
            exact hER _ _ ⟨rfl, by rw [← hgb, gbL_0 (by omega)], hK, hFr⟩
  exact lp6 _ n.toNat 0 n μ (Nat.lt_succ_self _) (⟨by omega, by omega, rfl, hto0, hK0, Fr_rf _⟩)
theorem vw_X4_289 : ∀ w ∈ ([.methodLink RX4 289 yX4_comeBack, .instanceMethod yX4_comeBack, .selects RX4 yX4_comeBack yX4_comeBack, .initialized RX4, .code yX4_comeBack cX4_comeBack 5 none] : List Cond), w ∈ wm := wm_ps _ [449, 451, 8, 50, 452] (by decide +kernel)
theorem vw_X4_286 : ∀ w ∈ ([.methodLink RX4 286 yX1_firstBack, .instanceMethod yX1_firstBack, .selects RX1 yX1_firstBack yX1_firstBack, .initialized RX1, .code yX1_firstBack cX1_firstBack 5 (some .int)] : List Cond), w ∈ wm := wm_ps _ [509, 510, 511, 51, 512] (by decide +kernel)
set_option maxRecDepth 20000 in
theorem con_X4_giveBack (l : Launch) (htr : l.stackTraces = false) (σ : Mm) : CON fam0 63 l yX4_giveBack (Cond.code yX4_giveBack cX4_giveBack 8 none :: wm) 2 51 0 (cl_X4_giveBack.2.2.1 σ) (cl_X4_giveBack.2.2.2.1 σ) (cl_X4_giveBack.2.2.2.2 σ) :=
  con_of (cd := cd_X4_giveBack) (own := RX4) (rk := 0) (sc_of htr (by decide) k_X4_giveBack_ok (by decide +kernel) co_X4_ok fl_X4_ok (all_cons ⟨RX1, yX1_firstBack, cX1_firstBack, 5, (some .int), 0, 0, 2, con_X1_firstBack l htr, rfl, vw_X4_286, ⟨rfl, by decide, by decide, by decide +kernel⟩, ⟨by decide, by decide⟩, fun σ as μ h => ⟨15, 0, _, h.1, rfl, TX1, 6, rfl⟩⟩ (all_cons ⟨RX4, yX4_comeBack, cX4_comeBack, 5, none, 1, 27, 2, con_X4_comeBack l htr, rfl, vw_X4_289, ⟨rfl, by decide, by decide, by decide +kernel⟩, ⟨by decide, by decide⟩, fun σ as μ h => ⟨0, 0, _, h.1, rfl, TX4, 17, rfl⟩⟩ all_nil)) (all_cons ⟨yJ9_min_7cf53, cJ9_min_7cf53, 2, (some .int), 0, 0, con_J9_min_7cf53 l htr, vw_X4_258, ⟨by decide, by decide, by decide +kernel⟩, ⟨by decide, by decide⟩⟩ all_nil) all_nil) rfl (by decide +kernel) rfl rfl rfl rfl (fun as μ hs => by rw [hs.1]; exact Nat.le_of_ble_eq_true rfl)
    (fun as μ hs hM hrg => by
      have hs1 := hs.1
      have hmem : ∀ v, v ∈ ([vR 0 0, vI (iaI as 1), vI (iaI as 2), vI (iaI as 3)] : List AV) → rg fam0 v := by rw [← hs1]; exact hrg
      have key := run_X4_giveBack (ER := cl_X4_giveBack.2.2.2.1 σ as μ) (ET := fun k μ' => cl_X4_giveBack.2.2.2.2 σ as μ k ∧ μ' = μ) σ μ (iaI as 1) (iaI as 2) (iaI as 3) hM (hmem (vI (iaI as 1)) (by simp)) (hmem (vI (iaI as 2)) (by simp)) (hmem (vI (iaI as 3)) (by simp)) hs.2 (fun ov μ' h => h)
      have e : entL as 8 = [some (vR 0 0), some (vI (iaI as 1)), some (vI (iaI as 2)), some (vI (iaI as 3)), none, none, none, none] := by rw [hs1]; rfl
      rw [e]; exact key)
