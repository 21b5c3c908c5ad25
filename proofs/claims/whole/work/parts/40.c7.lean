/-! ===== the class: trades -/
theorem long_le {m : Mm} (h : Pk m) {c s : Int} (hc : 0 ≤ c ∧ c ≤ 5) (hs : 0 ≤ s ∧ s ≤ 3) : longF m s ≤ 2500 + (if 0 < m 42 0 (4 * c + s) then m 42 0 (4 * c + s) else 0) := by
  have hr : ∀ k : Nat, k < 6 → 0 ≤ lgG m s k ∧ lgG m s k ≤ 500 := fun k hk => by
    have := h (4 * (k : Int) + s) (by omega) (by omega)
    unfold lgG; split <;> omega
  have e : longF m s = lgG m s 0 + lgG m s 1 + lgG m s 2 + lgG m s 3 + lgG m s 4 + lgG m s 5 := by
    show (((((0 + lgG m s 0) + lgG m s 1) + lgG m s 2) + lgG m s 3) + lgG m s 4) + lgG m s 5 = _
    omega
  have h0 := hr 0 (by decide)
  have h1 := hr 1 (by decide)
  have h2 := hr 2 (by decide)
  have h3 := hr 3 (by decide)
  have h4 := hr 4 (by decide)
  have h5 := hr 5 (by decide)
  have hcc : (if 0 < m 42 0 (4 * c + s) then m 42 0 (4 * c + s) else 0) = lgG m s c.toNat := by
    unfold lgG
    rw [show ((c.toNat : Nat) : Int) = c by omega]
  rw [hcc, e]
  have hc6 : c.toNat = 0 ∨ c.toNat = 1 ∨ c.toNat = 2 ∨ c.toNat = 3 ∨ c.toNat = 4 ∨ c.toNat = 5 := by omega
  rcases hc6 with q | q | q | q | q | q <;> rw [q] <;> omega
theorem trd_ki {M μ' : Mm} (hK : KI M) {c s n w δ g t : Int} (hc : 0 ≤ c ∧ c ≤ 5) (hs : 0 ≤ s ∧ s ≤ 3) (hf : al M 44 0 c = 0) (hgt : (g = 0 ∧ t = 1 ∧ δ = n) ∨ (g = 1 ∧ t = 0 ∧ δ = -n)) {v : Int} (hh : HO (st (st M 7 c s v) 3 0 c w) μ' s c g t n) (hV : VB (al μ'))
    (hl : (if 0 < v then v else 0) = (if 0 < M 7 c s then M 7 c s else 0) + δ) : al μ' = st (st (al M) 42 0 (4 * c + s) v) 41 0 c w ∧ KI μ' ∧ Fr M μ' := by
  have hal : al μ' = st (st (al M) 42 0 (4 * c + s) v) 41 0 c w := by
    rw [al_cg (fun g r j h1 h2 => hh.1 g r j (Or.inl (by omega))), al_s3, al_s7 _ _ _ _ hs]
  refine ⟨hal, ?_, fun g r j q => (hh.1 g r j (Or.inl (by omega))).trans ((st_o (by omega)).trans (st_o (by omega)))⟩
  have e42 := al_42 (μ := M) (c := c) hs
  refine ki_pos hK hc hs (δ := δ) (fun g j q => by rw [hal]; exact trd_o (by omega) (by omega)) hV (fun d t' d0 d1 t0 t1 q => by rw [hal, trd_p, if_neg (by omega)]) hf (fun a t' => (hh.1 14 a t' (Or.inl (by decide)))) (by rw [hal, trd_p, if_pos rfl, e42]; exact hl) (fun t' t0 t1 P hP => ?_)
  by_cases q : t' = s
  · rw [if_pos q, q, hh.2 P hP]
    have e := cnP_cg (M := st (st M 7 c s v) 3 0 c w) (μ := M) (s := s) (P := P) (n := 3000) (fun _ _ => ⟨rfl, rfl⟩)
    rw [e]
    rcases hgt with ⟨h1, h2, h3⟩ | ⟨h1, h2, h3⟩
    · rw [h1, h2, h3]; omega
    · rw [h1, h2, h3]
      split <;> split <;> omega
  · rw [if_neg q]
    rw [cnP_cg (fun i _ => ⟨hh.1 37 t' i (Or.inr q), hh.1 35 t' i (Or.inr q)⟩)]
    exact (cnP_cg (fun _ _ => ⟨rfl, rfl⟩)).trans (Int.add_zero _).symm
theorem HO_V {M μ' : Mm} {c s v w g t n : Int} (hs : 0 ≤ s ∧ s ≤ 3) (hh : HO (st (st M 7 c s v) 3 0 c w) μ' s c g t n) : al μ' = st (st (al M) 42 0 (4 * c + s) v) 41 0 c w := by
  rw [al_cg (fun g r j h1 h2 => hh.1 g r j (Or.inl (by omega))), al_s3, al_s7 _ _ _ _ hs]
/-! ### Primeborrow.sellShares -/
def cl_X4_sellShares : Cl := (4, 0, fun σ as μ => as = [vR 0 0, vI (iaI as 1), vI (iaI as 2), vI (iaI as 3)] ∧ (KI μ ∧ Wk (al μ) ∧ (0 ≤ (iaI as 1) ∧ (iaI as 1) ≤ 5) ∧ (0 ≤ (iaI as 2) ∧ (iaI as 2) ≤ 3) ∧ (1 ≤ (iaI as 3) ∧ (iaI as 3) ≤ μ 7 (iaI as 1) (iaI as 2))), fun σ as μ ov μ' => ov = none ∧ al μ' = sellsF (al μ) (iaI as 1) (iaI as 2) (iaI as 3) ∧ KI μ' ∧ Fr μ μ', fun σ as μ k => False)
def cd_X4_sellShares : Cd := mkcd k_X4_sellShares co_X4 fl_X4 [(173, cl_X4_inBox), (268, cl_X4_callBack), (264, cl_X0_handOver)] [(253, cl_J9_max_7cf53)] [] [] 5 0 0
set_option maxHeartbeats 4000000 in
set_option maxRecDepth 20000 in
theorem run_X4_sellShares {ER : Option AV → Mm → Prop} {ET : Nat → Mm → Prop} (σ μ : Mm) (c s n : Int) (hM : MR fam0 μ) (h_c : in32 c) (h_s : in32 s) (h_n : in32 n) (hP : KI μ ∧ Wk (al μ) ∧ (0 ≤ c ∧ c ≤ 5) ∧ (0 ≤ s ∧ s ≤ 3) ∧ (1 ≤ n ∧ n ≤ μ 7 c s)) (hER : ∀ ov μ', (ov = none ∧ al μ' = sellsF (al μ) c s n ∧ KI μ' ∧ Fr μ μ') → ER ov μ') : Run fam0 none cd_X4_sellShares ER ET 0 0 [some (vR 0 0), some (vI c), some (vI s), some (vI n), none] [] μ := by
  obtain ⟨hK, hW, hc, hs, hn⟩ := hP
  have hkh := ki_held hK hc hs
  have e42 := al_42 (μ := μ) (c := c) hs
  have h4 := I4_at hW.2.2.1 hc hs
  have hpt := part_at hW.1 hW.2.2.2.1 hc hs
  rw [e42] at h4 hpt
  have hlnr := lentF_rng hW.1 c s
  have hmx := maxI_le 0 (n - partF (al μ) c s)
  have hfl : al μ 44 0 c = 0 := by
    by_cases z : al μ 44 0 c = 0
    · exact z
    · have := hK.2.2.2 c s hc.1 hc.2 hs.1 hs.2 z
      omega
  have hcf : callF (al μ) c s (maxI 0 (n - partF (al μ) c s)) = (if partF (al μ) c s < n then callF (al μ) c s (n - partF (al μ) c s) else al μ) := by
    split
    · rw [show (maxI 0 (n - partF (al μ) c s)) = n - partF (al μ) c s by omega]
    · rw [show (maxI 0 (n - partF (al μ) c s)) = 0 by omega]; exact cbL_0 (Int.le_refl 0)
  have hco := callF_ok (src := c) (s := s) (many := (maxI 0 (n - partF (al μ) c s))) (M := al μ) hs hW (by omega) (by omega)
  have hsv := sellsF_ok (n := n) hW hc hs (by rw [e42]; exact hn)
  refine run_k 6 ?_
  show ∃ σ : Mm, cl_X4_inBox.2.2.1 σ [vR 0 0, vI c, vI s] μ ∧ (∀ ov μ', cl_X4_inBox.2.2.2.1 σ [vR 0 0, vI c, vI s] μ ov μ' → Run fam0 none cd_X4_sellShares ER ET 8 0 [some (vR 0 0), some (vI c), some (vI s), some (vI n), none] (ov.toList ++ [vI n, vI 0]) μ') ∧ ∀ kx, cl_X4_inBox.2.2.2.2 σ [vR 0 0, vI c, vI s] μ kx → thr cd_X4_sellShares ET (Run fam0 none cd_X4_sellShares ER ET) 5 0 [some (vR 0 0), some (vI c), some (vI s), some (vI n), none] μ kx
  refine ⟨μ, ⟨rfl, show KI μ ∧ (0 ≤ c ∧ c ≤ 5) ∧ (0 ≤ s ∧ s ≤ 3) from ⟨by assumption, by omega, by omega⟩⟩, fun ov μ' hq => ?_, fun k hk => hk.elim⟩
  obtain ⟨hov, hmu⟩ : ov = some (vI (partF (al μ) c s)) ∧ μ' = μ := hq
  rw [hov, hmu]
  show Run fam0 none cd_X4_sellShares ER ET 8 0 [some (vR 0 0), some (vI c), some (vI s), some (vI n), none] [vI (partF (al μ) c s), vI n, vI 0] μ
  refine run_k 2 ?_
  show ∃ σ : Mm, cl_J9_max_7cf53.2.2.1 σ [vI 0, vI (w32 (n - (partF (al μ) c s)))] μ ∧ (∀ ov μ', cl_J9_max_7cf53.2.2.2.1 σ [vI 0, vI (w32 (n - (partF (al μ) c s)))] μ ov μ' → Run fam0 none cd_X4_sellShares ER ET 12 0 [some (vR 0 0), some (vI c), some (vI s), some (vI n), none] (ov.toList ++ []) μ') ∧ ∀ kx, cl_J9_max_7cf53.2.2.2.2 σ [vI 0, vI (w32 (n - (partF (al μ) c s)))] μ kx → thr cd_X4_sellShares ET (Run fam0 none cd_X4_sellShares ER ET) 9 0 [some (vR 0 0), some (vI c), some (vI s), some (vI n), none] μ kx
  rw [show w32 (n - (partF (al μ) c s)) = n - (partF (al μ) c s) from w32_id (by simp only [in32]; omega)]
  refine ⟨μ, ⟨rfl, show True from True.intro⟩, fun ov μ' hq => ?_, fun k hk => hk.elim⟩
  obtain ⟨hov, hmu⟩ : ov = some (vI (maxI 0 (n - (partF (al μ) c s)))) ∧ μ' = μ := hq
  rw [hov, hmu]
  show Run fam0 none cd_X4_sellShares ER ET 12 0 [some (vR 0 0), some (vI c), some (vI s), some (vI n), none] [vI (maxI 0 (n - (partF (al μ) c s)))] μ
  refine run_k 6 ?_
  show ∃ σ : Mm, cl_X4_callBack.2.2.1 σ [vR 0 0, vI c, vI s, vI (maxI 0 (n - (partF (al μ) c s)))] μ ∧ (∀ ov μ', cl_X4_callBack.2.2.2.1 σ [vR 0 0, vI c, vI s, vI (maxI 0 (n - (partF (al μ) c s)))] μ ov μ' → Run fam0 none cd_X4_sellShares ER ET 22 0 [some (vR 0 0), some (vI c), some (vI s), some (vI n), some (vI (maxI 0 (n - (partF (al μ) c s))))] (ov.toList ++ []) μ') ∧ ∀ kx, cl_X4_callBack.2.2.2.2 σ [vR 0 0, vI c, vI s, vI (maxI 0 (n - (partF (al μ) c s)))] μ kx → thr cd_X4_sellShares ET (Run fam0 none cd_X4_sellShares ER ET) 19 0 [some (vR 0 0), some (vI c), some (vI s), some (vI n), some (vI (maxI 0 (n - (partF (al μ) c s))))] μ kx
  refine ⟨μ, ⟨rfl, show KI μ ∧ Wk (al μ) ∧ (0 ≤ s ∧ s ≤ 3) ∧ (0 ≤ (maxI 0 (n - (partF (al μ) c s))) ∧ (maxI 0 (n - (partF (al μ) c s))) ≤ 500) ∧ (maxI 0 (n - (partF (al μ) c s))) ≤ lentF (al μ) c s from ⟨by assumption, by assumption, by omega, by omega, by omega⟩⟩, fun ov μ' hq => ?_, fun k hk => hk.elim⟩
  obtain ⟨hov, hal1, hK1, hF1⟩ : ov = none ∧ al μ' = ap c s (maxI 0 (n - (partF (al μ) c s))) (callF (al μ) c s (maxI 0 (n - (partF (al μ) c s)))) ∧ KI μ' ∧ Fr μ μ' := hq
  rw [hov]
  clear hov
  rename Mm => M1
  rw [ap_c (by omega)] at hal1
  show Run fam0 none cd_X4_sellShares ER ET 22 0 [some (vR 0 0), some (vI c), some (vI s), some (vI n), some (vI (maxI 0 (n - (partF (al μ) c s))))] [] M1
  have f42 := al_42 (μ := M1) (c := c) hs
  have e7 : M1 7 c s = μ 7 c s := by rw [← f42, hal1, hco.2.2 (by rw [e42]; omega) hc.1, e42]
  have e44 : al M1 44 0 c = 0 := by rw [hal1]; exact (callF_u _ _ _ _ (by decide) (by decide) (by omega)).trans hfl
  have hk1 := ki_held hK1 hc hs
  have hl1 := hco.2.1
  rw [← hal1] at hl1
  have hp1 := part_vb hK1.1 hc hs
  rw [f42] at hp1
  have hav : n ≤ cnP M1 s (pA 1 c) 3000 := by
    rw [cnP_pA (by decide), ((hK1.2.2.1 s hs.1 hs.2).2 c hc.1 hc.2).1]
    omega
  have hcr := cn_rng M1 s (pA 1 c) 3000
  refine run_k 33 ?_
  show (0 ≤ c ∧ c < 6) ∧ ((0 ≤ s ∧ s < 4) ∧ ((0 ≤ s ∧ s < 4) ∧ ((0 ≤ c ∧ c < 6) ∧ ((0 ≤ s ∧ s < 4) ∧ ((0 ≤ c ∧ c < 6) ∧ (∃ σ : Mm, cl_X0_handOver.2.2.1 σ [vR 33 0, vI s, vI c, vI 1, vI 0, vI n] (st (st M1 7 c s (w32 ((M1 7 c s) - n))) 3 0 c (w64 ((M1 3 0 c) + (w64 (n * (M1 1 0 s)))))) ∧ (∀ ov μ', cl_X0_handOver.2.2.2.1 σ [vR 33 0, vI s, vI c, vI 1, vI 0, vI n] (st (st M1 7 c s (w32 ((M1 7 c s) - n))) 3 0 c (w64 ((M1 3 0 c) + (w64 (n * (M1 1 0 s)))))) ov μ' → Run fam0 none cd_X4_sellShares ER ET 65 0 [some (vR 0 0), some (vI c), some (vI s), some (vI n), some (vI (maxI 0 (n - (partF (al μ) c s))))] (ov.toList ++ []) μ') ∧ ∀ kx, cl_X0_handOver.2.2.2.2 σ [vR 33 0, vI s, vI c, vI 1, vI 0, vI n] (st (st M1 7 c s (w32 ((M1 7 c s) - n))) 3 0 c (w64 ((M1 3 0 c) + (w64 (n * (M1 1 0 s)))))) kx → thr cd_X4_sellShares ET (Run fam0 none cd_X4_sellShares ER ET) 62 0 [some (vR 0 0), some (vI c), some (vI s), some (vI n), some (vI (maxI 0 (n - (partF (al μ) c s))))] (st (st M1 7 c s (w32 ((M1 7 c s) - n))) 3 0 c (w64 ((M1 3 0 c) + (w64 (n * (M1 1 0 s)))))) kx))))))
  rw [show w32 ((M1 7 c s) - n) = (M1 7 c s) - n from w32_id (by simp only [in32]; omega)]
  refine ⟨by omega, ?_⟩
  refine ⟨by omega, ?_⟩
  refine ⟨by omega, ?_⟩
  refine ⟨by omega, ?_⟩
  refine ⟨by omega, ?_⟩
  refine ⟨by omega, ?_⟩
  refine ⟨μ, ⟨rfl, show (0 ≤ s ∧ s ≤ 3) ∧ 0 ≤ n ∧ n ≤ cnP (st (st M1 7 c s ((M1 7 c s) - n)) 3 0 c (w64 ((M1 3 0 c) + (w64 (n * (M1 1 0 s)))))) s (pA 1 c) 3000 from ⟨by omega, by omega, Int.le_trans hav (Int.le_of_eq (cnP_cg (fun _ _ => ⟨rfl, rfl⟩)).symm)⟩⟩, fun ov μ' hq => ?_, fun k hk => hk.elim⟩
  obtain ⟨hov, hho⟩ : ov = none ∧ HO (st (st M1 7 c s ((M1 7 c s) - n)) 3 0 c (w64 ((M1 3 0 c) + (w64 (n * (M1 1 0 s)))))) μ' s c 1 0 n := hq
  rw [hov]
  clear hov
  rename Mm => M2
  show Run fam0 none cd_X4_sellShares ER ET 65 0 [some (vR 0 0), some (vI c), some (vI s), some (vI n), some (vI (maxI 0 (n - (partF (al μ) c s))))] [] M2
  refine run_k 1 ?_
  show ER none M2
  have hsf : al M2 = sellsF (al μ) c s n := by
    rw [HO_V hs hho]
    unfold sellsF
    rw [← hcf, ← hal1]
    dsimp only
    rw [f42]
    rfl
  have hfin := trd_ki hK1 hc hs e44 (Or.inr ⟨rfl, rfl, rfl⟩) hho (by rw [hsf]; exact VB_of hsv) (by rw [if_pos (show 0 < M1 7 c s by omega)]; split <;> omega)
  exact hER _ _ ⟨rfl, hsf, hfin.2.1, Fr_tr hF1 hfin.2.2⟩
theorem vw_X4_268 : ∀ w ∈ ([.methodLink RX4 268 yX4_callBack, .instanceMethod yX4_callBack, .selects RX4 yX4_callBack yX4_callBack, .initialized RX4, .code yX4_callBack cX4_callBack 8 none] : List Cond), w ∈ wm := wm_ps _ [445, 447, 7, 50, 448] (by decide +kernel)
set_option maxRecDepth 20000 in
theorem con_X4_sellShares (l : Launch) (htr : l.stackTraces = false) (σ : Mm) : CON fam0 63 l yX4_sellShares (Cond.code yX4_sellShares cX4_sellShares 5 none :: wm) 4 106 0 (cl_X4_sellShares.2.2.1 σ) (cl_X4_sellShares.2.2.2.1 σ) (cl_X4_sellShares.2.2.2.2 σ) :=
  con_of (cd := cd_X4_sellShares) (own := RX4) (rk := 0) (sc_of htr (by decide) k_X4_sellShares_ok (by decide +kernel) co_X4_ok fl_X4_ok (all_cons ⟨RX4, yX4_inBox, cX4_inBox, 4, (some .int), 0, 0, 2, con_X4_inBox l htr, rfl, vw_X4_173, ⟨rfl, by decide, by decide, by decide +kernel⟩, ⟨by decide, by decide⟩, fun σ as μ h => ⟨0, 0, _, h.1, rfl, TX4, 17, rfl⟩⟩ (all_cons ⟨RX4, yX4_callBack, cX4_callBack, 8, none, 3, 79, 3, con_X4_callBack l htr, rfl, vw_X4_268, ⟨rfl, by decide, by decide, by decide +kernel⟩, ⟨by decide, by decide⟩, fun σ as μ h => ⟨0, 0, _, h.1, rfl, TX4, 17, rfl⟩⟩ (all_cons ⟨RX0, yX0_handOver, cX0_handOver, 8, none, 0, 0, 5, con_X0_handOver l htr, rfl, vw_X4_264, ⟨rfl, by decide, by decide, by decide +kernel⟩, ⟨by decide, by decide⟩, fun σ as μ h => ⟨33, 0, _, h.1, rfl, TX0, 2, rfl⟩⟩ all_nil))) (all_cons ⟨yJ9_max_7cf53, cJ9_max_7cf53, 2, (some .int), 0, 0, con_J9_max_7cf53 l htr, vw_X4_253, ⟨by decide, by decide, by decide +kernel⟩, ⟨by decide, by decide⟩⟩ all_nil) all_nil) rfl (by decide +kernel) rfl rfl rfl rfl (fun as μ hs => by rw [hs.1]; exact Nat.le_of_ble_eq_true rfl)
    (fun as μ hs hM hrg => by
      have hs1 := hs.1
      have hmem : ∀ v, v ∈ ([vR 0 0, vI (iaI as 1), vI (iaI as 2), vI (iaI as 3)] : List AV) → rg fam0 v := by rw [← hs1]; exact hrg
      have key := run_X4_sellShares (ER := cl_X4_sellShares.2.2.2.1 σ as μ) (ET := fun k μ' => cl_X4_sellShares.2.2.2.2 σ as μ k ∧ μ' = μ) σ μ (iaI as 1) (iaI as 2) (iaI as 3) hM (hmem (vI (iaI as 1)) (by simp)) (hmem (vI (iaI as 2)) (by simp)) (hmem (vI (iaI as 3)) (by simp)) hs.2 (fun ov μ' h => h)
      have e : entL as 5 = [some (vR 0 0), some (vI (iaI as 1)), some (vI (iaI as 2)), some (vI (iaI as 3)), none] := by rw [hs1]; rfl
      rw [e]; exact key)
/-! ### Primeborrow.buyShares -/
def cl_X4_buyShares : Cl := (4, 0, fun σ as μ => as = [vR 0 0, vI (iaI as 1), vI (iaI as 2), vI (iaI as 3)] ∧ (KI μ ∧ Wk (al μ) ∧ (0 ≤ (iaI as 1) ∧ (iaI as 1) ≤ 5) ∧ (0 ≤ (iaI as 2) ∧ (iaI as 2) ≤ 3) ∧ (1 ≤ (iaI as 3) ∧ (iaI as 3) ≤ 500) ∧ μ 7 (iaI as 1) (iaI as 2) + (iaI as 3) ≤ 500 ∧ μ 5 0 (iaI as 1) = 0), fun σ as μ ov μ' => ov = none ∧ al μ' = buysF (al μ) (iaI as 1) (iaI as 2) (iaI as 3) ∧ KI μ' ∧ Fr μ μ', fun σ as μ k => False)
def cd_X4_buyShares : Cd := mkcd k_X4_buyShares co_X4 fl_X4 [(261, cl_X4_giveBack), (264, cl_X0_handOver)] [(253, cl_J9_max_7cf53), (258, cl_J9_min_7cf53)] [] [] 5 0 0
set_option maxHeartbeats 4000000 in
set_option maxRecDepth 20000 in
theorem run_X4_buyShares {ER : Option AV → Mm → Prop} {ET : Nat → Mm → Prop} (σ μ : Mm) (c s n : Int) (hM : MR fam0 μ) (h_c : in32 c) (h_s : in32 s) (h_n : in32 n) (hP : KI μ ∧ Wk (al μ) ∧ (0 ≤ c ∧ c ≤ 5) ∧ (0 ≤ s ∧ s ≤ 3) ∧ (1 ≤ n ∧ n ≤ 500) ∧ μ 7 c s + n ≤ 500 ∧ μ 5 0 c = 0) (hER : ∀ ov μ', (ov = none ∧ al μ' = buysF (al μ) c s n ∧ KI μ' ∧ Fr μ μ') → ER ov μ') : Run fam0 none cd_X4_buyShares ER ET 0 0 [some (vR 0 0), some (vI c), some (vI s), some (vI n), none] [] μ := by
  obtain ⟨hK, hW, hc, hs, hn, hm, hfl⟩ := hP
  have hkh := ki_held hK hc hs
  have e42 := al_42 (μ := μ) (c := c) hs
  have h4 := I4_at hW.2.2.1 hc hs
  have hpt := part_at hW.1 hW.2.2.2.1 hc hs
  rw [e42] at h4 hpt
  have hlnr := lentF_rng hW.1 c s
  have hmx := maxI_le 0 (-μ 7 c s)
  have hmi := minI_le n (maxI 0 (-μ 7 c s))
  have hbk : (if 0 ≤ μ 7 c s then (0 : Int) else if -μ 7 c s < n then -μ 7 c s else n) = (minI n (maxI 0 (-μ 7 c s))) := by
    split
    · omega
    · split <;> omega
  have hbv := buysF_ok (n := n) hW hc hs hn (by rw [e42]; exact hm)
  refine run_k 10 ?_
  show (0 ≤ c ∧ c < 6) ∧ ((0 ≤ s ∧ s < 4) ∧ (∃ σ : Mm, cl_J9_max_7cf53.2.2.1 σ [vI 0, vI (w32 (-(μ 7 c s)))] μ ∧ (∀ ov μ', cl_J9_max_7cf53.2.2.2.1 σ [vI 0, vI (w32 (-(μ 7 c s)))] μ ov μ' → Run fam0 none cd_X4_buyShares ER ET 14 0 [some (vR 0 0), some (vI c), some (vI s), some (vI n), none] (ov.toList ++ [vI n]) μ') ∧ ∀ kx, cl_J9_max_7cf53.2.2.2.2 σ [vI 0, vI (w32 (-(μ 7 c s)))] μ kx → thr cd_X4_buyShares ET (Run fam0 none cd_X4_buyShares ER ET) 11 0 [some (vR 0 0), some (vI c), some (vI s), some (vI n), none] μ kx))
  rw [show w32 (-(μ 7 c s)) = -(μ 7 c s) from w32_id (by simp only [in32]; omega)]
  refine ⟨by omega, ?_⟩
  refine ⟨by omega, ?_⟩
  refine ⟨μ, ⟨rfl, show True from True.intro⟩, fun ov μ' hq => ?_, fun k hk => hk.elim⟩
  obtain ⟨hov, hmu⟩ : ov = some (vI (maxI 0 (-(μ 7 c s)))) ∧ μ' = μ := hq
  rw [hov, hmu]
  show Run fam0 none cd_X4_buyShares ER ET 14 0 [some (vR 0 0), some (vI c), some (vI s), some (vI n), none] [vI (maxI 0 (-(μ 7 c s))), vI n] μ
  refine run_k 1 ?_
  show ∃ σ : Mm, cl_J9_min_7cf53.2.2.1 σ [vI n, vI (maxI 0 (-(μ 7 c s)))] μ ∧ (∀ ov μ', cl_J9_min_7cf53.2.2.2.1 σ [vI n, vI (maxI 0 (-(μ 7 c s)))] μ ov μ' → Run fam0 none cd_X4_buyShares ER ET 17 0 [some (vR 0 0), some (vI c), some (vI s), some (vI n), none] (ov.toList ++ []) μ') ∧ ∀ kx, cl_J9_min_7cf53.2.2.2.2 σ [vI n, vI (maxI 0 (-(μ 7 c s)))] μ kx → thr cd_X4_buyShares ET (Run fam0 none cd_X4_buyShares ER ET) 14 0 [some (vR 0 0), some (vI c), some (vI s), some (vI n), none] μ kx
  refine ⟨μ, ⟨rfl, show True from True.intro⟩, fun ov μ' hq => ?_, fun k hk => hk.elim⟩
  obtain ⟨hov, hmu⟩ : ov = some (vI (minI n (maxI 0 (-(μ 7 c s))))) ∧ μ' = μ := hq
  rw [hov, hmu]
  show Run fam0 none cd_X4_buyShares ER ET 17 0 [some (vR 0 0), some (vI c), some (vI s), some (vI n), none] [vI (minI n (maxI 0 (-(μ 7 c s))))] μ
  refine run_k 6 ?_
  show ∃ σ : Mm, cl_X4_giveBack.2.2.1 σ [vR 0 0, vI c, vI s, vI (minI n (maxI 0 (-(μ 7 c s))))] μ ∧ (∀ ov μ', cl_X4_giveBack.2.2.2.1 σ [vR 0 0, vI c, vI s, vI (minI n (maxI 0 (-(μ 7 c s))))] μ ov μ' → Run fam0 none cd_X4_buyShares ER ET 27 0 [some (vR 0 0), some (vI c), some (vI s), some (vI n), some (vI (minI n (maxI 0 (-(μ 7 c s)))))] (ov.toList ++ []) μ') ∧ ∀ kx, cl_X4_giveBack.2.2.2.2 σ [vR 0 0, vI c, vI s, vI (minI n (maxI 0 (-(μ 7 c s))))] μ kx → thr cd_X4_buyShares ET (Run fam0 none cd_X4_buyShares ER ET) 24 0 [some (vR 0 0), some (vI c), some (vI s), some (vI n), some (vI (minI n (maxI 0 (-(μ 7 c s)))))] μ kx
  refine ⟨μ, ⟨rfl, show KI μ ∧ (0 ≤ c ∧ c ≤ 5) ∧ (0 ≤ s ∧ s ≤ 3) ∧ (0 ≤ (minI n (maxI 0 (-(μ 7 c s)))) ∧ (minI n (maxI 0 (-(μ 7 c s)))) ≤ 500) ∧ (minI n (maxI 0 (-(μ 7 c s)))) ≤ toF (al μ) c s from ⟨by assumption, by omega, by omega, by omega, by omega⟩⟩, fun ov μ' hq => ?_, fun k hk => hk.elim⟩
  obtain ⟨hov, hal1, hK1, hF1⟩ : ov = none ∧ al μ' = giveF (al μ) c s (minI n (maxI 0 (-(μ 7 c s)))) ∧ KI μ' ∧ Fr μ μ' := hq
  rw [hov]
  clear hov
  rename Mm => M1
  show Run fam0 none cd_X4_buyShares ER ET 27 0 [some (vR 0 0), some (vI c), some (vI s), some (vI n), some (vI (minI n (maxI 0 (-(μ 7 c s)))))] [] M1
  have f42 := al_42 (μ := M1) (c := c) hs
  have e7 : M1 7 c s = μ 7 c s := by rw [← f42, hal1, giveF_o _ _ _ _ (by decide), e42]
  have e44 : al M1 44 0 c = 0 := by rw [hal1, giveF_o _ _ _ _ (by decide)]; exact hfl
  have hll := long_le hK1.1.2.1 hc hs
  rw [f42] at hll
  have hav : n - (minI n (maxI 0 (-μ 7 c s))) ≤ cnP M1 s (pA 0 c) 3000 := by
    rw [cnP_0, (hK1.2.2.1 s hs.1 hs.2).1]
    split at hll <;> omega
  have hcr := cn_rng M1 s (pA 0 c) 3000
  refine run_k 35 ?_
  show (0 ≤ c ∧ c < 6) ∧ ((0 ≤ s ∧ s < 4) ∧ ((0 ≤ s ∧ s < 4) ∧ ((0 ≤ c ∧ c < 6) ∧ ((0 ≤ s ∧ s < 4) ∧ ((0 ≤ c ∧ c < 6) ∧ (∃ σ : Mm, cl_X0_handOver.2.2.1 σ [vR 33 0, vI s, vI c, vI 0, vI 1, vI (w32 (n - (minI n (maxI 0 (-(μ 7 c s))))))] (st (st M1 7 c s (w32 ((M1 7 c s) + n))) 3 0 c (w64 ((M1 3 0 c) - (w64 (n * (M1 1 0 s)))))) ∧ (∀ ov μ', cl_X0_handOver.2.2.2.1 σ [vR 33 0, vI s, vI c, vI 0, vI 1, vI (w32 (n - (minI n (maxI 0 (-(μ 7 c s))))))] (st (st M1 7 c s (w32 ((M1 7 c s) + n))) 3 0 c (w64 ((M1 3 0 c) - (w64 (n * (M1 1 0 s)))))) ov μ' → Run fam0 none cd_X4_buyShares ER ET 73 0 [some (vR 0 0), some (vI c), some (vI s), some (vI n), some (vI (minI n (maxI 0 (-(μ 7 c s)))))] (ov.toList ++ []) μ') ∧ ∀ kx, cl_X0_handOver.2.2.2.2 σ [vR 33 0, vI s, vI c, vI 0, vI 1, vI (w32 (n - (minI n (maxI 0 (-(μ 7 c s))))))] (st (st M1 7 c s (w32 ((M1 7 c s) + n))) 3 0 c (w64 ((M1 3 0 c) - (w64 (n * (M1 1 0 s)))))) kx → thr cd_X4_buyShares ET (Run fam0 none cd_X4_buyShares ER ET) 70 0 [some (vR 0 0), some (vI c), some (vI s), some (vI n), some (vI (minI n (maxI 0 (-(μ 7 c s)))))] (st (st M1 7 c s (w32 ((M1 7 c s) + n))) 3 0 c (w64 ((M1 3 0 c) - (w64 (n * (M1 1 0 s)))))) kx))))))
  rw [show w32 ((M1 7 c s) + n) = (M1 7 c s) + n from w32_id (by simp only [in32]; omega)]
  rw [show w32 (n - (minI n (maxI 0 (-(μ 7 c s))))) = n - (minI n (maxI 0 (-(μ 7 c s)))) from w32_id (by simp only [in32]; omega)]
  refine ⟨by omega, ?_⟩
  refine ⟨by omega, ?_⟩
  refine ⟨by omega, ?_⟩
  refine ⟨by omega, ?_⟩
  refine ⟨by omega, ?_⟩
  refine ⟨by omega, ?_⟩
  refine ⟨μ, ⟨rfl, show (0 ≤ s ∧ s ≤ 3) ∧ 0 ≤ ((n - (minI n (maxI 0 (-(μ 7 c s)))))) ∧ ((n - (minI n (maxI 0 (-(μ 7 c s)))))) ≤ cnP (st (st M1 7 c s ((M1 7 c s) + n)) 3 0 c (w64 ((M1 3 0 c) - (w64 (n * (M1 1 0 s)))))) s (pA 0 c) 3000 from ⟨by omega, by omega, Int.le_trans hav (Int.le_of_eq (cnP_cg (fun _ _ => ⟨rfl, rfl⟩)).symm)⟩⟩, fun ov μ' hq => ?_, fun k hk => hk.elim⟩
  obtain ⟨hov, hho⟩ : ov = none ∧ HO (st (st M1 7 c s ((M1 7 c s) + n)) 3 0 c (w64 ((M1 3 0 c) - (w64 (n * (M1 1 0 s)))))) μ' s c 0 1 (n - (minI n (maxI 0 (-(μ 7 c s))))) := hq
  rw [hov]
  clear hov
  rename Mm => M2
  show Run fam0 none cd_X4_buyShares ER ET 73 0 [some (vR 0 0), some (vI c), some (vI s), some (vI n), some (vI (minI n (maxI 0 (-(μ 7 c s)))))] [] M2
  refine run_k 1 ?_
  show ER none M2
  have hbf : al M2 = buysF (al μ) c s n := by
    rw [HO_V hs hho]
    unfold buysF
    rw [e42, hbk, ← hal1]
    dsimp only
    rw [f42]
    rfl
  have hfin := trd_ki hK1 hc hs e44 (Or.inl ⟨rfl, rfl, rfl⟩) hho (by rw [hbf]; exact VB_of hbv) (by split <;> split <;> omega)
  exact hER _ _ ⟨rfl, hbf, hfin.2.1, Fr_tr hF1 hfin.2.2⟩
theorem vw_X4_261 : ∀ w ∈ ([.methodLink RX4 261 yX4_giveBack, .instanceMethod yX4_giveBack, .selects RX4 yX4_giveBack yX4_giveBack, .initialized RX4, .code yX4_giveBack cX4_giveBack 8 none] : List Cond), w ∈ wm := wm_ps _ [505, 507, 17, 50, 508] (by decide +kernel)
set_option maxRecDepth 20000 in
theorem con_X4_buyShares (l : Launch) (htr : l.stackTraces = false) (σ : Mm) : CON fam0 63 l yX4_buyShares (Cond.code yX4_buyShares cX4_buyShares 5 none :: wm) 3 78 0 (cl_X4_buyShares.2.2.1 σ) (cl_X4_buyShares.2.2.2.1 σ) (cl_X4_buyShares.2.2.2.2 σ) :=
  con_of (cd := cd_X4_buyShares) (own := RX4) (rk := 0) (sc_of htr (by decide) k_X4_buyShares_ok (by decide +kernel) co_X4_ok fl_X4_ok (all_cons ⟨RX4, yX4_giveBack, cX4_giveBack, 8, none, 2, 51, 3, con_X4_giveBack l htr, rfl, vw_X4_261, ⟨rfl, by decide, by decide, by decide +kernel⟩, ⟨by decide, by decide⟩, fun σ as μ h => ⟨0, 0, _, h.1, rfl, TX4, 17, rfl⟩⟩ (all_cons ⟨RX0, yX0_handOver, cX0_handOver, 8, none, 0, 0, 5, con_X0_handOver l htr, rfl, vw_X4_264, ⟨rfl, by decide, by decide, by decide +kernel⟩, ⟨by decide, by decide⟩, fun σ as μ h => ⟨33, 0, _, h.1, rfl, TX0, 2, rfl⟩⟩ all_nil)) (all_cons ⟨yJ9_max_7cf53, cJ9_max_7cf53, 2, (some .int), 0, 0, con_J9_max_7cf53 l htr, vw_X4_253, ⟨by decide, by decide, by decide +kernel⟩, ⟨by decide, by decide⟩⟩ (all_cons ⟨yJ9_min_7cf53, cJ9_min_7cf53, 2, (some .int), 0, 0, con_J9_min_7cf53 l htr, vw_X4_258, ⟨by decide, by decide, by decide +kernel⟩, ⟨by decide, by decide⟩⟩ all_nil)) all_nil) rfl (by decide +kernel) rfl rfl rfl rfl (fun as μ hs => by rw [hs.1]; exact Nat.le_of_ble_eq_true rfl)
    (fun as μ hs hM hrg => by
      have hs1 := hs.1
      have hmem : ∀ v, v ∈ ([vR 0 0, vI (iaI as 1), vI (iaI as 2), vI (iaI as 3)] : List AV) → rg fam0 v := by rw [← hs1]; exact hrg
      have key := run_X4_buyShares (ER := cl_X4_buyShares.2.2.2.1 σ as μ) (ET := fun k μ' => cl_X4_buyShares.2.2.2.2 σ as μ k ∧ μ' = μ) σ μ (iaI as 1) (iaI as 2) (iaI as 3) hM (hmem (vI (iaI as 1)) (by simp)) (hmem (vI (iaI as 2)) (by simp)) (hmem (vI (iaI as 3)) (by simp)) hs.2 (fun ov μ' h => h)
      have e : entL as 5 = [some (vR 0 0), some (vI (iaI as 1)), some (vI (iaI as 2)), some (vI (iaI as 3)), none] := by rw [hs1]; rfl
      rw [e]; exact key)
/-! ### Primeborrow.close -/
def cl_X4_close : Cl := (3, 0, fun σ as μ => as = [vR 0 0, vI (iaI as 1), vI (iaI as 2)] ∧ (KI μ ∧ Wk (al μ) ∧ (0 ≤ (iaI as 1) ∧ (iaI as 1) ≤ 5) ∧ (0 ≤ (iaI as 2) ∧ (iaI as 2) ≤ 3)), fun σ as μ ov μ' => ov = none ∧ al μ' = closeF (al μ) (iaI as 1) (iaI as 2) ∧ KI μ' ∧ Fr μ μ', fun σ as μ k => False)
def cd_X4_close : Cd := mkcd k_X4_close co_X4 fl_X4 [(113, cl_X4_sellShares), (110, cl_X4_buyShares)] [] [] [] 4 0 0
set_option maxHeartbeats 4000000 in
set_option maxRecDepth 20000 in
theorem run_X4_close {ER : Option AV → Mm → Prop} {ET : Nat → Mm → Prop} (σ μ : Mm) (c s : Int) (hM : MR fam0 μ) (h_c : in32 c) (h_s : in32 s) (hP : KI μ ∧ Wk (al μ) ∧ (0 ≤ c ∧ c ≤ 5) ∧ (0 ≤ s ∧ s ≤ 3)) (hER : ∀ ov μ', (ov = none ∧ al μ' = closeF (al μ) c s ∧ KI μ' ∧ Fr μ μ') → ER ov μ') : Run fam0 none cd_X4_close ER ET 0 0 [some (vR 0 0), some (vI c), some (vI s), none] [] μ := by
  obtain ⟨hK, hW, hc, hs⟩ := hP
  have hkh := ki_held hK hc hs
  have e42 := al_42 (μ := μ) (c := c) hs
  have e44 := al_r44 μ c
  have hfz : μ 7 c s ≠ 0 → μ 5 0 c = 0 := fun q => by
    by_cases z : al μ 44 0 c = 0
    · exact z
    · have := hK.2.2.2 c s hc.1 hc.2 hs.1 hs.2 z
      omega
  refine run_k 9 ?_
  show (0 ≤ c ∧ c < 6) ∧ ((0 ≤ s ∧ s < 4) ∧ (((μ 7 c s) ≤ 0 → Run fam0 none cd_X4_close ER ET 23 0 [some (vR 0 0), some (vI c), some (vI s), some (vI (μ 7 c s))] [] μ) ∧ (0 < (μ 7 c s) → Run fam0 none cd_X4_close ER ET 13 0 [some (vR 0 0), some (vI c), some (vI s), some (vI (μ 7 c s))] [] μ)))
  refine ⟨by omega, ?_⟩
  refine ⟨by omega, ?_⟩
  refine ⟨fun c1 => ?_, fun c1 => ?_⟩
  · refine run_k 2 ?_
    show (0 ≤ (μ 7 c s) → Run fam0 none cd_X4_close ER ET 35 0 [some (vR 0 0), some (vI c), some (vI s), some (vI (μ 7 c s))] [] μ) ∧ ((μ 7 c s) < 0 → Run fam0 none cd_X4_close ER ET 27 0 [some (vR 0 0), some (vI c), some (vI s), some (vI (μ 7 c s))] [] μ)
    refine ⟨fun c2 => ?_, fun c2 => ?_⟩
    · refine run_k 1 ?_
      show ER none μ
      exact hER _ _ ⟨rfl, by unfold closeF; rw [e42]; first | (rw [if_pos (by omega)]; assumption) | (rw [if_neg (by omega), if_pos (by omega)]; assumption) | (rw [if_neg (by omega), if_neg (by omega)]), by assumption, by first | assumption | exact Fr_rf _⟩
    · refine run_k 6 ?_
      show ∃ σ : Mm, cl_X4_buyShares.2.2.1 σ [vR 0 0, vI c, vI s, vI (w32 (-(μ 7 c s)))] μ ∧ (∀ ov μ', cl_X4_buyShares.2.2.2.1 σ [vR 0 0, vI c, vI s, vI (w32 (-(μ 7 c s)))] μ ov μ' → Run fam0 none cd_X4_close ER ET 35 0 [some (vR 0 0), some (vI c), some (vI s), some (vI (μ 7 c s))] (ov.toList ++ []) μ') ∧ ∀ kx, cl_X4_buyShares.2.2.2.2 σ [vR 0 0, vI c, vI s, vI (w32 (-(μ 7 c s)))] μ kx → thr cd_X4_close ET (Run fam0 none cd_X4_close ER ET) 32 0 [some (vR 0 0), some (vI c), some (vI s), some (vI (μ 7 c s))] μ kx
      rw [show w32 (-(μ 7 c s)) = -(μ 7 c s) from w32_id (by simp only [in32]; omega)]
      refine ⟨μ, ⟨rfl, show KI μ ∧ Wk (al μ) ∧ (0 ≤ c ∧ c ≤ 5) ∧ (0 ≤ s ∧ s ≤ 3) ∧ (1 ≤ ((-(μ 7 c s))) ∧ ((-(μ 7 c s))) ≤ 500) ∧ μ 7 c s + ((-(μ 7 c s))) ≤ 500 ∧ μ 5 0 c = 0 from ⟨by assumption, by assumption, by omega, by omega, by omega, by omega, by omega⟩⟩, fun ov μ' hq => ?_, fun k hk => hk.elim⟩
      obtain ⟨hov, hal4, hK4, hFr4⟩ : ov = none ∧ al μ' = buysF (al μ) c s (-(μ 7 c s)) ∧ KI μ' ∧ Fr μ μ' := hq
      rw [hov]
      clear hov
      rename Mm => M4
      show Run fam0 none cd_X4_close ER ET 35 0 [some (vR 0 0), some (vI c), some (vI s), some (vI (μ 7 c s))] [] M4
      refine run_k 1 ?_
      show ER none M4
      exact hER _ _ ⟨rfl, by unfold closeF; rw [e42]; first | (rw [if_pos (by omega)]; assumption) | (rw [if_neg (by omega), if_pos (by omega)]; assumption) | (rw [if_neg (by omega), if_neg (by omega)]), by assumption, by first | assumption | exact Fr_rf _⟩
  · refine run_k 5 ?_
    show ∃ σ : Mm, cl_X4_sellShares.2.2.1 σ [vR 0 0, vI c, vI s, vI (μ 7 c s)] μ ∧ (∀ ov μ', cl_X4_sellShares.2.2.2.1 σ [vR 0 0, vI c, vI s, vI (μ 7 c s)] μ ov μ' → Run fam0 none cd_X4_close ER ET 20 0 [some (vR 0 0), some (vI c), some (vI s), some (vI (μ 7 c s))] (ov.toList ++ []) μ') ∧ ∀ kx, cl_X4_sellShares.2.2.2.2 σ [vR 0 0, vI c, vI s, vI (μ 7 c s)] μ kx → thr cd_X4_close ET (Run fam0 none cd_X4_close ER ET) 17 0 [some (vR 0 0), some (vI c), some (vI s), some (vI (μ 7 c s))] μ kx
    refine ⟨μ, ⟨rfl, show KI μ ∧ Wk (al μ) ∧ (0 ≤ c ∧ c ≤ 5) ∧ (0 ≤ s ∧ s ≤ 3) ∧ (1 ≤ (μ 7 c s) ∧ (μ 7 c s) ≤ μ 7 c s) from ⟨by assumption, by assumption, by omega, by omega, by omega⟩⟩, fun ov μ' hq => ?_, fun k hk => hk.elim⟩
    obtain ⟨hov, hal6, hK6, hFr6⟩ : ov = none ∧ al μ' = sellsF (al μ) c s (μ 7 c s) ∧ KI μ' ∧ Fr μ μ' := hq
    rw [hov]
    clear hov
    rename Mm => M6
    show Run fam0 none cd_X4_close ER ET 20 0 [some (vR 0 0), some (vI c), some (vI s), some (vI (μ 7 c s))] [] M6
    refine run_k 2 ?_
    show ER none M6
    exact hER _ _ ⟨rfl, by unfold closeF; rw [e42]; first | (rw [if_pos (by omega)]; assumption) | (rw [if_neg (by omega), if_pos (by omega)]; assumption) | (rw [if_neg (by omega), if_neg (by omega)]), by assumption, by first | assumption | exact Fr_rf _⟩
theorem vw_X4_110 : ∀ w ∈ ([.methodLink RX4 110 yX4_buyShares, .instanceMethod yX4_buyShares, .selects RX4 yX4_buyShares yX4_buyShares, .initialized RX4, .code yX4_buyShares cX4_buyShares 5 none] : List Cond), w ∈ wm := wm_ps _ [501, 503, 16, 50, 504] (by decide +kernel)
theorem vw_X4_113 : ∀ w ∈ ([.methodLink RX4 113 yX4_sellShares, .instanceMethod yX4_sellShares, .selects RX4 yX4_sellShares yX4_sellShares, .initialized RX4, .code yX4_sellShares cX4_sellShares 5 none] : List Cond), w ∈ wm := wm_ps _ [520, 522, 18, 50, 523] (by decide +kernel)
set_option maxRecDepth 20000 in
theorem con_X4_close (l : Launch) (htr : l.stackTraces = false) (σ : Mm) : CON fam0 63 l yX4_close (Cond.code yX4_close cX4_close 4 none :: wm) 5 130 0 (cl_X4_close.2.2.1 σ) (cl_X4_close.2.2.2.1 σ) (cl_X4_close.2.2.2.2 σ) :=
  con_of (cd := cd_X4_close) (own := RX4) (rk := 0) (sc_of htr (by decide) k_X4_close_ok (by decide +kernel) co_X4_ok fl_X4_ok (all_cons ⟨RX4, yX4_sellShares, cX4_sellShares, 5, none, 4, 106, 3, con_X4_sellShares l htr, rfl, vw_X4_113, ⟨rfl, by decide, by decide, by decide +kernel⟩, ⟨by decide, by decide⟩, fun σ as μ h => ⟨0, 0, _, h.1, rfl, TX4, 17, rfl⟩⟩ (all_cons ⟨RX4, yX4_buyShares, cX4_buyShares, 5, none, 3, 78, 3, con_X4_buyShares l htr, rfl, vw_X4_110, ⟨rfl, by decide, by decide, by decide +kernel⟩, ⟨by decide, by decide⟩, fun σ as μ h => ⟨0, 0, _, h.1, rfl, TX4, 17, rfl⟩⟩ all_nil)) all_nil all_nil) rfl (by decide +kernel) rfl rfl rfl rfl (fun as μ hs => by rw [hs.1]; exact Nat.le_of_ble_eq_true rfl)
    (fun as μ hs hM hrg => by
      have hs1 := hs.1
      have hmem : ∀ v, v ∈ ([vR 0 0, vI (iaI as 1), vI (iaI as 2)] : List AV) → rg fam0 v := by rw [← hs1]; exact hrg
      have key := run_X4_close (ER := cl_X4_close.2.2.2.1 σ as μ) (ET := fun k μ' => cl_X4_close.2.2.2.2 σ as μ k ∧ μ' = μ) σ μ (iaI as 1) (iaI as 2) hM (hmem (vI (iaI as 1)) (by simp)) (hmem (vI (iaI as 2)) (by simp)) hs.2 (fun ov μ' h => h)
      have e : entL as 4 = [some (vR 0 0), some (vI (iaI as 1)), some (vI (iaI as 2)), none] := by rw [hs1]; rfl
      rw [e]; exact key)
