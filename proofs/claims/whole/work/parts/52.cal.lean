/-! ===== each call, of the class and of the reference -/
theorem Gd_up {B : Int} {m : Mm} (h : Gd B m) : Gd (B + 10000000000000000) m := Gd_le h (by omega)
theorem n_id : Nat1 (fun m => m) := fun _ _ _ _ => rfl
theorem n_price (s v : Int) : Nat1 (fun m => st m 39 0 s v) := fun D hD a b => by
  dsimp only
  rw [rv_s hD (by decide)]
set_option maxHeartbeats 4000000 in
theorem cal_price {B : Int} {μ μ1 : Mm} {ov : Option AV} {s v : Int} (hJ : J B μ) (h0 : 0 ≤ B) (hB : B ≤ 8000000000000000000)  (hq : (((0 ≤ s ∧ s ≤ 3) ∧ (1 ≤ v ∧ v ≤ 100000)) → ov = some (vI 0) ∧ μ1 62 0 0 = (μ 1 0 s) ∧ al μ1 = st (al μ) 39 0 s v ∧ PB2 μ μ1) ∧ ((¬ (0 ≤ s ∧ s ≤ 3)) → ov = some (vI 1) ∧ μ1 = μ) ∧ (((0 ≤ s ∧ s ≤ 3) ∧ ¬ (1 ≤ v ∧ v ≤ 100000)) → ov = some (vI 2) ∧ μ1 = μ)) : ∃ kk, ov = some (vI kk) ∧ PB2 μ μ1 ∧ (Wk μ1 ∧ Xk μ1) ∧ ∀ ov2 μ2, (((¬ (0 ≤ s ∧ s ≤ 3)) → ov2 = some (vI 0) ∧ μ2 = st μ1 38 0 0 1) ∧ (((0 ≤ s ∧ s ≤ 3) ∧ ¬ (1 ≤ v ∧ v ≤ 100000)) → ov2 = some (vI 0) ∧ μ2 = st μ1 38 0 0 2) ∧ (((0 ≤ s ∧ s ≤ 3) ∧ (1 ≤ v ∧ v ≤ 100000)) → ov2 = some (vI (μ1 39 0 s)) ∧ μ2 = st (st μ1 38 0 0 0) 39 0 s v)) → ∃ b, ov2 = some (vI b) ∧ J (B + 10000000000000000) μ2 ∧ μ2 38 0 0 = kk ∧ (kk = 0 → μ2 62 0 0 = b) := by
  have hG := J_gd hJ
  have hK := hJ.1.1
  have hX := hJ.1.2.2.1
  have hP0 := PB2_rf hJ
  have hT : PB2 μ μ1 → rp μ1 = al μ := fun q => J_rp hJ q
  by_cases c0 : 0 ≤ s ∧ s ≤ 3
  · skip
    by_cases c1 : 1 ≤ v ∧ v ≤ 100000
    · skip
      have h := hq.1 ⟨c0, c1⟩
      have hp := hT h.2.2.2
      refine ⟨0, h.1, h.2.2.2, J_pre hJ h.2.2.2, fun ov2 μ2 hr => ?_⟩
      have r := hr.2.2 (by omega)
      have hA : al μ1 = st (al μ) 39 0 s v := by
        exact h.2.2.1
      have hgd : Gd (B + 10000000000000000) (st (al μ) 39 0 s v) := by
        exact ⟨Wk_st hG.1 (by omega), Xk_st hG.2.1 (by decide), Bp_cg (Gd_up hG).2.2.1 (fun j => st_o (by decide)), fun t t0 t1 => by
          by_cases q : t = s
          · rw [q, st_s]; omega
          · rw [st_i q]; exact hG.2.2.2 t t0 t1⟩
      have hj := J_ok (n_price s v) hJ h.2.2.2 hA hgd
      have hu : μ2 = st (st μ1 38 0 0 0) 39 0 s v := by exact r.2
      rw [← hu] at hj
      refine ⟨_, r.1, hj.1, hj.2.1, fun _ => ?_⟩
      rw [hj.2.2.1, h.2.1]
      exact (rq hp (show reF 39 = true by decide)).symm
    · have h := hq.2.2 ⟨c0, c1⟩
      obtain ⟨h1, h2⟩ := h
      have hP1 : PB2 μ μ1 := by rw [h2]; exact hP0
      have hp := hT hP1
      refine ⟨2, h1, hP1, J_pre hJ hP1, fun ov2 μ2 hr => ?_⟩
      have r := hr.2.1 (by omega)
      exact ⟨_, r.1, by rw [r.2, h2]; exact J_err hJ (by omega) 2, by rw [r.2]; exact st_s, fun z => absurd z (by decide)⟩
  · have h := hq.2.1 c0
    obtain ⟨h1, h2⟩ := h
    have hP1 : PB2 μ μ1 := by rw [h2]; exact hP0
    have hp := hT hP1
    refine ⟨1, h1, hP1, J_pre hJ hP1, fun ov2 μ2 hr => ?_⟩
    have r := hr.1 (by omega)
    exact ⟨_, r.1, by rw [r.2, h2]; exact J_err hJ (by omega) 1, by rw [r.2]; exact st_s, fun z => absurd z (by decide)⟩
theorem n_margin (s v : Int) : Nat1 (fun m => st m 40 0 s v) := fun D hD a b => by
  dsimp only
  rw [rv_s hD (by decide)]
set_option maxHeartbeats 4000000 in
theorem cal_margin {B : Int} {μ μ1 : Mm} {ov : Option AV} {s v : Int} (hJ : J B μ) (h0 : 0 ≤ B) (hB : B ≤ 8000000000000000000)  (hq : (((0 ≤ s ∧ s ≤ 3) ∧ (10 ≤ v ∧ v ≤ 100)) → ov = some (vI 0) ∧ μ1 62 0 0 = (μ 2 0 s) ∧ al μ1 = st (al μ) 40 0 s v ∧ PB2 μ μ1) ∧ ((¬ (0 ≤ s ∧ s ≤ 3)) → ov = some (vI 1) ∧ μ1 = μ) ∧ (((0 ≤ s ∧ s ≤ 3) ∧ ¬ (10 ≤ v ∧ v ≤ 100)) → ov = some (vI 2) ∧ μ1 = μ)) : ∃ kk, ov = some (vI kk) ∧ PB2 μ μ1 ∧ (Wk μ1 ∧ Xk μ1) ∧ ∀ ov2 μ2, (((¬ (0 ≤ s ∧ s ≤ 3)) → ov2 = some (vI 0) ∧ μ2 = st μ1 38 0 0 1) ∧ (((0 ≤ s ∧ s ≤ 3) ∧ ¬ (10 ≤ v ∧ v ≤ 100)) → ov2 = some (vI 0) ∧ μ2 = st μ1 38 0 0 2) ∧ (((0 ≤ s ∧ s ≤ 3) ∧ (10 ≤ v ∧ v ≤ 100)) → ov2 = some (vI (μ1 40 0 s)) ∧ μ2 = st (st μ1 38 0 0 0) 40 0 s v)) → ∃ b, ov2 = some (vI b) ∧ J (B + 10000000000000000) μ2 ∧ μ2 38 0 0 = kk ∧ (kk = 0 → μ2 62 0 0 = b) := by
  have hG := J_gd hJ
  have hK := hJ.1.1
  have hX := hJ.1.2.2.1
  have hP0 := PB2_rf hJ
  have hT : PB2 μ μ1 → rp μ1 = al μ := fun q => J_rp hJ q
  by_cases c0 : 0 ≤ s ∧ s ≤ 3
  · skip
    by_cases c1 : 10 ≤ v ∧ v ≤ 100
    · skip
      have h := hq.1 ⟨c0, c1⟩
      have hp := hT h.2.2.2
      refine ⟨0, h.1, h.2.2.2, J_pre hJ h.2.2.2, fun ov2 μ2 hr => ?_⟩
      have r := hr.2.2 (by omega)
      have hA : al μ1 = st (al μ) 40 0 s v := by
        exact h.2.2.1
      have hgd : Gd (B + 10000000000000000) (st (al μ) 40 0 s v) := by
        exact Gd_st (Gd_up hG) (by decide) (Wk_st hG.1 (by omega))
      have hj := J_ok (n_margin s v) hJ h.2.2.2 hA hgd
      have hu : μ2 = st (st μ1 38 0 0 0) 40 0 s v := by exact r.2
      rw [← hu] at hj
      refine ⟨_, r.1, hj.1, hj.2.1, fun _ => ?_⟩
      rw [hj.2.2.1, h.2.1]
      exact (rq hp (show reF 40 = true by decide)).symm
    · have h := hq.2.2 ⟨c0, c1⟩
      obtain ⟨h1, h2⟩ := h
      have hP1 : PB2 μ μ1 := by rw [h2]; exact hP0
      have hp := hT hP1
      refine ⟨2, h1, hP1, J_pre hJ hP1, fun ov2 μ2 hr => ?_⟩
      have r := hr.2.1 (by omega)
      exact ⟨_, r.1, by rw [r.2, h2]; exact J_err hJ (by omega) 2, by rw [r.2]; exact st_s, fun z => absurd z (by decide)⟩
  · have h := hq.2.1 c0
    obtain ⟨h1, h2⟩ := h
    have hP1 : PB2 μ μ1 := by rw [h2]; exact hP0
    have hp := hT hP1
    refine ⟨1, h1, hP1, J_pre hJ hP1, fun ov2 μ2 hr => ?_⟩
    have r := hr.1 (by omega)
    exact ⟨_, r.1, by rw [r.2, h2]; exact J_err hJ (by omega) 1, by rw [r.2]; exact st_s, fun z => absurd z (by decide)⟩
theorem n_cash (c v : Int) : Nat1 (fun m => st m 41 0 c (w64 (m 41 0 c + v))) := fun D hD a b => by
  dsimp only
  rw [rv_g hD (show reF 41 = true by decide), rv_s hD (by decide)]
set_option maxHeartbeats 4000000 in
theorem cal_cash {B : Int} {μ μ1 : Mm} {ov : Option AV} {c v : Int} (hJ : J B μ) (h0 : 0 ≤ B) (hB : B ≤ 8000000000000000000)  (hq : (((0 ≤ c ∧ c ≤ 5) ∧ (-100000000 ≤ v ∧ v ≤ 100000000) ∧ (μ 5 0 c = 0 ∧ (0 ≤ v ∨ ¬ w64 (equityF (al μ) c + v) < needF (al μ) c))) → ov = some (vI 0) ∧ μ1 62 0 0 = (w64 (μ 3 0 c + v)) ∧ al μ1 = st (al μ) 41 0 c (w64 (μ 3 0 c + v)) ∧ PB2 μ μ1) ∧ ((¬ (0 ≤ c ∧ c ≤ 5)) → ov = some (vI 1) ∧ μ1 = μ) ∧ (((0 ≤ c ∧ c ≤ 5) ∧ ¬ (-100000000 ≤ v ∧ v ≤ 100000000)) → ov = some (vI 2) ∧ μ1 = μ) ∧ (((0 ≤ c ∧ c ≤ 5) ∧ (-100000000 ≤ v ∧ v ≤ 100000000) ∧ ¬ (μ 5 0 c = 0 ∧ (0 ≤ v ∨ ¬ w64 (equityF (al μ) c + v) < needF (al μ) c))) → ov = some (vI 3) ∧ μ1 = μ)) : ∃ kk, ov = some (vI kk) ∧ PB2 μ μ1 ∧ (Wk μ1 ∧ Xk μ1) ∧ ∀ ov2 μ2, (((¬ (0 ≤ c ∧ c ≤ 5)) → ov2 = some (vL 0) ∧ μ2 = st μ1 38 0 0 1) ∧ (((0 ≤ c ∧ c ≤ 5) ∧ ¬ (-100000000 ≤ v ∧ v ≤ 100000000)) → ov2 = some (vL 0) ∧ μ2 = st μ1 38 0 0 2) ∧ ((((0 ≤ c ∧ c ≤ 5) ∧ (-100000000 ≤ v ∧ v ≤ 100000000)) ∧ (μ1 44 0 c ≠ 0 ∨ (v < 0 ∧ w64 (equityF μ1 c + v) < needF μ1 c))) → ov2 = some (vL 0) ∧ μ2 = st μ1 38 0 0 3) ∧ ((((0 ≤ c ∧ c ≤ 5) ∧ (-100000000 ≤ v ∧ v ≤ 100000000)) ∧ (μ1 44 0 c = 0 ∧ (0 ≤ v ∨ ¬ w64 (equityF μ1 c + v) < needF μ1 c))) → ov2 = some (vL (w64 (μ1 41 0 c + v))) ∧ μ2 = st (st μ1 38 0 0 0) 41 0 c (w64 (μ1 41 0 c + v)))) → ∃ b, ov2 = some (vL b) ∧ J (B + 10000000000000000) μ2 ∧ μ2 38 0 0 = kk ∧ (kk = 0 → μ2 62 0 0 = b) := by
  have hG := J_gd hJ
  have hK := hJ.1.1
  have hX := hJ.1.2.2.1
  have hP0 := PB2_rf hJ
  have hT : PB2 μ μ1 → rp μ1 = al μ := fun q => J_rp hJ q
  by_cases c0 : 0 ≤ c ∧ c ≤ 5
  · skip
    by_cases c1 : -100000000 ≤ v ∧ v ≤ 100000000
    · skip
      by_cases c2 : μ 5 0 c = 0 ∧ (0 ≤ v ∨ ¬ w64 (equityF (al μ) c + v) < needF (al μ) c)
      · skip
        have h := hq.1 ⟨c0, c1, c2⟩
        have hp := hT h.2.2.2
        have e44 : μ1 44 0 c = μ 5 0 c := rq hp (show reF 44 = true by decide)
        have eE : equityF μ1 c = equityF (al μ) c := rv_at (f := fun m => equityF m c) (fun D hD a b => rv_equity hD b c) hp
        have eN : needF μ1 c = needF (al μ) c := rv_at (f := fun m => needF m c) (fun D hD a b => rv_need hD b c) hp
        have eS : w64 (equityF μ1 c + v) = w64 (equityF (al μ) c + v) := by rw [eE]
        refine ⟨0, h.1, h.2.2.2, J_pre hJ h.2.2.2, fun ov2 μ2 hr => ?_⟩
        have r := hr.2.2.2 (by omega)
        have hA : al μ1 = st (al μ) 41 0 c (w64 ((al μ) 41 0 c + v)) := by
          exact h.2.2.1
        have hgd : Gd (B + 10000000000000000) (st (al μ) 41 0 c (w64 ((al μ) 41 0 c + v))) := by
          have hb := hG.2.2.1 c
          rw [w64_in (x := al μ 41 0 c + v) (B := B + 100000000) (by omega) (by omega)]
          exact ⟨Wk_st hG.1 (by omega), Xk_st hG.2.1 (by decide), Bp_st (d := 10000000000000000) hG.2.2.1 c (fun q0 q1 => by omega) (by decide), Pr_cg hG.2.2.2 (fun j => st_o (by decide))⟩
        have hj := J_ok (n_cash c v) hJ h.2.2.2 hA hgd
        have hu : μ2 = st (st μ1 38 0 0 0) 41 0 c (w64 ((st μ1 38 0 0 0) 41 0 c + v)) := by exact r.2
        rw [← hu] at hj
        refine ⟨_, r.1, hj.1, hj.2.1, fun _ => ?_⟩
        rw [hj.2.2.1, h.2.1]
        rw [show μ1 41 0 c = μ 3 0 c from rq hp (show reF 41 = true by decide)]
      · have h := hq.2.2.2 ⟨c0, c1, c2⟩
        obtain ⟨h1, h2⟩ := h
        have hP1 : PB2 μ μ1 := by rw [h2]; exact hP0
        have hp := hT hP1
        have e44 : μ1 44 0 c = μ 5 0 c := rq hp (show reF 44 = true by decide)
        have eE : equityF μ1 c = equityF (al μ) c := rv_at (f := fun m => equityF m c) (fun D hD a b => rv_equity hD b c) hp
        have eN : needF μ1 c = needF (al μ) c := rv_at (f := fun m => needF m c) (fun D hD a b => rv_need hD b c) hp
        have eS : w64 (equityF μ1 c + v) = w64 (equityF (al μ) c + v) := by rw [eE]
        refine ⟨3, h1, hP1, J_pre hJ hP1, fun ov2 μ2 hr => ?_⟩
        have r := hr.2.2.1 (by omega)
        exact ⟨_, r.1, by rw [r.2, h2]; exact J_err hJ (by omega) 3, by rw [r.2]; exact st_s, fun z => absurd z (by decide)⟩
    · have h := hq.2.2.1 ⟨c0, c1⟩
      obtain ⟨h1, h2⟩ := h
      have hP1 : PB2 μ μ1 := by rw [h2]; exact hP0
      have hp := hT hP1
      have e44 : μ1 44 0 c = μ 5 0 c := rq hp (show reF 44 = true by decide)
      have eE : equityF μ1 c = equityF (al μ) c := rv_at (f := fun m => equityF m c) (fun D hD a b => rv_equity hD b c) hp
      have eN : needF μ1 c = needF (al μ) c := rv_at (f := fun m => needF m c) (fun D hD a b => rv_need hD b c) hp
      have eS : w64 (equityF μ1 c + v) = w64 (equityF (al μ) c + v) := by rw [eE]
      refine ⟨2, h1, hP1, J_pre hJ hP1, fun ov2 μ2 hr => ?_⟩
      have r := hr.2.1 (by omega)
      exact ⟨_, r.1, by rw [r.2, h2]; exact J_err hJ (by omega) 2, by rw [r.2]; exact st_s, fun z => absurd z (by decide)⟩
  · have h := hq.2.1 c0
    obtain ⟨h1, h2⟩ := h
    have hP1 : PB2 μ μ1 := by rw [h2]; exact hP0
    have hp := hT hP1
    have e44 : μ1 44 0 c = μ 5 0 c := rq hp (show reF 44 = true by decide)
    have eE : equityF μ1 c = equityF (al μ) c := rv_at (f := fun m => equityF m c) (fun D hD a b => rv_equity hD b c) hp
    have eN : needF μ1 c = needF (al μ) c := rv_at (f := fun m => needF m c) (fun D hD a b => rv_need hD b c) hp
    have eS : w64 (equityF μ1 c + v) = w64 (equityF (al μ) c + v) := by rw [eE]
    refine ⟨1, h1, hP1, J_pre hJ hP1, fun ov2 μ2 hr => ?_⟩
    have r := hr.1 (by omega)
    exact ⟨_, r.1, by rw [r.2, h2]; exact J_err hJ (by omega) 1, by rw [r.2]; exact st_s, fun z => absurd z (by decide)⟩
theorem n_allow (c v : Int) : Nat1 (fun m => st m 43 0 c v) := fun D hD a b => by
  dsimp only
  rw [rv_s hD (by decide)]
set_option maxHeartbeats 4000000 in
theorem cal_allow {B : Int} {μ μ1 : Mm} {ov : Option AV} {c m : Int} (hJ : J B μ) (h0 : 0 ≤ B) (hB : B ≤ 8000000000000000000) (hm : (m = 0 ∨ m = 1)) (hq : (((0 ≤ c ∧ c ≤ 5) ∧ (μ 5 0 c = 0)) → ov = some (vI 0) ∧ μ1 62 0 0 = (μ 4 0 c) ∧ al μ1 = st (al μ) 43 0 c m ∧ PB2 μ μ1) ∧ ((¬ (0 ≤ c ∧ c ≤ 5)) → ov = some (vI 1) ∧ μ1 = μ) ∧ (((0 ≤ c ∧ c ≤ 5) ∧ ¬ (μ 5 0 c = 0)) → ov = some (vI 2) ∧ μ1 = μ)) : ∃ kk, ov = some (vI kk) ∧ PB2 μ μ1 ∧ (Wk μ1 ∧ Xk μ1) ∧ ∀ ov2 μ2, (((¬ (0 ≤ c ∧ c ≤ 5)) → ov2 = some (vI 0) ∧ μ2 = st μ1 38 0 0 1) ∧ (((0 ≤ c ∧ c ≤ 5) ∧ μ1 44 0 c ≠ 0) → ov2 = some (vI 0) ∧ μ2 = st μ1 38 0 0 2) ∧ (((0 ≤ c ∧ c ≤ 5) ∧ μ1 44 0 c = 0) → ov2 = some (vI (μ1 43 0 c)) ∧ μ2 = st (st μ1 38 0 0 0) 43 0 c m)) → ∃ b, ov2 = some (vI b) ∧ J (B + 10000000000000000) μ2 ∧ μ2 38 0 0 = kk ∧ (kk = 0 → μ2 62 0 0 = b) ∧ (b = 0 ∨ b = 1) := by
  have hG := J_gd hJ
  have hK := hJ.1.1
  have hX := hJ.1.2.2.1
  have hP0 := PB2_rf hJ
  have hT : PB2 μ μ1 → rp μ1 = al μ := fun q => J_rp hJ q
  by_cases c0 : 0 ≤ c ∧ c ≤ 5
  · skip
    by_cases c1 : μ 5 0 c = 0
    · skip
      have h := hq.1 ⟨c0, c1⟩
      have hp := hT h.2.2.2
      have e44 : μ1 44 0 c = μ 5 0 c := rq hp (show reF 44 = true by decide)
      refine ⟨0, h.1, h.2.2.2, J_pre hJ h.2.2.2, fun ov2 μ2 hr => ?_⟩
      have r := hr.2.2 (by omega)
      have hA : al μ1 = st (al μ) 43 0 c m := by
        exact h.2.2.1
      have hgd : Gd (B + 10000000000000000) (st (al μ) 43 0 c m) := by
        refine ⟨Wk_st hG.1 (by omega), ?_, Bp_cg (Gd_up hG).2.2.1 (fun j => st_o (by decide)), Pr_cg hG.2.2.2 (fun j => st_o (by decide))⟩
        obtain ⟨x1, x2, x3, x4⟩ := hG.2.1
        refine ⟨x1, x2, x3, fun d d0 d1 => ⟨?_, by rw [st_o (by decide)]; exact (x4 d d0 d1).2⟩⟩
        by_cases q : d = c
        · rw [q, st_s]; exact hm
        · rw [st_i q]; exact (x4 d d0 d1).1
      have hj := J_ok (n_allow c m) hJ h.2.2.2 hA hgd
      have hu : μ2 = st (st μ1 38 0 0 0) 43 0 c m := by exact r.2
      rw [← hu] at hj
      refine ⟨_, r.1, hj.1, hj.2.1, fun _ => ?_, by rw [show μ1 43 0 c = al μ 43 0 c from rq hp (by decide)]; exact (hG.2.1.2.2.2 c (by omega) (by omega)).1⟩
      rw [hj.2.2.1, h.2.1]
      have e43 := al_43 μ c
      rw [if_neg (by omega)] at e43
      rw [← e43]
      exact (rq hp (show reF 43 = true by decide)).symm
    · have h := hq.2.2 ⟨c0, c1⟩
      obtain ⟨h1, h2⟩ := h
      have hP1 : PB2 μ μ1 := by rw [h2]; exact hP0
      have hp := hT hP1
      have e44 : μ1 44 0 c = μ 5 0 c := rq hp (show reF 44 = true by decide)
      refine ⟨2, h1, hP1, J_pre hJ hP1, fun ov2 μ2 hr => ?_⟩
      have r := hr.2.1 (by omega)
      exact ⟨_, r.1, by rw [r.2, h2]; exact J_err hJ (by omega) 2, by rw [r.2]; exact st_s, fun z => absurd z (by decide), Or.inl rfl⟩
  · have h := hq.2.1 c0
    obtain ⟨h1, h2⟩ := h
    have hP1 : PB2 μ μ1 := by rw [h2]; exact hP0
    have hp := hT hP1
    have e44 : μ1 44 0 c = μ 5 0 c := rq hp (show reF 44 = true by decide)
    refine ⟨1, h1, hP1, J_pre hJ hP1, fun ov2 μ2 hr => ?_⟩
    have r := hr.1 (by omega)
    exact ⟨_, r.1, by rw [r.2, h2]; exact J_err hJ (by omega) 1, by rw [r.2]; exact st_s, fun z => absurd z (by decide), Or.inl rfl⟩
theorem n_offer (l s n f : Int) : Nat1 (fun m => st (st m 45 0 (4 * l + s) (m 45 0 (4 * l + s) + n)) 46 0 (4 * l + s) f) := fun D hD a b => by
  dsimp only
  rw [rv_g hD (show reF 45 = true by decide), rv_s hD (by decide), rv_s hD (by decide)]
set_option maxHeartbeats 4000000 in
theorem cal_offer {B : Int} {μ μ1 : Mm} {ov : Option AV} {l s n f : Int} (hJ : J B μ) (h0 : 0 ≤ B) (hB : B ≤ 8000000000000000000)  (hq : ((((0 ≤ l ∧ l ≤ 3) ∧ (0 ≤ s ∧ s ≤ 3)) ∧ ((0 ≤ n ∧ n ≤ 500) ∧ (0 ≤ f ∧ f ≤ 10000)) ∧ (μ 9 l s + n ≤ 2000)) → ov = some (vI 0) ∧ μ1 62 0 0 = (μ 9 l s + n) ∧ al μ1 = st (st (al μ) 45 0 (4 * l + s) (μ 9 l s + n)) 46 0 (4 * l + s) f ∧ PB2 μ μ1) ∧ ((¬ ((0 ≤ l ∧ l ≤ 3) ∧ (0 ≤ s ∧ s ≤ 3))) → ov = some (vI 1) ∧ μ1 = μ) ∧ ((((0 ≤ l ∧ l ≤ 3) ∧ (0 ≤ s ∧ s ≤ 3)) ∧ ¬ ((0 ≤ n ∧ n ≤ 500) ∧ (0 ≤ f ∧ f ≤ 10000))) → ov = some (vI 2) ∧ μ1 = μ) ∧ ((((0 ≤ l ∧ l ≤ 3) ∧ (0 ≤ s ∧ s ≤ 3)) ∧ ((0 ≤ n ∧ n ≤ 500) ∧ (0 ≤ f ∧ f ≤ 10000)) ∧ ¬ (μ 9 l s + n ≤ 2000)) → ov = some (vI 3) ∧ μ1 = μ)) : ∃ kk, ov = some (vI kk) ∧ PB2 μ μ1 ∧ (Wk μ1 ∧ Xk μ1) ∧ ∀ ov2 μ2, (((¬ ((0 ≤ l ∧ l ≤ 3) ∧ (0 ≤ s ∧ s ≤ 3))) → ov2 = some (vI 0) ∧ μ2 = st μ1 38 0 0 1) ∧ ((((0 ≤ l ∧ l ≤ 3) ∧ (0 ≤ s ∧ s ≤ 3)) ∧ ¬ ((0 ≤ n ∧ n ≤ 500) ∧ (0 ≤ f ∧ f ≤ 10000))) → ov2 = some (vI 0) ∧ μ2 = st μ1 38 0 0 2) ∧ (((((0 ≤ l ∧ l ≤ 3) ∧ (0 ≤ s ∧ s ≤ 3)) ∧ ((0 ≤ n ∧ n ≤ 500) ∧ (0 ≤ f ∧ f ≤ 10000))) ∧ 2000 < μ1 45 0 (4 * l + s) + n) → ov2 = some (vI 0) ∧ μ2 = st μ1 38 0 0 3) ∧ (((((0 ≤ l ∧ l ≤ 3) ∧ (0 ≤ s ∧ s ≤ 3)) ∧ ((0 ≤ n ∧ n ≤ 500) ∧ (0 ≤ f ∧ f ≤ 10000))) ∧ μ1 45 0 (4 * l + s) + n ≤ 2000) → ov2 = some (vI (μ1 45 0 (4 * l + s) + n)) ∧ μ2 = st (st (st μ1 38 0 0 0) 45 0 (4 * l + s) (μ1 45 0 (4 * l + s) + n)) 46 0 (4 * l + s) f)) → ∃ b, ov2 = some (vI b) ∧ J (B + 10000000000000000) μ2 ∧ μ2 38 0 0 = kk ∧ (kk = 0 → μ2 62 0 0 = b) := by
  have hG := J_gd hJ
  have hK := hJ.1.1
  have hX := hJ.1.2.2.1
  have hP0 := PB2_rf hJ
  have hT : PB2 μ μ1 → rp μ1 = al μ := fun q => J_rp hJ q
  by_cases c0 : (0 ≤ l ∧ l ≤ 3) ∧ (0 ≤ s ∧ s ≤ 3)
  · skip
    by_cases c1 : (0 ≤ n ∧ n ≤ 500) ∧ (0 ≤ f ∧ f ≤ 10000)
    · skip
      by_cases c2 : μ 9 l s + n ≤ 2000
      · skip
        have h := hq.1 ⟨c0, c1, c2⟩
        have hp := hT h.2.2.2
        have e45 : (0 ≤ s ∧ s ≤ 3) → μ1 45 0 (4 * l + s) = μ 9 l s := fun q => (rq hp (show reF 45 = true by decide)).trans (al_45 q)
        refine ⟨0, h.1, h.2.2.2, J_pre hJ h.2.2.2, fun ov2 μ2 hr => ?_⟩
        have r := hr.2.2.2 (by omega)
        have hA : al μ1 = st (st (al μ) 45 0 (4 * l + s) ((al μ) 45 0 (4 * l + s) + n)) 46 0 (4 * l + s) f := by
          rw [h.2.2.1]
          rw [al_45 (by omega)]
        have hgd : Gd (B + 10000000000000000) (st (st (al μ) 45 0 (4 * l + s) ((al μ) 45 0 (4 * l + s) + n)) 46 0 (4 * l + s) f) := by
          have hW := Wk_off hG.1 (l := l) (s := s) (n := n) (f := f) (by omega) (by omega) (by omega) (by omega) (by rw [al_45 (by omega)]; omega)
          exact ⟨hW, Xk_st (Xk_st hG.2.1 (by decide)) (by decide), Bp_cg (Gd_up hG).2.2.1 (fun j => (st_o (by decide)).trans (st_o (by decide))), Pr_cg hG.2.2.2 (fun j => (st_o (by decide)).trans (st_o (by decide)))⟩
        have hj := J_ok (n_offer l s n f) hJ h.2.2.2 hA hgd
        have hu : μ2 = st (st (st μ1 38 0 0 0) 45 0 (4 * l + s) ((st μ1 38 0 0 0) 45 0 (4 * l + s) + n)) 46 0 (4 * l + s) f := by exact r.2
        rw [← hu] at hj
        refine ⟨_, r.1, hj.1, hj.2.1, fun _ => ?_⟩
        rw [hj.2.2.1, h.2.1]
        exact congrArg (· + n) (e45 (by omega)).symm
      · have h := hq.2.2.2 ⟨c0, c1, c2⟩
        obtain ⟨h1, h2⟩ := h
        have hP1 : PB2 μ μ1 := by rw [h2]; exact hP0
        have hp := hT hP1
        have e45 : (0 ≤ s ∧ s ≤ 3) → μ1 45 0 (4 * l + s) = μ 9 l s := fun q => (rq hp (show reF 45 = true by decide)).trans (al_45 q)
        refine ⟨3, h1, hP1, J_pre hJ hP1, fun ov2 μ2 hr => ?_⟩
        have r := hr.2.2.1 (by omega)
        exact ⟨_, r.1, by rw [r.2, h2]; exact J_err hJ (by omega) 3, by rw [r.2]; exact st_s, fun z => absurd z (by decide)⟩
    · have h := hq.2.2.1 ⟨c0, c1⟩
      obtain ⟨h1, h2⟩ := h
      have hP1 : PB2 μ μ1 := by rw [h2]; exact hP0
      have hp := hT hP1
      have e45 : (0 ≤ s ∧ s ≤ 3) → μ1 45 0 (4 * l + s) = μ 9 l s := fun q => (rq hp (show reF 45 = true by decide)).trans (al_45 q)
      refine ⟨2, h1, hP1, J_pre hJ hP1, fun ov2 μ2 hr => ?_⟩
      have r := hr.2.1 (by omega)
      exact ⟨_, r.1, by rw [r.2, h2]; exact J_err hJ (by omega) 2, by rw [r.2]; exact st_s, fun z => absurd z (by decide)⟩
  · have h := hq.2.1 c0
    obtain ⟨h1, h2⟩ := h
    have hP1 : PB2 μ μ1 := by rw [h2]; exact hP0
    have hp := hT hP1
    have e45 : (0 ≤ s ∧ s ≤ 3) → μ1 45 0 (4 * l + s) = μ 9 l s := fun q => (rq hp (show reF 45 = true by decide)).trans (al_45 q)
    refine ⟨1, h1, hP1, J_pre hJ hP1, fun ov2 μ2 hr => ?_⟩
    have r := hr.1 (by omega)
    exact ⟨_, r.1, by rw [r.2, h2]; exact J_err hJ (by omega) 1, by rw [r.2]; exact st_s, fun z => absurd z (by decide)⟩
theorem n_dividend (s v : Int) : Nat1 (fun m => (itB s v 4 (itA s v 6 m)).1) := fun D hD a b => by
  dsimp only
  rw [rv_itA hD, rv_itB hD]
set_option maxHeartbeats 4000000 in
theorem cal_dividend {B : Int} {μ μ1 : Mm} {ov : Option AV} {s v : Int} (hJ : J B μ) (h0 : 0 ≤ B) (hB : B ≤ 8000000000000000000)  (hq : (((0 ≤ s ∧ s ≤ 3) ∧ (1 ≤ v ∧ v ≤ 10000)) → ov = some (vI 0) ∧ μ1 62 0 0 = ((divB (al μ) s v 4).2) ∧ al μ1 = (divB (al μ) s v 4).1 ∧ PB2 μ μ1) ∧ ((¬ (0 ≤ s ∧ s ≤ 3)) → ov = some (vI 1) ∧ μ1 = μ) ∧ (((0 ≤ s ∧ s ≤ 3) ∧ ¬ (1 ≤ v ∧ v ≤ 10000)) → ov = some (vI 2) ∧ μ1 = μ)) : ∃ kk, ov = some (vI kk) ∧ PB2 μ μ1 ∧ (Wk μ1 ∧ Xk μ1) ∧ ∀ ov2 μ2, (((¬ (0 ≤ s ∧ s ≤ 3)) → ov2 = some (vL 0) ∧ μ2 = st μ1 38 0 0 1) ∧ (((0 ≤ s ∧ s ≤ 3) ∧ ¬ (1 ≤ v ∧ v ≤ 10000)) → ov2 = some (vL 0) ∧ μ2 = st μ1 38 0 0 2) ∧ (((0 ≤ s ∧ s ≤ 3) ∧ (1 ≤ v ∧ v ≤ 10000)) → ov2 = some (vL ((divB μ1 s v 4).2)) ∧ μ2 = (divB μ1 s v 4).1)) → ∃ b, ov2 = some (vL b) ∧ J (B + 10000000000000000) μ2 ∧ μ2 38 0 0 = kk ∧ (kk = 0 → μ2 62 0 0 = b) := by
  have hG := J_gd hJ
  have hK := hJ.1.1
  have hX := hJ.1.2.2.1
  have hP0 := PB2_rf hJ
  have hT : PB2 μ μ1 → rp μ1 = al μ := fun q => J_rp hJ q
  by_cases c0 : 0 ≤ s ∧ s ≤ 3
  · skip
    by_cases c1 : 1 ≤ v ∧ v ≤ 10000
    · skip
      have h := hq.1 ⟨c0, c1⟩
      have hp := hT h.2.2.2
      refine ⟨0, h.1, h.2.2.2, J_pre hJ h.2.2.2, fun ov2 μ2 hr => ?_⟩
      have r := hr.2.2 (by omega)
      have hA : al μ1 = (itB s v 4 (itA s v 6 (al μ))).1 := by
        rw [h.2.2.1, dv_B, al_th]
      have hgd : Gd (B + 10000000000000000) ((itB s v 4 (itA s v 6 (al μ))).1) := by
        have hA6 := itA_B (k := 6) hG.1 (s := s) (v := v) (by omega) (by omega) hG.2.2.1 h0 (by decide) (by omega)
        have hu : ∀ (g : Nat) (t j : Int), g ≠ 41 → g ≠ 47 → (itB s v 4 (itA s v 6 (al μ))).1 g t j = al μ g t j := fun g t j q1 q2 => (itB_u s v _ q2 4).trans (hA6.1 g t j q1)
        exact ⟨Wk_cg hG.1 (hu 38 0 11 (by decide) (by decide)) (fun g j q => hu g 0 j (by omega) (by omega)), Xk_cg hG.2.1 (hu 38 0 17 (by decide) (by decide)) (hu 38 0 23 (by decide) (by decide)) (by rw [hu 38 0 1 (by decide) (by decide)]; have := hG.2.1.1; omega) (fun g j q => hu g 0 j (by omega) (by omega)), Bp_le (Bp_cg hA6.2 (fun j => itB_u s v _ (by decide) 4)) (by omega), Pr_cg hG.2.2.2 (fun j => hu 39 0 j (by decide) (by decide))⟩
      have hj := J_ok (n_dividend s v) hJ h.2.2.2 hA hgd
      have hu : μ2 = (itB s v 4 (itA s v 6 (st μ1 38 0 0 0))).1 := by rw [r.2]; show (divB μ1 s v 4).1 = _; rw [dv_B]
      rw [← hu] at hj
      refine ⟨_, r.1, hj.1, hj.2.1, fun _ => ?_⟩
      rw [hj.2.2.1, h.2.1]
      rw [dv_B, dv_B, al_th]
      exact (rv_at0 (f := fun m => (itB s v 4 (itA s v 6 m)).2) (fun D hD a b => by rw [rv_itA hD, rv_itB hD]) hp).symm
    · have h := hq.2.2 ⟨c0, c1⟩
      obtain ⟨h1, h2⟩ := h
      have hP1 : PB2 μ μ1 := by rw [h2]; exact hP0
      have hp := hT hP1
      refine ⟨2, h1, hP1, J_pre hJ hP1, fun ov2 μ2 hr => ?_⟩
      have r := hr.2.1 (by omega)
      exact ⟨_, r.1, by rw [r.2, h2]; exact J_err hJ (by omega) 2, by rw [r.2]; exact st_s, fun z => absurd z (by decide)⟩
  · have h := hq.2.1 c0
    obtain ⟨h1, h2⟩ := h
    have hP1 : PB2 μ μ1 := by rw [h2]; exact hP0
    have hp := hT hP1
    refine ⟨1, h1, hP1, J_pre hJ hP1, fun ov2 μ2 hr => ?_⟩
    have r := hr.1 (by omega)
    exact ⟨_, r.1, by rw [r.2, h2]; exact J_err hJ (by omega) 1, by rw [r.2]; exact st_s, fun z => absurd z (by decide)⟩
theorem n_pass (k : Nat) : Nat1 (fun m => itP k m) := fun D hD a b => rv_itP hD b k
set_option maxHeartbeats 4000000 in
theorem cal_pass {B : Int} {μ μ1 : Mm} {ov : Option AV} {n : Int} (hJ : J B μ) (h0 : 0 ≤ B) (hB : B ≤ 8000000000000000000)  (hq : (((1 ≤ n ∧ n ≤ 50) ∧ (μ 0 0 14 + n ≤ 500)) → ov = some (vI 0) ∧ μ1 62 0 0 = (μ 0 0 14 + n) ∧ al μ1 = psL (al μ) n.toNat ∧ PB2 μ μ1) ∧ ((¬ (1 ≤ n ∧ n ≤ 50)) → ov = some (vI 1) ∧ μ1 = μ) ∧ (((1 ≤ n ∧ n ≤ 50) ∧ ¬ (μ 0 0 14 + n ≤ 500)) → ov = some (vI 2) ∧ μ1 = μ)) : ∃ kk, ov = some (vI kk) ∧ PB2 μ μ1 ∧ (Wk μ1 ∧ Xk μ1) ∧ ∀ ov2 μ2, (((¬ (1 ≤ n ∧ n ≤ 50)) → ov2 = some (vI 0) ∧ μ2 = st μ1 38 0 0 1) ∧ (((1 ≤ n ∧ n ≤ 50) ∧ 500 < μ1 38 0 1 + n) → ov2 = some (vI 0) ∧ μ2 = st μ1 38 0 0 2) ∧ (((1 ≤ n ∧ n ≤ 50) ∧ μ1 38 0 1 + n ≤ 500) → ov2 = some (vI (μ1 38 0 1 + n)) ∧ μ2 = psL μ1 n.toNat)) → ∃ b, ov2 = some (vI b) ∧ J (B + 10000000000000000) μ2 ∧ μ2 38 0 0 = kk ∧ (kk = 0 → μ2 62 0 0 = b) := by
  have hG := J_gd hJ
  have hK := hJ.1.1
  have hX := hJ.1.2.2.1
  have hP0 := PB2_rf hJ
  have hT : PB2 μ μ1 → rp μ1 = al μ := fun q => J_rp hJ q
  by_cases c0 : 1 ≤ n ∧ n ≤ 50
  · skip
    by_cases c1 : μ 0 0 14 + n ≤ 500
    · skip
      have h := hq.1 ⟨c0, c1⟩
      have hp := hT h.2.2.2
      have e1 : μ1 38 0 1 = μ 0 0 14 := rqn hp (by decide)
      refine ⟨0, h.1, h.2.2.2, J_pre hJ h.2.2.2, fun ov2 μ2 hr => ?_⟩
      have r := hr.2.2 (by omega)
      have hA : al μ1 = itP n.toNat (al μ) := by
        rw [h.2.2.1, ps_it, al_th]
      have hgd : Gd (B + 10000000000000000) (itP n.toNat (al μ)) := by
        have hp := itP_B hG.1 hG.2.1 hG.2.2.1 hG.2.2.2 h0 n.toNat (by have e : al μ 38 0 1 = μ 0 0 14 := rfl; omega) (by omega) (by omega)
        exact ⟨hp.1.1, hp.1.2.1, Bp_le hp.2.1 (by omega), hp.2.2⟩
      have hj := J_ok (n_pass n.toNat) hJ h.2.2.2 hA hgd
      have hu : μ2 = itP n.toNat (st μ1 38 0 0 0) := by rw [r.2]; exact ps_it _ _
      rw [← hu] at hj
      refine ⟨_, r.1, hj.1, hj.2.1, fun _ => ?_⟩
      rw [hj.2.2.1, h.2.1]
      rw [e1]
    · have h := hq.2.2 ⟨c0, c1⟩
      obtain ⟨h1, h2⟩ := h
      have hP1 : PB2 μ μ1 := by rw [h2]; exact hP0
      have hp := hT hP1
      have e1 : μ1 38 0 1 = μ 0 0 14 := rqn hp (by decide)
      refine ⟨2, h1, hP1, J_pre hJ hP1, fun ov2 μ2 hr => ?_⟩
      have r := hr.2.1 (by omega)
      exact ⟨_, r.1, by rw [r.2, h2]; exact J_err hJ (by omega) 2, by rw [r.2]; exact st_s, fun z => absurd z (by decide)⟩
  · have h := hq.2.1 c0
    obtain ⟨h1, h2⟩ := h
    have hP1 : PB2 μ μ1 := by rw [h2]; exact hP0
    have hp := hT hP1
    have e1 : μ1 38 0 1 = μ 0 0 14 := rqn hp (by decide)
    refine ⟨1, h1, hP1, J_pre hJ hP1, fun ov2 μ2 hr => ?_⟩
    have r := hr.1 (by omega)
    exact ⟨_, r.1, by rw [r.2, h2]; exact J_err hJ (by omega) 1, by rw [r.2]; exact st_s, fun z => absurd z (by decide)⟩
theorem n_buy (c s n : Int) : Nat1 (fun m => buysF m c s n) := fun D hD a b => ov_buysF hD.co b c s n
set_option maxHeartbeats 4000000 in
theorem cal_buy {B : Int} {μ μ1 : Mm} {ov : Option AV} {c s n : Int} (hJ : J B μ) (h0 : 0 ≤ B) (hB : B ≤ 8000000000000000000)  (hq : ((((0 ≤ c ∧ c ≤ 5) ∧ (0 ≤ s ∧ s ≤ 3)) ∧ (1 ≤ n ∧ n ≤ 500) ∧ (μ 5 0 c = 0 ∧ μ 7 c s + n ≤ 500)) → ov = some (vI 0) ∧ μ1 62 0 0 = (buysF (al μ) c s n 41 0 c) ∧ al μ1 = buysF (al μ) c s n ∧ PB2 μ μ1) ∧ ((¬ ((0 ≤ c ∧ c ≤ 5) ∧ (0 ≤ s ∧ s ≤ 3))) → ov = some (vI 1) ∧ μ1 = μ) ∧ ((((0 ≤ c ∧ c ≤ 5) ∧ (0 ≤ s ∧ s ≤ 3)) ∧ ¬ (1 ≤ n ∧ n ≤ 500)) → ov = some (vI 2) ∧ μ1 = μ) ∧ ((((0 ≤ c ∧ c ≤ 5) ∧ (0 ≤ s ∧ s ≤ 3)) ∧ (1 ≤ n ∧ n ≤ 500) ∧ ¬ (μ 5 0 c = 0 ∧ μ 7 c s + n ≤ 500)) → ov = some (vI 3) ∧ μ1 = μ)) : ∃ kk, ov = some (vI kk) ∧ PB2 μ μ1 ∧ (Wk μ1 ∧ Xk μ1) ∧ ∀ ov2 μ2, (((¬ ((0 ≤ c ∧ c ≤ 5) ∧ (0 ≤ s ∧ s ≤ 3))) → ov2 = some (vL 0) ∧ μ2 = st μ1 38 0 0 1) ∧ ((((0 ≤ c ∧ c ≤ 5) ∧ (0 ≤ s ∧ s ≤ 3)) ∧ ¬ (1 ≤ n ∧ n ≤ 500)) → ov2 = some (vL 0) ∧ μ2 = st μ1 38 0 0 2) ∧ (((((0 ≤ c ∧ c ≤ 5) ∧ (0 ≤ s ∧ s ≤ 3)) ∧ (1 ≤ n ∧ n ≤ 500)) ∧ (μ1 44 0 c ≠ 0 ∨ 500 < μ1 42 0 (4 * c + s) + n)) → ov2 = some (vL 0) ∧ μ2 = st μ1 38 0 0 3) ∧ (((((0 ≤ c ∧ c ≤ 5) ∧ (0 ≤ s ∧ s ≤ 3)) ∧ (1 ≤ n ∧ n ≤ 500)) ∧ (μ1 44 0 c = 0 ∧ μ1 42 0 (4 * c + s) + n ≤ 500)) → ov2 = some (vL (buysF (st μ1 38 0 0 0) c s n 41 0 c)) ∧ μ2 = buysF (st μ1 38 0 0 0) c s n)) → ∃ b, ov2 = some (vL b) ∧ J (B + 10000000000000000) μ2 ∧ μ2 38 0 0 = kk ∧ (kk = 0 → μ2 62 0 0 = b) := by
  have hG := J_gd hJ
  have hK := hJ.1.1
  have hX := hJ.1.2.2.1
  have hP0 := PB2_rf hJ
  have hT : PB2 μ μ1 → rp μ1 = al μ := fun q => J_rp hJ q
  by_cases c0 : (0 ≤ c ∧ c ≤ 5) ∧ (0 ≤ s ∧ s ≤ 3)
  · skip
    by_cases c1 : 1 ≤ n ∧ n ≤ 500
    · skip
      by_cases c2 : μ 5 0 c = 0 ∧ μ 7 c s + n ≤ 500
      · skip
        have h := hq.1 ⟨c0, c1, c2⟩
        have hp := hT h.2.2.2
        have e44 : μ1 44 0 c = μ 5 0 c := rq hp (show reF 44 = true by decide)
        have e42 : (0 ≤ s ∧ s ≤ 3) → μ1 42 0 (4 * c + s) = μ 7 c s := fun q => (rq hp (show reF 42 = true by decide)).trans (al_42 q)
        refine ⟨0, h.1, h.2.2.2, J_pre hJ h.2.2.2, fun ov2 μ2 hr => ?_⟩
        have r := hr.2.2.2 (by omega)
        have hA : al μ1 = buysF (al μ) c s n := by
          exact h.2.2.1
        have hgd : Gd (B + 10000000000000000) (buysF (al μ) c s n) := by
          have hb := buys_B (c := c) (s := s) (n := n) (by omega) (by omega) (by omega) hG.2.2.1 hG.2.2.2 h0 (by omega)
          exact ⟨buysF_ok hG.1 (by omega) (by omega) (by omega) (by rw [al_42 (by omega)]; omega), Xk_cg hG.2.1 (buysF_u _ _ _ _ (by decide) (by decide)) (buysF_u _ _ _ _ (by decide) (by decide)) (by rw [buysF_u _ _ _ _ (g := 38) (by decide) (by decide)]; have := hG.2.1.1; omega) (fun g j q => buysF_u _ _ _ _ (by omega) (by omega)), Bp_le hb.1 (by omega), hb.2⟩
        have hj := J_ok (n_buy c s n) hJ h.2.2.2 hA hgd
        have hu : μ2 = buysF (st μ1 38 0 0 0) c s n := by exact r.2
        rw [← hu] at hj
        refine ⟨_, r.1, hj.1, hj.2.1, fun _ => ?_⟩
        rw [hj.2.2.1, h.2.1]
        rw [← hj.2.2.2, rp_g (by decide), r.2]
      · have h := hq.2.2.2 ⟨c0, c1, c2⟩
        obtain ⟨h1, h2⟩ := h
        have hP1 : PB2 μ μ1 := by rw [h2]; exact hP0
        have hp := hT hP1
        have e44 : μ1 44 0 c = μ 5 0 c := rq hp (show reF 44 = true by decide)
        have e42 : (0 ≤ s ∧ s ≤ 3) → μ1 42 0 (4 * c + s) = μ 7 c s := fun q => (rq hp (show reF 42 = true by decide)).trans (al_42 q)
        refine ⟨3, h1, hP1, J_pre hJ hP1, fun ov2 μ2 hr => ?_⟩
        have r := hr.2.2.1 (by omega)
        exact ⟨_, r.1, by rw [r.2, h2]; exact J_err hJ (by omega) 3, by rw [r.2]; exact st_s, fun z => absurd z (by decide)⟩
    · have h := hq.2.2.1 ⟨c0, c1⟩
      obtain ⟨h1, h2⟩ := h
      have hP1 : PB2 μ μ1 := by rw [h2]; exact hP0
      have hp := hT hP1
      have e44 : μ1 44 0 c = μ 5 0 c := rq hp (show reF 44 = true by decide)
      have e42 : (0 ≤ s ∧ s ≤ 3) → μ1 42 0 (4 * c + s) = μ 7 c s := fun q => (rq hp (show reF 42 = true by decide)).trans (al_42 q)
      refine ⟨2, h1, hP1, J_pre hJ hP1, fun ov2 μ2 hr => ?_⟩
      have r := hr.2.1 (by omega)
      exact ⟨_, r.1, by rw [r.2, h2]; exact J_err hJ (by omega) 2, by rw [r.2]; exact st_s, fun z => absurd z (by decide)⟩
  · have h := hq.2.1 c0
    obtain ⟨h1, h2⟩ := h
    have hP1 : PB2 μ μ1 := by rw [h2]; exact hP0
    have hp := hT hP1
    have e44 : μ1 44 0 c = μ 5 0 c := rq hp (show reF 44 = true by decide)
    have e42 : (0 ≤ s ∧ s ≤ 3) → μ1 42 0 (4 * c + s) = μ 7 c s := fun q => (rq hp (show reF 42 = true by decide)).trans (al_42 q)
    refine ⟨1, h1, hP1, J_pre hJ hP1, fun ov2 μ2 hr => ?_⟩
    have r := hr.1 (by omega)
    exact ⟨_, r.1, by rw [r.2, h2]; exact J_err hJ (by omega) 1, by rw [r.2]; exact st_s, fun z => absurd z (by decide)⟩
theorem n_sell (c s n : Int) : Nat1 (fun m => sellsF m c s n) := fun D hD a b => ov_sellsF hD.co b c s n
set_option maxHeartbeats 4000000 in
theorem cal_sell {B : Int} {μ μ1 : Mm} {ov : Option AV} {c s n : Int} (hJ : J B μ) (h0 : 0 ≤ B) (hB : B ≤ 8000000000000000000)  (hq : ((((0 ≤ c ∧ c ≤ 5) ∧ (0 ≤ s ∧ s ≤ 3)) ∧ (1 ≤ n ∧ n ≤ 500) ∧ (μ 5 0 c = 0 ∧ n ≤ μ 7 c s)) → ov = some (vI 0) ∧ μ1 62 0 0 = (sellsF (al μ) c s n 41 0 c) ∧ al μ1 = sellsF (al μ) c s n ∧ PB2 μ μ1) ∧ ((¬ ((0 ≤ c ∧ c ≤ 5) ∧ (0 ≤ s ∧ s ≤ 3))) → ov = some (vI 1) ∧ μ1 = μ) ∧ ((((0 ≤ c ∧ c ≤ 5) ∧ (0 ≤ s ∧ s ≤ 3)) ∧ ¬ (1 ≤ n ∧ n ≤ 500)) → ov = some (vI 2) ∧ μ1 = μ) ∧ ((((0 ≤ c ∧ c ≤ 5) ∧ (0 ≤ s ∧ s ≤ 3)) ∧ (1 ≤ n ∧ n ≤ 500) ∧ ¬ (μ 5 0 c = 0 ∧ n ≤ μ 7 c s)) → ov = some (vI 3) ∧ μ1 = μ)) : ∃ kk, ov = some (vI kk) ∧ PB2 μ μ1 ∧ (Wk μ1 ∧ Xk μ1) ∧ ∀ ov2 μ2, (((¬ ((0 ≤ c ∧ c ≤ 5) ∧ (0 ≤ s ∧ s ≤ 3))) → ov2 = some (vL 0) ∧ μ2 = st μ1 38 0 0 1) ∧ ((((0 ≤ c ∧ c ≤ 5) ∧ (0 ≤ s ∧ s ≤ 3)) ∧ ¬ (1 ≤ n ∧ n ≤ 500)) → ov2 = some (vL 0) ∧ μ2 = st μ1 38 0 0 2) ∧ (((((0 ≤ c ∧ c ≤ 5) ∧ (0 ≤ s ∧ s ≤ 3)) ∧ (1 ≤ n ∧ n ≤ 500)) ∧ (μ1 44 0 c ≠ 0 ∨ μ1 42 0 (4 * c + s) < n)) → ov2 = some (vL 0) ∧ μ2 = st μ1 38 0 0 3) ∧ (((((0 ≤ c ∧ c ≤ 5) ∧ (0 ≤ s ∧ s ≤ 3)) ∧ (1 ≤ n ∧ n ≤ 500)) ∧ (μ1 44 0 c = 0 ∧ n ≤ μ1 42 0 (4 * c + s))) → ov2 = some (vL (sellsF (st μ1 38 0 0 0) c s n 41 0 c)) ∧ μ2 = sellsF (st μ1 38 0 0 0) c s n)) → ∃ b, ov2 = some (vL b) ∧ J (B + 10000000000000000) μ2 ∧ μ2 38 0 0 = kk ∧ (kk = 0 → μ2 62 0 0 = b) := by
  have hG := J_gd hJ
  have hK := hJ.1.1
  have hX := hJ.1.2.2.1
  have hP0 := PB2_rf hJ
  have hT : PB2 μ μ1 → rp μ1 = al μ := fun q => J_rp hJ q
  by_cases c0 : (0 ≤ c ∧ c ≤ 5) ∧ (0 ≤ s ∧ s ≤ 3)
  · skip
    by_cases c1 : 1 ≤ n ∧ n ≤ 500
    · skip
      by_cases c2 : μ 5 0 c = 0 ∧ n ≤ μ 7 c s
      · skip
        have h := hq.1 ⟨c0, c1, c2⟩
        have hp := hT h.2.2.2
        have e44 : μ1 44 0 c = μ 5 0 c := rq hp (show reF 44 = true by decide)
        have e42 : (0 ≤ s ∧ s ≤ 3) → μ1 42 0 (4 * c + s) = μ 7 c s := fun q => (rq hp (show reF 42 = true by decide)).trans (al_42 q)
        refine ⟨0, h.1, h.2.2.2, J_pre hJ h.2.2.2, fun ov2 μ2 hr => ?_⟩
        have r := hr.2.2.2 (by omega)
        have hA : al μ1 = sellsF (al μ) c s n := by
          exact h.2.2.1
        have hgd : Gd (B + 10000000000000000) (sellsF (al μ) c s n) := by
          have hx : 1 ≤ n ∧ n ≤ al μ 42 0 (4 * c + s) := by rw [al_42 (by omega)]; omega
          have hb := sells_B (c := c) (s := s) (n := n) hG.1 (by omega) (by omega) hx hG.2.2.1 hG.2.2.2 h0 (by omega)
          exact ⟨sellsF_ok hG.1 (by omega) (by omega) hx, Xk_cg hG.2.1 (sellsF_u _ _ _ _ (by decide) (by decide) (by decide)) (sellsF_u _ _ _ _ (by decide) (by decide) (by decide)) (by rw [sellsF_u _ _ _ _ (g := 38) (by decide) (by decide) (by decide)]; have := hG.2.1.1; omega) (fun g j q => sellsF_u _ _ _ _ (by omega) (by omega) (by omega)), Bp_le hb.1 (by omega), hb.2⟩
        have hj := J_ok (n_sell c s n) hJ h.2.2.2 hA hgd
        have hu : μ2 = sellsF (st μ1 38 0 0 0) c s n := by exact r.2
        rw [← hu] at hj
        refine ⟨_, r.1, hj.1, hj.2.1, fun _ => ?_⟩
        rw [hj.2.2.1, h.2.1]
        rw [← hj.2.2.2, rp_g (by decide), r.2]
      · have h := hq.2.2.2 ⟨c0, c1, c2⟩
        obtain ⟨h1, h2⟩ := h
        have hP1 : PB2 μ μ1 := by rw [h2]; exact hP0
        have hp := hT hP1
        have e44 : μ1 44 0 c = μ 5 0 c := rq hp (show reF 44 = true by decide)
        have e42 : (0 ≤ s ∧ s ≤ 3) → μ1 42 0 (4 * c + s) = μ 7 c s := fun q => (rq hp (show reF 42 = true by decide)).trans (al_42 q)
        refine ⟨3, h1, hP1, J_pre hJ hP1, fun ov2 μ2 hr => ?_⟩
        have r := hr.2.2.1 (by omega)
        exact ⟨_, r.1, by rw [r.2, h2]; exact J_err hJ (by omega) 3, by rw [r.2]; exact st_s, fun z => absurd z (by decide)⟩
    · have h := hq.2.2.1 ⟨c0, c1⟩
      obtain ⟨h1, h2⟩ := h
      have hP1 : PB2 μ μ1 := by rw [h2]; exact hP0
      have hp := hT hP1
      have e44 : μ1 44 0 c = μ 5 0 c := rq hp (show reF 44 = true by decide)
      have e42 : (0 ≤ s ∧ s ≤ 3) → μ1 42 0 (4 * c + s) = μ 7 c s := fun q => (rq hp (show reF 42 = true by decide)).trans (al_42 q)
      refine ⟨2, h1, hP1, J_pre hJ hP1, fun ov2 μ2 hr => ?_⟩
      have r := hr.2.1 (by omega)
      exact ⟨_, r.1, by rw [r.2, h2]; exact J_err hJ (by omega) 2, by rw [r.2]; exact st_s, fun z => absurd z (by decide)⟩
  · have h := hq.2.1 c0
    obtain ⟨h1, h2⟩ := h
    have hP1 : PB2 μ μ1 := by rw [h2]; exact hP0
    have hp := hT hP1
    have e44 : μ1 44 0 c = μ 5 0 c := rq hp (show reF 44 = true by decide)
    have e42 : (0 ≤ s ∧ s ≤ 3) → μ1 42 0 (4 * c + s) = μ 7 c s := fun q => (rq hp (show reF 42 = true by decide)).trans (al_42 q)
    refine ⟨1, h1, hP1, J_pre hJ hP1, fun ov2 μ2 hr => ?_⟩
    have r := hr.1 (by omega)
    exact ⟨_, r.1, by rw [r.2, h2]; exact J_err hJ (by omega) 1, by rw [r.2]; exact st_s, fun z => absurd z (by decide)⟩
theorem n_locate (c s n : Int) : Nat1 (fun m => st (st (st (st (st m 53 0 (m 38 0 17) c) 54 0 (m 38 0 17) s) 55 0 (m 38 0 17) n) 56 0 (m 38 0 17) (m 38 0 1)) 38 0 17 (m 38 0 17 + 1)) := fun D hD a b => by
  dsimp only
  rw [rv_n hD (by decide), rv_n hD (by decide), rv_s hD (by decide), rv_s hD (by decide), rv_s hD (by decide), rv_s hD (by decide), rv_sn hD (by decide)]
set_option maxHeartbeats 4000000 in
theorem cal_locate {B : Int} {μ μ1 : Mm} {ov : Option AV} {c s n : Int} (hJ : J B μ) (h0 : 0 ≤ B) (hB : B ≤ 8000000000000000000)  (hq : ((((0 ≤ c ∧ c ≤ 5) ∧ (0 ≤ s ∧ s ≤ 3)) ∧ (1 ≤ n ∧ n ≤ 500) ∧ ((μ 5 0 c = 0 ∧ μ 21 0 5 < 60) ∧ n ≤ canF (al μ) c s)) → ov = some (vI 0) ∧ μ1 62 0 0 = (μ 21 0 5) ∧ al μ1 = st (st (st (st (st (al μ) 53 0 (μ 21 0 5) c) 54 0 (μ 21 0 5) s) 55 0 (μ 21 0 5) n) 56 0 (μ 21 0 5) (μ 0 0 14)) 38 0 17 (μ 21 0 5 + 1) ∧ PB2 μ μ1) ∧ ((¬ ((0 ≤ c ∧ c ≤ 5) ∧ (0 ≤ s ∧ s ≤ 3))) → ov = some (vI 1) ∧ μ1 = μ) ∧ ((((0 ≤ c ∧ c ≤ 5) ∧ (0 ≤ s ∧ s ≤ 3)) ∧ ¬ (1 ≤ n ∧ n ≤ 500)) → ov = some (vI 2) ∧ μ1 = μ) ∧ ((((0 ≤ c ∧ c ≤ 5) ∧ (0 ≤ s ∧ s ≤ 3)) ∧ (1 ≤ n ∧ n ≤ 500) ∧ ¬ ((μ 5 0 c = 0 ∧ μ 21 0 5 < 60) ∧ n ≤ canF (al μ) c s)) → ov = some (vI 3) ∧ μ1 = μ)) : ∃ kk, ov = some (vI kk) ∧ PB2 μ μ1 ∧ (Wk μ1 ∧ Xk μ1) ∧ ∀ ov2 μ2, (((¬ ((0 ≤ c ∧ c ≤ 5) ∧ (0 ≤ s ∧ s ≤ 3))) → ov2 = some (vI 0) ∧ μ2 = st μ1 38 0 0 1) ∧ ((((0 ≤ c ∧ c ≤ 5) ∧ (0 ≤ s ∧ s ≤ 3)) ∧ ¬ (1 ≤ n ∧ n ≤ 500)) → ov2 = some (vI 0) ∧ μ2 = st μ1 38 0 0 2) ∧ (((((0 ≤ c ∧ c ≤ 5) ∧ (0 ≤ s ∧ s ≤ 3)) ∧ (1 ≤ n ∧ n ≤ 500)) ∧ (μ1 44 0 c ≠ 0 ∨ canF μ1 c s < n ∨ μ1 38 0 17 = 60)) → ov2 = some (vI 0) ∧ μ2 = st μ1 38 0 0 3) ∧ (((((0 ≤ c ∧ c ≤ 5) ∧ (0 ≤ s ∧ s ≤ 3)) ∧ (1 ≤ n ∧ n ≤ 500)) ∧ (μ1 44 0 c = 0 ∧ n ≤ canF μ1 c s ∧ μ1 38 0 17 ≠ 60)) → ov2 = some (vI (μ1 38 0 17)) ∧ μ2 = st (st (st (st (st (st μ1 38 0 0 0) 53 0 (μ1 38 0 17) c) 54 0 (μ1 38 0 17) s) 55 0 (μ1 38 0 17) n) 56 0 (μ1 38 0 17) (μ1 38 0 1)) 38 0 17 (μ1 38 0 17 + 1))) → ∃ b, ov2 = some (vI b) ∧ J (B + 10000000000000000) μ2 ∧ μ2 38 0 0 = kk ∧ (kk = 0 → μ2 62 0 0 = b) := by
  have hG := J_gd hJ
  have hK := hJ.1.1
  have hX := hJ.1.2.2.1
  have hP0 := PB2_rf hJ
  have hT : PB2 μ μ1 → rp μ1 = al μ := fun q => J_rp hJ q
  by_cases c0 : (0 ≤ c ∧ c ≤ 5) ∧ (0 ≤ s ∧ s ≤ 3)
  · skip
    by_cases c1 : 1 ≤ n ∧ n ≤ 500
    · skip
      by_cases c2 : (μ 5 0 c = 0 ∧ μ 21 0 5 < 60) ∧ n ≤ canF (al μ) c s
      · skip
        have h := hq.1 ⟨c0, c1, c2⟩
        have hp := hT h.2.2.2
        have e44 : μ1 44 0 c = μ 5 0 c := rq hp (show reF 44 = true by decide)
        have eC : canF μ1 c s = canF (al μ) c s := rv_at (f := fun m => canF m c s) (fun D hD a b => ov_canF hD.co b c s) hp
        have e17 : μ1 38 0 17 = μ 21 0 5 := rqn hp (by decide)
        have hk0 : 0 ≤ μ 21 0 5 ∧ μ 21 0 5 ≤ 60 := hX.2.1.1
        refine ⟨0, h.1, h.2.2.2, J_pre hJ h.2.2.2, fun ov2 μ2 hr => ?_⟩
        have r := hr.2.2.2 (by omega)
        have hA : al μ1 = st (st (st (st (st (al μ) 53 0 ((al μ) 38 0 17) c) 54 0 ((al μ) 38 0 17) s) 55 0 ((al μ) 38 0 17) n) 56 0 ((al μ) 38 0 17) ((al μ) 38 0 1)) 38 0 17 ((al μ) 38 0 17 + 1) := by
          exact h.2.2.1
        have hgd : Gd (B + 10000000000000000) (st (st (st (st (st (al μ) 53 0 ((al μ) 38 0 17) c) 54 0 ((al μ) 38 0 17) s) 55 0 ((al μ) 38 0 17) n) 56 0 ((al μ) 38 0 17) ((al μ) 38 0 1)) 38 0 17 ((al μ) 38 0 17 + 1)) := by
          have hx := hG.2.1
          have e17 : al μ 38 0 17 = μ 21 0 5 := rfl
          refine ⟨Wk_st (Wk_st (Wk_st (Wk_st (Wk_st hG.1 (by omega)) (by omega)) (by omega)) (by omega)) (by omega), ?_, Bp_cg (Gd_up hG).2.2.1 (fun j => (st_o (by decide)).trans ((st_o (by decide)).trans ((st_o (by decide)).trans ((st_o (by decide)).trans (st_o (by decide)))))), Pr_cg hG.2.2.2 (fun j => (st_o (by decide)).trans ((st_o (by decide)).trans ((st_o (by decide)).trans ((st_o (by decide)).trans (st_o (by decide))))))⟩
          obtain ⟨x1, ⟨x2, x3⟩, x4, x5⟩ := hx
          refine ⟨x1, ⟨?_, fun k k0 k1 => ?_⟩, x4, x5⟩
          · show 0 ≤ al μ 38 0 17 + 1 ∧ al μ 38 0 17 + 1 ≤ 60
            omega
          · have k1 : k < al μ 38 0 17 + 1 := k1
            show (0 ≤ st (al μ) 53 0 (al μ 38 0 17) c 53 0 k ∧ st (al μ) 53 0 (al μ 38 0 17) c 53 0 k ≤ 5) ∧ (0 ≤ st (st (al μ) 53 0 (al μ 38 0 17) c) 54 0 (al μ 38 0 17) s 54 0 k ∧ st (st (al μ) 53 0 (al μ 38 0 17) c) 54 0 (al μ 38 0 17) s 54 0 k ≤ 3) ∧ (1 ≤ st (st (st (al μ) 53 0 (al μ 38 0 17) c) 54 0 (al μ 38 0 17) s) 55 0 (al μ 38 0 17) n 55 0 k ∧ st (st (st (al μ) 53 0 (al μ 38 0 17) c) 54 0 (al μ 38 0 17) s) 55 0 (al μ 38 0 17) n 55 0 k ≤ 500) ∧ (0 ≤ st (st (st (st (al μ) 53 0 (al μ 38 0 17) c) 54 0 (al μ 38 0 17) s) 55 0 (al μ 38 0 17) n) 56 0 (al μ 38 0 17) (al μ 38 0 1) 56 0 k ∧ st (st (st (st (al μ) 53 0 (al μ 38 0 17) c) 54 0 (al μ 38 0 17) s) 55 0 (al μ 38 0 17) n) 56 0 (al μ 38 0 17) (al μ 38 0 1) 56 0 k ≤ al μ 38 0 1)
            by_cases q : k = al μ 38 0 17
            · rw [q, st_s, st_s, st_s, st_s]; omega
            · simp only [st_i q]
              exact x3 k k0 (by omega)
        have hj := J_ok (n_locate c s n) hJ h.2.2.2 hA hgd
        have hu : μ2 = st (st (st (st (st (st μ1 38 0 0 0) 53 0 ((st μ1 38 0 0 0) 38 0 17) c) 54 0 ((st μ1 38 0 0 0) 38 0 17) s) 55 0 ((st μ1 38 0 0 0) 38 0 17) n) 56 0 ((st μ1 38 0 0 0) 38 0 17) ((st μ1 38 0 0 0) 38 0 1)) 38 0 17 ((st μ1 38 0 0 0) 38 0 17 + 1) := by exact r.2
        rw [← hu] at hj
        refine ⟨_, r.1, hj.1, hj.2.1, fun _ => ?_⟩
        rw [hj.2.2.1, h.2.1]
        exact e17.symm
      · have h := hq.2.2.2 ⟨c0, c1, c2⟩
        obtain ⟨h1, h2⟩ := h
        have hP1 : PB2 μ μ1 := by rw [h2]; exact hP0
        have hp := hT hP1
        have e44 : μ1 44 0 c = μ 5 0 c := rq hp (show reF 44 = true by decide)
        have eC : canF μ1 c s = canF (al μ) c s := rv_at (f := fun m => canF m c s) (fun D hD a b => ov_canF hD.co b c s) hp
        have e17 : μ1 38 0 17 = μ 21 0 5 := rqn hp (by decide)
        have hk0 : 0 ≤ μ 21 0 5 ∧ μ 21 0 5 ≤ 60 := hX.2.1.1
        refine ⟨3, h1, hP1, J_pre hJ hP1, fun ov2 μ2 hr => ?_⟩
        have r := hr.2.2.1 (by omega)
        exact ⟨_, r.1, by rw [r.2, h2]; exact J_err hJ (by omega) 3, by rw [r.2]; exact st_s, fun z => absurd z (by decide)⟩
    · have h := hq.2.2.1 ⟨c0, c1⟩
      obtain ⟨h1, h2⟩ := h
      have hP1 : PB2 μ μ1 := by rw [h2]; exact hP0
      have hp := hT hP1
      have e44 : μ1 44 0 c = μ 5 0 c := rq hp (show reF 44 = true by decide)
      have eC : canF μ1 c s = canF (al μ) c s := rv_at (f := fun m => canF m c s) (fun D hD a b => ov_canF hD.co b c s) hp
      have e17 : μ1 38 0 17 = μ 21 0 5 := rqn hp (by decide)
      have hk0 : 0 ≤ μ 21 0 5 ∧ μ 21 0 5 ≤ 60 := hX.2.1.1
      refine ⟨2, h1, hP1, J_pre hJ hP1, fun ov2 μ2 hr => ?_⟩
      have r := hr.2.1 (by omega)
      exact ⟨_, r.1, by rw [r.2, h2]; exact J_err hJ (by omega) 2, by rw [r.2]; exact st_s, fun z => absurd z (by decide)⟩
  · have h := hq.2.1 c0
    obtain ⟨h1, h2⟩ := h
    have hP1 : PB2 μ μ1 := by rw [h2]; exact hP0
    have hp := hT hP1
    have e44 : μ1 44 0 c = μ 5 0 c := rq hp (show reF 44 = true by decide)
    have eC : canF μ1 c s = canF (al μ) c s := rv_at (f := fun m => canF m c s) (fun D hD a b => ov_canF hD.co b c s) hp
    have e17 : μ1 38 0 17 = μ 21 0 5 := rqn hp (by decide)
    have hk0 : 0 ≤ μ 21 0 5 ∧ μ 21 0 5 ≤ 60 := hX.2.1.1
    refine ⟨1, h1, hP1, J_pre hJ hP1, fun ov2 μ2 hr => ?_⟩
    have r := hr.1 (by omega)
    exact ⟨_, r.1, by rw [r.2, h2]; exact J_err hJ (by omega) 1, by rw [r.2]; exact st_s, fun z => absurd z (by decide)⟩
theorem n_sellShort (k n : Int) : Nat1 (fun m => shortF m k n) := fun D hD a b => rv_shortF hD b k n
set_option maxHeartbeats 4000000 in
theorem cal_sellShort {B : Int} {μ μ1 : Mm} {ov : Option AV} {q n : Int} (hJ : J B μ) (h0 : 0 ≤ B) (hB : B ≤ 8000000000000000000)  (hq : (((0 ≤ q ∧ q < μ 21 0 5) ∧ (1 ≤ n ∧ n ≤ μ 24 0 q) ∧ ((holdsF (al μ) q ≠ 0 ∧ μ 5 0 (μ 22 0 q) = 0) ∧ (μ 7 (μ 22 0 q) (μ 23 0 q) ≤ 0 ∧ -500 ≤ μ 7 (μ 22 0 q) (μ 23 0 q) - n) ∧ n ≤ canF (al μ) (μ 22 0 q) (μ 23 0 q))) → ov = some (vI 0) ∧ μ1 62 0 0 = (shortF (al μ) q n 41 0 (μ 22 0 q)) ∧ al μ1 = shortF (al μ) q n ∧ PB2 μ μ1) ∧ ((¬ (0 ≤ q ∧ q < μ 21 0 5)) → ov = some (vI 1) ∧ μ1 = μ) ∧ (((0 ≤ q ∧ q < μ 21 0 5) ∧ ¬ (1 ≤ n ∧ n ≤ μ 24 0 q)) → ov = some (vI 2) ∧ μ1 = μ) ∧ (((0 ≤ q ∧ q < μ 21 0 5) ∧ (1 ≤ n ∧ n ≤ μ 24 0 q) ∧ ¬ ((holdsF (al μ) q ≠ 0 ∧ μ 5 0 (μ 22 0 q) = 0) ∧ (μ 7 (μ 22 0 q) (μ 23 0 q) ≤ 0 ∧ -500 ≤ μ 7 (μ 22 0 q) (μ 23 0 q) - n) ∧ n ≤ canF (al μ) (μ 22 0 q) (μ 23 0 q))) → ov = some (vI 3) ∧ μ1 = μ)) : ∃ kk, ov = some (vI kk) ∧ PB2 μ μ1 ∧ (Wk μ1 ∧ Xk μ1) ∧ ∀ ov2 μ2, (((¬ (0 ≤ q ∧ q ≤ μ1 38 0 17 - 1)) → ov2 = some (vL 0) ∧ μ2 = st μ1 38 0 0 1) ∧ (((0 ≤ q ∧ q ≤ μ1 38 0 17 - 1) ∧ ¬ (1 ≤ n ∧ n ≤ μ1 55 0 q)) → ov2 = some (vL 0) ∧ μ2 = st μ1 38 0 0 2) ∧ ((((0 ≤ q ∧ q ≤ μ1 38 0 17 - 1) ∧ (1 ≤ n ∧ n ≤ μ1 55 0 q)) ∧ ¬ ((((holdsF μ1 q = 1 ∧ μ1 44 0 (μ1 53 0 q) = 0) ∧ μ1 42 0 (4 * μ1 53 0 q + μ1 54 0 q) ≤ 0) ∧ -500 ≤ μ1 42 0 (4 * μ1 53 0 q + μ1 54 0 q) - n) ∧ n ≤ canF μ1 (μ1 53 0 q) (μ1 54 0 q))) → ov2 = some (vL 0) ∧ μ2 = st μ1 38 0 0 3) ∧ ((((0 ≤ q ∧ q ≤ μ1 38 0 17 - 1) ∧ (1 ≤ n ∧ n ≤ μ1 55 0 q)) ∧ ((((holdsF μ1 q = 1 ∧ μ1 44 0 (μ1 53 0 q) = 0) ∧ μ1 42 0 (4 * μ1 53 0 q + μ1 54 0 q) ≤ 0) ∧ -500 ≤ μ1 42 0 (4 * μ1 53 0 q + μ1 54 0 q) - n) ∧ n ≤ canF μ1 (μ1 53 0 q) (μ1 54 0 q))) → ov2 = some (vL (shortF (st μ1 38 0 0 0) q n 41 0 (μ1 53 0 q))) ∧ μ2 = shortF (st μ1 38 0 0 0) q n)) → ∃ b, ov2 = some (vL b) ∧ J (B + 10000000000000000) μ2 ∧ μ2 38 0 0 = kk ∧ (kk = 0 → μ2 62 0 0 = b) := by
  have hG := J_gd hJ
  have hK := hJ.1.1
  have hX := hJ.1.2.2.1
  have hP0 := PB2_rf hJ
  have hT : PB2 μ μ1 → rp μ1 = al μ := fun q => J_rp hJ q
  by_cases c0 : 0 ≤ q ∧ q < μ 21 0 5
  · skip
    by_cases c1 : 1 ≤ n ∧ n ≤ μ 24 0 q
    · skip
      by_cases c2 : (holdsF (al μ) q ≠ 0 ∧ μ 5 0 (μ 22 0 q) = 0) ∧ (μ 7 (μ 22 0 q) (μ 23 0 q) ≤ 0 ∧ -500 ≤ μ 7 (μ 22 0 q) (μ 23 0 q) - n) ∧ n ≤ canF (al μ) (μ 22 0 q) (μ 23 0 q)
      · skip
        have h := hq.1 ⟨c0, c1, c2⟩
        have hp := hT h.2.2.2
        have hk0 : 0 ≤ μ 21 0 5 ∧ μ 21 0 5 ≤ 60 := hX.2.1.1
        have hlk : 0 ≤ q → q < μ 21 0 5 → (0 ≤ μ 22 0 q ∧ μ 22 0 q ≤ 5) ∧ (0 ≤ μ 23 0 q ∧ μ 23 0 q ≤ 3) ∧ (1 ≤ μ 24 0 q ∧ μ 24 0 q ≤ 500) := fun q0 q1 => by
          have z := hX.2.1.2 q q0 q1
          exact ⟨z.1, z.2.1, z.2.2.1⟩
        have e17 : μ1 38 0 17 = μ 21 0 5 := rqn hp (by decide)
        have e53 : μ1 53 0 q = μ 22 0 q := rq hp (show reF 53 = true by decide)
        have e54 : μ1 54 0 q = μ 23 0 q := rq hp (show reF 54 = true by decide)
        have e55 : μ1 55 0 q = μ 24 0 q := rq hp (show reF 55 = true by decide)
        have eH : holdsF μ1 q = holdsF (al μ) q := rv_at (f := fun m => holdsF m q) (fun D hD a b => rv_holds hD b q) hp
        have hh : holdsF (al μ) q = 0 ∨ holdsF (al μ) q = 1 := bi_01
        have e44 : μ1 44 0 (μ1 53 0 q) = μ 5 0 (μ 22 0 q) := by rw [e53]; exact rq hp (show reF 44 = true by decide)
        have e42 : (0 ≤ q ∧ q < μ 21 0 5) → μ1 42 0 (4 * μ1 53 0 q + μ1 54 0 q) = μ 7 (μ 22 0 q) (μ 23 0 q) := fun q0 => by rw [e53, e54]; exact (rq hp (show reF 42 = true by decide)).trans (al_42 (hlk q0.1 q0.2).2.1)
        have eC : canF μ1 (μ1 53 0 q) (μ1 54 0 q) = canF (al μ) (μ 22 0 q) (μ 23 0 q) := by rw [e53, e54]; exact rv_at (f := fun m => canF m (μ 22 0 q) (μ 23 0 q)) (fun D hD a b => ov_canF hD.co b _ _) hp
        refine ⟨0, h.1, h.2.2.2, J_pre hJ h.2.2.2, fun ov2 μ2 hr => ?_⟩
        have r := hr.2.2.2 (by omega)
        have hA : al μ1 = shortF (al μ) q n := by
          exact h.2.2.1
        have hgd : Gd (B + 10000000000000000) (shortF (al μ) q n) := by
          have hl := hlk (by omega) (by omega)
          have hW := shortF_ok hG.1 (k := q) (n := n) hl.1 hl.2.1 ⟨by omega, by omega⟩ (show al μ 42 0 (4 * μ 22 0 q + μ 23 0 q) ≤ 0 ∧ -500 ≤ al μ 42 0 (4 * μ 22 0 q + μ 23 0 q) - n by rw [al_42 hl.2.1]; omega) (show n ≤ canF (al μ) (μ 22 0 q) (μ 23 0 q) by omega)
          have hu : ∀ {g : Nat} {t j : Int}, _ → shortF (al μ) q n g t j = al μ g t j := fun {g} {t} {j} => shortF_u (al μ) (k := q) (n := n) hG.1 hl.1 hl.2.1 ⟨by omega, by omega⟩
          have hb := short_B hG.1 (k := q) (n := n) hl.1 hl.2.1 ⟨by omega, by omega⟩ hG.2.2.1 hG.2.2.2 h0 (by omega)
          exact ⟨hW, Xk_cg hG.2.1 (hu (by decide)) (hu (by decide)) (by rw [hu (g := 38) (j := 1) (by decide)]; have := hG.2.1.1; omega) (fun g j z => hu (by omega)), Bp_le hb.1 (by omega), hb.2⟩
        have hj := J_ok (n_sellShort q n) hJ h.2.2.2 hA hgd
        have hu : μ2 = shortF (st μ1 38 0 0 0) q n := by exact r.2
        rw [← hu] at hj
        refine ⟨_, r.1, hj.1, hj.2.1, fun _ => ?_⟩
        rw [hj.2.2.1, h.2.1]
        rw [← hj.2.2.2, rp_g (by decide), r.2, e53]
      · have h := hq.2.2.2 ⟨c0, c1, c2⟩
        obtain ⟨h1, h2⟩ := h
        have hP1 : PB2 μ μ1 := by rw [h2]; exact hP0
        have hp := hT hP1
        have hk0 : 0 ≤ μ 21 0 5 ∧ μ 21 0 5 ≤ 60 := hX.2.1.1
        have hlk : 0 ≤ q → q < μ 21 0 5 → (0 ≤ μ 22 0 q ∧ μ 22 0 q ≤ 5) ∧ (0 ≤ μ 23 0 q ∧ μ 23 0 q ≤ 3) ∧ (1 ≤ μ 24 0 q ∧ μ 24 0 q ≤ 500) := fun q0 q1 => by
          have z := hX.2.1.2 q q0 q1
          exact ⟨z.1, z.2.1, z.2.2.1⟩
        have e17 : μ1 38 0 17 = μ 21 0 5 := rqn hp (by decide)
        have e53 : μ1 53 0 q = μ 22 0 q := rq hp (show reF 53 = true by decide)
        have e54 : μ1 54 0 q = μ 23 0 q := rq hp (show reF 54 = true by decide)
        have e55 : μ1 55 0 q = μ 24 0 q := rq hp (show reF 55 = true by decide)
        have eH : holdsF μ1 q = holdsF (al μ) q := rv_at (f := fun m => holdsF m q) (fun D hD a b => rv_holds hD b q) hp
        have hh : holdsF (al μ) q = 0 ∨ holdsF (al μ) q = 1 := bi_01
        have e44 : μ1 44 0 (μ1 53 0 q) = μ 5 0 (μ 22 0 q) := by rw [e53]; exact rq hp (show reF 44 = true by decide)
        have e42 : (0 ≤ q ∧ q < μ 21 0 5) → μ1 42 0 (4 * μ1 53 0 q + μ1 54 0 q) = μ 7 (μ 22 0 q) (μ 23 0 q) := fun q0 => by rw [e53, e54]; exact (rq hp (show reF 42 = true by decide)).trans (al_42 (hlk q0.1 q0.2).2.1)
        have eC : canF μ1 (μ1 53 0 q) (μ1 54 0 q) = canF (al μ) (μ 22 0 q) (μ 23 0 q) := by rw [e53, e54]; exact rv_at (f := fun m => canF m (μ 22 0 q) (μ 23 0 q)) (fun D hD a b => ov_canF hD.co b _ _) hp
        refine ⟨3, h1, hP1, J_pre hJ hP1, fun ov2 μ2 hr => ?_⟩
        have r := hr.2.2.1 (by omega)
        exact ⟨_, r.1, by rw [r.2, h2]; exact J_err hJ (by omega) 3, by rw [r.2]; exact st_s, fun z => absurd z (by decide)⟩
    · have h := hq.2.2.1 ⟨c0, c1⟩
      obtain ⟨h1, h2⟩ := h
      have hP1 : PB2 μ μ1 := by rw [h2]; exact hP0
      have hp := hT hP1
      have hk0 : 0 ≤ μ 21 0 5 ∧ μ 21 0 5 ≤ 60 := hX.2.1.1
      have hlk : 0 ≤ q → q < μ 21 0 5 → (0 ≤ μ 22 0 q ∧ μ 22 0 q ≤ 5) ∧ (0 ≤ μ 23 0 q ∧ μ 23 0 q ≤ 3) ∧ (1 ≤ μ 24 0 q ∧ μ 24 0 q ≤ 500) := fun q0 q1 => by
        have z := hX.2.1.2 q q0 q1
        exact ⟨z.1, z.2.1, z.2.2.1⟩
      have e17 : μ1 38 0 17 = μ 21 0 5 := rqn hp (by decide)
      have e53 : μ1 53 0 q = μ 22 0 q := rq hp (show reF 53 = true by decide)
      have e54 : μ1 54 0 q = μ 23 0 q := rq hp (show reF 54 = true by decide)
      have e55 : μ1 55 0 q = μ 24 0 q := rq hp (show reF 55 = true by decide)
      have eH : holdsF μ1 q = holdsF (al μ) q := rv_at (f := fun m => holdsF m q) (fun D hD a b => rv_holds hD b q) hp
      have hh : holdsF (al μ) q = 0 ∨ holdsF (al μ) q = 1 := bi_01
      have e44 : μ1 44 0 (μ1 53 0 q) = μ 5 0 (μ 22 0 q) := by rw [e53]; exact rq hp (show reF 44 = true by decide)
      have e42 : (0 ≤ q ∧ q < μ 21 0 5) → μ1 42 0 (4 * μ1 53 0 q + μ1 54 0 q) = μ 7 (μ 22 0 q) (μ 23 0 q) := fun q0 => by rw [e53, e54]; exact (rq hp (show reF 42 = true by decide)).trans (al_42 (hlk q0.1 q0.2).2.1)
      have eC : canF μ1 (μ1 53 0 q) (μ1 54 0 q) = canF (al μ) (μ 22 0 q) (μ 23 0 q) := by rw [e53, e54]; exact rv_at (f := fun m => canF m (μ 22 0 q) (μ 23 0 q)) (fun D hD a b => ov_canF hD.co b _ _) hp
      refine ⟨2, h1, hP1, J_pre hJ hP1, fun ov2 μ2 hr => ?_⟩
      have r := hr.2.1 (by omega)
      exact ⟨_, r.1, by rw [r.2, h2]; exact J_err hJ (by omega) 2, by rw [r.2]; exact st_s, fun z => absurd z (by decide)⟩
  · have h := hq.2.1 c0
    obtain ⟨h1, h2⟩ := h
    have hP1 : PB2 μ μ1 := by rw [h2]; exact hP0
    have hp := hT hP1
    have hk0 : 0 ≤ μ 21 0 5 ∧ μ 21 0 5 ≤ 60 := hX.2.1.1
    have hlk : 0 ≤ q → q < μ 21 0 5 → (0 ≤ μ 22 0 q ∧ μ 22 0 q ≤ 5) ∧ (0 ≤ μ 23 0 q ∧ μ 23 0 q ≤ 3) ∧ (1 ≤ μ 24 0 q ∧ μ 24 0 q ≤ 500) := fun q0 q1 => by
      have z := hX.2.1.2 q q0 q1
      exact ⟨z.1, z.2.1, z.2.2.1⟩
    have e17 : μ1 38 0 17 = μ 21 0 5 := rqn hp (by decide)
    have e53 : μ1 53 0 q = μ 22 0 q := rq hp (show reF 53 = true by decide)
    have e54 : μ1 54 0 q = μ 23 0 q := rq hp (show reF 54 = true by decide)
    have e55 : μ1 55 0 q = μ 24 0 q := rq hp (show reF 55 = true by decide)
    have eH : holdsF μ1 q = holdsF (al μ) q := rv_at (f := fun m => holdsF m q) (fun D hD a b => rv_holds hD b q) hp
    have hh : holdsF (al μ) q = 0 ∨ holdsF (al μ) q = 1 := bi_01
    have e44 : μ1 44 0 (μ1 53 0 q) = μ 5 0 (μ 22 0 q) := by rw [e53]; exact rq hp (show reF 44 = true by decide)
    have e42 : (0 ≤ q ∧ q < μ 21 0 5) → μ1 42 0 (4 * μ1 53 0 q + μ1 54 0 q) = μ 7 (μ 22 0 q) (μ 23 0 q) := fun q0 => by rw [e53, e54]; exact (rq hp (show reF 42 = true by decide)).trans (al_42 (hlk q0.1 q0.2).2.1)
    have eC : canF μ1 (μ1 53 0 q) (μ1 54 0 q) = canF (al μ) (μ 22 0 q) (μ 23 0 q) := by rw [e53, e54]; exact rv_at (f := fun m => canF m (μ 22 0 q) (μ 23 0 q)) (fun D hD a b => ov_canF hD.co b _ _) hp
    refine ⟨1, h1, hP1, J_pre hJ hP1, fun ov2 μ2 hr => ?_⟩
    have r := hr.1 (by omega)
    exact ⟨_, r.1, by rw [r.2, h2]; exact J_err hJ (by omega) 1, by rw [r.2]; exact st_s, fun z => absurd z (by decide)⟩
theorem n_recall (l s n f : Int) : Nat1 (fun m => st (st (st (st (st m 58 0 (m 38 0 23) l) 59 0 (m 38 0 23) s) 60 0 (m 38 0 23) n) 61 0 (m 38 0 23) (m 38 0 1 + f)) 38 0 23 (m 38 0 23 + 1)) := fun D hD a b => by
  dsimp only
  rw [rv_n hD (by decide), rv_n hD (by decide), rv_s hD (by decide), rv_s hD (by decide), rv_s hD (by decide), rv_s hD (by decide), rv_sn hD (by decide)]
set_option maxHeartbeats 4000000 in
theorem cal_recall {B : Int} {μ μ1 : Mm} {ov : Option AV} {l s n f : Int} (hJ : J B μ) (h0 : 0 ≤ B) (hB : B ≤ 8000000000000000000)  (hq : ((((0 ≤ l ∧ l ≤ 3) ∧ (0 ≤ s ∧ s ≤ 3)) ∧ ((1 ≤ n ∧ n ≤ 500) ∧ (1 ≤ f ∧ f ≤ 10)) ∧ (μ 27 0 5 < 40)) → ov = some (vI 0) ∧ μ1 62 0 0 = (μ 27 0 5) ∧ al μ1 = st (st (st (st (st (al μ) 58 0 (μ 27 0 5) l) 59 0 (μ 27 0 5) s) 60 0 (μ 27 0 5) n) 61 0 (μ 27 0 5) (μ 0 0 14 + f)) 38 0 23 (μ 27 0 5 + 1) ∧ PB2 μ μ1) ∧ ((¬ ((0 ≤ l ∧ l ≤ 3) ∧ (0 ≤ s ∧ s ≤ 3))) → ov = some (vI 1) ∧ μ1 = μ) ∧ ((((0 ≤ l ∧ l ≤ 3) ∧ (0 ≤ s ∧ s ≤ 3)) ∧ ¬ ((1 ≤ n ∧ n ≤ 500) ∧ (1 ≤ f ∧ f ≤ 10))) → ov = some (vI 2) ∧ μ1 = μ) ∧ ((((0 ≤ l ∧ l ≤ 3) ∧ (0 ≤ s ∧ s ≤ 3)) ∧ ((1 ≤ n ∧ n ≤ 500) ∧ (1 ≤ f ∧ f ≤ 10)) ∧ ¬ (μ 27 0 5 < 40)) → ov = some (vI 3) ∧ μ1 = μ)) : ∃ kk, ov = some (vI kk) ∧ PB2 μ μ1 ∧ (Wk μ1 ∧ Xk μ1) ∧ ∀ ov2 μ2, (((¬ ((0 ≤ l ∧ l ≤ 3) ∧ (0 ≤ s ∧ s ≤ 3))) → ov2 = some (vI 0) ∧ μ2 = st μ1 38 0 0 1) ∧ ((((0 ≤ l ∧ l ≤ 3) ∧ (0 ≤ s ∧ s ≤ 3)) ∧ ¬ ((1 ≤ n ∧ n ≤ 500) ∧ (1 ≤ f ∧ f ≤ 10))) → ov2 = some (vI 0) ∧ μ2 = st μ1 38 0 0 2) ∧ (((((0 ≤ l ∧ l ≤ 3) ∧ (0 ≤ s ∧ s ≤ 3)) ∧ ((1 ≤ n ∧ n ≤ 500) ∧ (1 ≤ f ∧ f ≤ 10))) ∧ μ1 38 0 23 = 40) → ov2 = some (vI 0) ∧ μ2 = st μ1 38 0 0 3) ∧ (((((0 ≤ l ∧ l ≤ 3) ∧ (0 ≤ s ∧ s ≤ 3)) ∧ ((1 ≤ n ∧ n ≤ 500) ∧ (1 ≤ f ∧ f ≤ 10))) ∧ μ1 38 0 23 ≠ 40) → ov2 = some (vI (μ1 38 0 23)) ∧ μ2 = st (st (st (st (st (st μ1 38 0 0 0) 58 0 (μ1 38 0 23) l) 59 0 (μ1 38 0 23) s) 60 0 (μ1 38 0 23) n) 61 0 (μ1 38 0 23) (μ1 38 0 1 + f)) 38 0 23 (μ1 38 0 23 + 1))) → ∃ b, ov2 = some (vI b) ∧ J (B + 10000000000000000) μ2 ∧ μ2 38 0 0 = kk ∧ (kk = 0 → μ2 62 0 0 = b) := by
  have hG := J_gd hJ
  have hK := hJ.1.1
  have hX := hJ.1.2.2.1
  have hP0 := PB2_rf hJ
  have hT : PB2 μ μ1 → rp μ1 = al μ := fun q => J_rp hJ q
  by_cases c0 : (0 ≤ l ∧ l ≤ 3) ∧ (0 ≤ s ∧ s ≤ 3)
  · skip
    by_cases c1 : (1 ≤ n ∧ n ≤ 500) ∧ (1 ≤ f ∧ f ≤ 10)
    · skip
      by_cases c2 : μ 27 0 5 < 40
      · skip
        have h := hq.1 ⟨c0, c1, c2⟩
        have hp := hT h.2.2.2
        have e23 : μ1 38 0 23 = μ 27 0 5 := rqn hp (by decide)
        have hr0 : 0 ≤ μ 27 0 5 ∧ μ 27 0 5 ≤ 40 := hX.2.2.1.1
        refine ⟨0, h.1, h.2.2.2, J_pre hJ h.2.2.2, fun ov2 μ2 hr => ?_⟩
        have r := hr.2.2.2 (by omega)
        have hA : al μ1 = st (st (st (st (st (al μ) 58 0 ((al μ) 38 0 23) l) 59 0 ((al μ) 38 0 23) s) 60 0 ((al μ) 38 0 23) n) 61 0 ((al μ) 38 0 23) ((al μ) 38 0 1 + f)) 38 0 23 ((al μ) 38 0 23 + 1) := by
          exact h.2.2.1
        have hgd : Gd (B + 10000000000000000) (st (st (st (st (st (al μ) 58 0 ((al μ) 38 0 23) l) 59 0 ((al μ) 38 0 23) s) 60 0 ((al μ) 38 0 23) n) 61 0 ((al μ) 38 0 23) ((al μ) 38 0 1 + f)) 38 0 23 ((al μ) 38 0 23 + 1)) := by
          have hx := hG.2.1
          have e23 : al μ 38 0 23 = μ 27 0 5 := rfl
          refine ⟨Wk_st (Wk_st (Wk_st (Wk_st (Wk_st hG.1 (by omega)) (by omega)) (by omega)) (by omega)) (by omega), ?_, Bp_cg (Gd_up hG).2.2.1 (fun j => (st_o (by decide)).trans ((st_o (by decide)).trans ((st_o (by decide)).trans ((st_o (by decide)).trans (st_o (by decide)))))), Pr_cg hG.2.2.2 (fun j => (st_o (by decide)).trans ((st_o (by decide)).trans ((st_o (by decide)).trans ((st_o (by decide)).trans (st_o (by decide))))))⟩
          obtain ⟨x1, x2, ⟨x4, x5⟩, x6⟩ := hx
          refine ⟨x1, x2, ⟨?_, fun k k0 k1 => ?_⟩, x6⟩
          · show 0 ≤ al μ 38 0 23 + 1 ∧ al μ 38 0 23 + 1 ≤ 40
            omega
          · have k1 : k < al μ 38 0 23 + 1 := k1
            show (0 ≤ st (al μ) 58 0 (al μ 38 0 23) l 58 0 k ∧ st (al μ) 58 0 (al μ 38 0 23) l 58 0 k ≤ 3) ∧ (0 ≤ st (st (al μ) 58 0 (al μ 38 0 23) l) 59 0 (al μ 38 0 23) s 59 0 k ∧ st (st (al μ) 58 0 (al μ 38 0 23) l) 59 0 (al μ 38 0 23) s 59 0 k ≤ 3) ∧ (1 ≤ st (st (st (al μ) 58 0 (al μ 38 0 23) l) 59 0 (al μ 38 0 23) s) 60 0 (al μ 38 0 23) n 60 0 k ∧ st (st (st (al μ) 58 0 (al μ 38 0 23) l) 59 0 (al μ 38 0 23) s) 60 0 (al μ 38 0 23) n 60 0 k ≤ 500) ∧ (1 ≤ st (st (st (st (al μ) 58 0 (al μ 38 0 23) l) 59 0 (al μ 38 0 23) s) 60 0 (al μ 38 0 23) n) 61 0 (al μ 38 0 23) (al μ 38 0 1 + f) 61 0 k ∧ st (st (st (st (al μ) 58 0 (al μ 38 0 23) l) 59 0 (al μ 38 0 23) s) 60 0 (al μ 38 0 23) n) 61 0 (al μ 38 0 23) (al μ 38 0 1 + f) 61 0 k ≤ 510)
            by_cases q : k = al μ 38 0 23
            · rw [q, st_s, st_s, st_s, st_s]; omega
            · simp only [st_i q]
              exact x5 k k0 (by omega)
        have hj := J_ok (n_recall l s n f) hJ h.2.2.2 hA hgd
        have hu : μ2 = st (st (st (st (st (st μ1 38 0 0 0) 58 0 ((st μ1 38 0 0 0) 38 0 23) l) 59 0 ((st μ1 38 0 0 0) 38 0 23) s) 60 0 ((st μ1 38 0 0 0) 38 0 23) n) 61 0 ((st μ1 38 0 0 0) 38 0 23) ((st μ1 38 0 0 0) 38 0 1 + f)) 38 0 23 ((st μ1 38 0 0 0) 38 0 23 + 1) := by exact r.2
        rw [← hu] at hj
        refine ⟨_, r.1, hj.1, hj.2.1, fun _ => ?_⟩
        rw [hj.2.2.1, h.2.1]
        exact e23.symm
      · have h := hq.2.2.2 ⟨c0, c1, c2⟩
        obtain ⟨h1, h2⟩ := h
        have hP1 : PB2 μ μ1 := by rw [h2]; exact hP0
        have hp := hT hP1
        have e23 : μ1 38 0 23 = μ 27 0 5 := rqn hp (by decide)
        have hr0 : 0 ≤ μ 27 0 5 ∧ μ 27 0 5 ≤ 40 := hX.2.2.1.1
        refine ⟨3, h1, hP1, J_pre hJ hP1, fun ov2 μ2 hr => ?_⟩
        have r := hr.2.2.1 (by omega)
        exact ⟨_, r.1, by rw [r.2, h2]; exact J_err hJ (by omega) 3, by rw [r.2]; exact st_s, fun z => absurd z (by decide)⟩
    · have h := hq.2.2.1 ⟨c0, c1⟩
      obtain ⟨h1, h2⟩ := h
      have hP1 : PB2 μ μ1 := by rw [h2]; exact hP0
      have hp := hT hP1
      have e23 : μ1 38 0 23 = μ 27 0 5 := rqn hp (by decide)
      have hr0 : 0 ≤ μ 27 0 5 ∧ μ 27 0 5 ≤ 40 := hX.2.2.1.1
      refine ⟨2, h1, hP1, J_pre hJ hP1, fun ov2 μ2 hr => ?_⟩
      have r := hr.2.1 (by omega)
      exact ⟨_, r.1, by rw [r.2, h2]; exact J_err hJ (by omega) 2, by rw [r.2]; exact st_s, fun z => absurd z (by decide)⟩
  · have h := hq.2.1 c0
    obtain ⟨h1, h2⟩ := h
    have hP1 : PB2 μ μ1 := by rw [h2]; exact hP0
    have hp := hT hP1
    have e23 : μ1 38 0 23 = μ 27 0 5 := rqn hp (by decide)
    have hr0 : 0 ≤ μ 27 0 5 ∧ μ 27 0 5 ≤ 40 := hX.2.2.1.1
    refine ⟨1, h1, hP1, J_pre hJ hP1, fun ov2 μ2 hr => ?_⟩
    have r := hr.1 (by omega)
    exact ⟨_, r.1, by rw [r.2, h2]; exact J_err hJ (by omega) 1, by rw [r.2]; exact st_s, fun z => absurd z (by decide)⟩
theorem n_liquidate (c : Int) : Nat1 (fun m => (liqL c 4 m 0).1) := fun D hD a b => by
  dsimp only
  rw [rv_liqL hD]
set_option maxHeartbeats 4000000 in
theorem cal_liquidate {B : Int} {μ μ1 : Mm} {ov : Option AV} {c : Int} (hJ : J B μ) (h0 : 0 ≤ B) (hB : B ≤ 8000000000000000000)  (hq : (((0 ≤ c ∧ c ≤ 5) ∧ (calledF (al μ) c ≠ 0)) → ov = some (vI 0) ∧ μ1 62 0 0 = ((liqF (al μ) c).2) ∧ al μ1 = (liqF (al μ) c).1 ∧ PB2 μ μ1) ∧ ((¬ (0 ≤ c ∧ c ≤ 5)) → ov = some (vI 1) ∧ μ1 = μ) ∧ (((0 ≤ c ∧ c ≤ 5) ∧ ¬ (calledF (al μ) c ≠ 0)) → ov = some (vI 2) ∧ μ1 = μ)) : ∃ kk, ov = some (vI kk) ∧ PB2 μ μ1 ∧ (Wk μ1 ∧ Xk μ1) ∧ ∀ ov2 μ2, (((¬ (0 ≤ c ∧ c ≤ 5)) → ov2 = some (vI 0) ∧ μ2 = st μ1 38 0 0 1) ∧ (((0 ≤ c ∧ c ≤ 5) ∧ calledF μ1 c = 0) → ov2 = some (vI 0) ∧ μ2 = st μ1 38 0 0 2) ∧ (((0 ≤ c ∧ c ≤ 5) ∧ calledF μ1 c ≠ 0) → ov2 = some (vI ((liqF μ1 c).2)) ∧ μ2 = (liqF μ1 c).1)) → ∃ b, ov2 = some (vI b) ∧ J (B + 10000000000000000) μ2 ∧ μ2 38 0 0 = kk ∧ (kk = 0 → μ2 62 0 0 = b) := by
  have hG := J_gd hJ
  have hK := hJ.1.1
  have hX := hJ.1.2.2.1
  have hP0 := PB2_rf hJ
  have hT : PB2 μ μ1 → rp μ1 = al μ := fun q => J_rp hJ q
  by_cases c0 : 0 ≤ c ∧ c ≤ 5
  · skip
    by_cases c1 : calledF (al μ) c ≠ 0
    · skip
      have h := hq.1 ⟨c0, c1⟩
      have hp := hT h.2.2.2
      have eK : calledF μ1 c = calledF (al μ) c := rv_at (f := fun m => calledF m c) (fun D hD a b => rv_called hD b c) hp
      refine ⟨0, h.1, h.2.2.2, J_pre hJ h.2.2.2, fun ov2 μ2 hr => ?_⟩
      have r := hr.2.2 (by omega)
      have hA : al μ1 = (liqL c 4 (al μ) 0).1 := by
        rw [h.2.2.1]
        unfold liqF
        rw [al_th]
      have hgd : Gd (B + 10000000000000000) ((liqL c 4 (al μ) 0).1) := by
        have hb := liqL_B (c := c) (by omega) 4 (al μ) 0 B hG.1 hG.2.2.1 hG.2.2.2 h0 (by omega)
        exact ⟨hb.1, Xk_cg hG.2.1 (liqL_u c (by decide) (by decide) (by decide) 4 (al μ) 0) (liqL_u c (by decide) (by decide) (by decide) 4 (al μ) 0) (by rw [liqL_u c (g := 38) (by decide) (by decide) (by decide) 4 (al μ) 0]; have := hG.2.1.1; omega) (fun g j q => liqL_u c (by omega) (by omega) (by omega) 4 (al μ) 0), Bp_le hb.2.1 (by omega), hb.2.2⟩
      have hj := J_ok (n_liquidate c) hJ h.2.2.2 hA hgd
      have hu : μ2 = (liqL c 4 (st μ1 38 0 0 0) 0).1 := by exact r.2
      rw [← hu] at hj
      refine ⟨_, r.1, hj.1, hj.2.1, fun _ => ?_⟩
      rw [hj.2.2.1, h.2.1]
      unfold liqF
      rw [al_th]
      exact (rv_at0 (f := fun m => (liqL c 4 m 0).2) (fun D hD a b => by rw [rv_liqL hD]) hp).symm
    · have h := hq.2.2 ⟨c0, c1⟩
      obtain ⟨h1, h2⟩ := h
      have hP1 : PB2 μ μ1 := by rw [h2]; exact hP0
      have hp := hT hP1
      have eK : calledF μ1 c = calledF (al μ) c := rv_at (f := fun m => calledF m c) (fun D hD a b => rv_called hD b c) hp
      refine ⟨2, h1, hP1, J_pre hJ hP1, fun ov2 μ2 hr => ?_⟩
      have r := hr.2.1 (by omega)
      exact ⟨_, r.1, by rw [r.2, h2]; exact J_err hJ (by omega) 2, by rw [r.2]; exact st_s, fun z => absurd z (by decide)⟩
  · have h := hq.2.1 c0
    obtain ⟨h1, h2⟩ := h
    have hP1 : PB2 μ μ1 := by rw [h2]; exact hP0
    have hp := hT hP1
    have eK : calledF μ1 c = calledF (al μ) c := rv_at (f := fun m => calledF m c) (fun D hD a b => rv_called hD b c) hp
    refine ⟨1, h1, hP1, J_pre hJ hP1, fun ov2 μ2 hr => ?_⟩
    have r := hr.1 (by omega)
    exact ⟨_, r.1, by rw [r.2, h2]; exact J_err hJ (by omega) 1, by rw [r.2]; exact st_s, fun z => absurd z (by decide)⟩
theorem n_fail (c : Int) : Nat1 (fun m => flE (itC c 4 m) c) := fun D hD a b => by
  dsimp only
  rw [rv_itC hD, rv_flE hD]
set_option maxHeartbeats 4000000 in
theorem cal_fail {B : Int} {μ μ1 : Mm} {ov : Option AV} {c : Int} (hJ : J B μ) (h0 : 0 ≤ B) (hB : B ≤ 8000000000000000000)  (hq : (((0 ≤ c ∧ c ≤ 5) ∧ (μ 5 0 c = 0)) → ov = some (vI 0) ∧ μ1 62 0 0 = (lossF (failL (al μ) c 4) c) ∧ al μ1 = failF (al μ) c ∧ PB2 μ μ1) ∧ ((¬ (0 ≤ c ∧ c ≤ 5)) → ov = some (vI 1) ∧ μ1 = μ) ∧ (((0 ≤ c ∧ c ≤ 5) ∧ ¬ (μ 5 0 c = 0)) → ov = some (vI 2) ∧ μ1 = μ)) : ∃ kk, ov = some (vI kk) ∧ PB2 μ μ1 ∧ (Wk μ1 ∧ Xk μ1) ∧ ∀ ov2 μ2, (((¬ (0 ≤ c ∧ c ≤ 5)) → ov2 = some (vL 0) ∧ μ2 = st μ1 38 0 0 1) ∧ (((0 ≤ c ∧ c ≤ 5) ∧ μ1 44 0 c ≠ 0) → ov2 = some (vL 0) ∧ μ2 = st μ1 38 0 0 2) ∧ (((0 ≤ c ∧ c ≤ 5) ∧ μ1 44 0 c = 0) → ov2 = some (vL (lossF (failL μ1 c 4) c)) ∧ μ2 = failF μ1 c)) → ∃ b, ov2 = some (vL b) ∧ J (B + 10000000000000000) μ2 ∧ μ2 38 0 0 = kk ∧ (kk = 0 → μ2 62 0 0 = b) := by
  have hG := J_gd hJ
  have hK := hJ.1.1
  have hX := hJ.1.2.2.1
  have hP0 := PB2_rf hJ
  have hT : PB2 μ μ1 → rp μ1 = al μ := fun q => J_rp hJ q
  by_cases c0 : 0 ≤ c ∧ c ≤ 5
  · skip
    by_cases c1 : μ 5 0 c = 0
    · skip
      have h := hq.1 ⟨c0, c1⟩
      have hp := hT h.2.2.2
      have e44 : μ1 44 0 c = μ 5 0 c := rq hp (show reF 44 = true by decide)
      refine ⟨0, h.1, h.2.2.2, J_pre hJ h.2.2.2, fun ov2 μ2 hr => ?_⟩
      have r := hr.2.2 (by omega)
      have hA : al μ1 = flE (itC c 4 (al μ)) c := by
        rw [h.2.2.1, fl_E, al_th]
      have hgd : Gd (B + 10000000000000000) (flE (itC c 4 (al μ)) c) := by
        have hb := itC_B (c := c) (by omega) hG.1 hG.2.2.1 hG.2.2.2 h0 4 (by decide) (by omega)
        have hu : ∀ {g : Nat} {j : Int}, (g ≠ 48 ∧ g ≠ 49 ∧ g ≠ 50 ∧ g ≠ 51 ∧ g ≠ 52 ∧ g ≠ 45) → (g ≠ 42 ∧ g ≠ 41) → ¬ (g = 38 ∧ (j = 11 ∨ j = 28)) → itC c 4 (al μ) g 0 j = al μ g 0 j := fun q1 q2 q3 => itC_u c (al μ) q1 q2 q3 4
        have hx : Xk (itC c 4 (al μ)) := Xk_cg hG.2.1 (hu (by decide) (by decide) (by decide)) (hu (by decide) (by decide) (by decide)) (by rw [hu (g := 38) (by decide) (by decide) (by decide)]; have := hG.2.1.1; omega) (fun g j q => hu (by omega) (by omega) (by omega))
        generalize itC c 4 (al μ) = Z at hb hx
        unfold flE
        refine ⟨Wk_st (Wk_st (Wk_st (Wk_st hb.1 (by omega)) (by omega)) (by omega)) (by omega), ?_, ?_, Pr_cg hb.2.2 (fun j => (st_o (by decide)).trans ((st_o (by decide)).trans ((st_o (by decide)).trans (st_o (by decide)))))⟩
        · obtain ⟨x1, x2, x3, x4⟩ := hx
          refine ⟨x1, x2, x3, fun d d0 d1 => ?_⟩
          show (st (st Z 44 0 c 1) 43 0 c 0 43 0 d = 0 ∨ st (st Z 44 0 c 1) 43 0 c 0 43 0 d = 1) ∧ (st Z 44 0 c 1 44 0 d = 0 ∨ st Z 44 0 c 1 44 0 d = 1)
          by_cases q : d = c
          · rw [q, st_s, st_s]; exact ⟨Or.inl rfl, Or.inr rfl⟩
          · simp only [st_i q]; exact x4 d d0 d1
        · have hc := hb.2.1 c (by omega) (by omega)
          refine Bp_cg (Bp_le (Bp_st (d := 240000000000) (Bp_cg hb.2.1 (fun j => (st_o (by decide)).trans (st_o (by decide)))) c (fun _ _ => ?_) (by decide)) (by omega)) (fun j => st_o (by decide))
          have hl : lossF Z c = if Z 41 0 c < 0 then -Z 41 0 c else 0 := by
            unfold lossF
            rw [w64_in (x := -Z 41 0 c) (B := B + 240000000000) (by omega) (by omega)]
          rw [hl]
          split
          · rw [w64_in (x := Z 41 0 c + -Z 41 0 c) (B := 0) (by omega) (by omega)]; omega
          · rw [w64_in (x := Z 41 0 c + 0) (B := B + 240000000000) (by omega) (by omega)]; omega
      have hj := J_ok (n_fail c) hJ h.2.2.2 hA hgd
      have hu : μ2 = flE (itC c 4 (st μ1 38 0 0 0)) c := by rw [r.2]; exact fl_E _ _
      rw [← hu] at hj
      refine ⟨_, r.1, hj.1, hj.2.1, fun _ => ?_⟩
      rw [hj.2.2.1, h.2.1]
      rw [fl_it, fl_it, al_th]
      exact (rv_at0 (f := fun m => lossF (itC c 4 m) c) (fun D hD a b => by rw [rv_itC hD, rv_loss hD]) hp).symm
    · have h := hq.2.2 ⟨c0, c1⟩
      obtain ⟨h1, h2⟩ := h
      have hP1 : PB2 μ μ1 := by rw [h2]; exact hP0
      have hp := hT hP1
      have e44 : μ1 44 0 c = μ 5 0 c := rq hp (show reF 44 = true by decide)
      refine ⟨2, h1, hP1, J_pre hJ hP1, fun ov2 μ2 hr => ?_⟩
      have r := hr.2.1 (by omega)
      exact ⟨_, r.1, by rw [r.2, h2]; exact J_err hJ (by omega) 2, by rw [r.2]; exact st_s, fun z => absurd z (by decide)⟩
  · have h := hq.2.1 c0
    obtain ⟨h1, h2⟩ := h
    have hP1 : PB2 μ μ1 := by rw [h2]; exact hP0
    have hp := hT hP1
    have e44 : μ1 44 0 c = μ 5 0 c := rq hp (show reF 44 = true by decide)
    refine ⟨1, h1, hP1, J_pre hJ hP1, fun ov2 μ2 hr => ?_⟩
    have r := hr.1 (by omega)
    exact ⟨_, r.1, by rw [r.2, h2]; exact J_err hJ (by omega) 1, by rw [r.2]; exact st_s, fun z => absurd z (by decide)⟩
set_option maxHeartbeats 4000000 in
theorem cal_position {B : Int} {μ μ1 : Mm} {ov : Option AV} {c s : Int} (hJ : J B μ) (h0 : 0 ≤ B) (hB : B ≤ 8000000000000000000)  (hq : ((((0 ≤ c ∧ c ≤ 5) ∧ (0 ≤ s ∧ s ≤ 3))) → ov = some (vI 0) ∧ μ1 62 0 0 = (μ 7 c s) ∧ al μ1 = al μ ∧ PB2 μ μ1) ∧ ((¬ ((0 ≤ c ∧ c ≤ 5) ∧ (0 ≤ s ∧ s ≤ 3))) → ov = some (vI 1) ∧ μ1 = μ)) : ∃ kk, ov = some (vI kk) ∧ PB2 μ μ1 ∧ (Wk μ1 ∧ Xk μ1) ∧ ∀ ov2 μ2, (((¬ ((0 ≤ c ∧ c ≤ 5) ∧ (0 ≤ s ∧ s ≤ 3))) → ov2 = some (vI 0) ∧ μ2 = st μ1 38 0 0 1) ∧ (((0 ≤ c ∧ c ≤ 5) ∧ (0 ≤ s ∧ s ≤ 3)) → ov2 = some (vI (μ1 42 0 (4 * c + s))) ∧ μ2 = st μ1 38 0 0 0)) → ∃ b, ov2 = some (vI b) ∧ J (B + 10000000000000000) μ2 ∧ μ2 38 0 0 = kk ∧ (kk = 0 → μ2 62 0 0 = b) := by
  have hG := J_gd hJ
  have hK := hJ.1.1
  have hX := hJ.1.2.2.1
  have hP0 := PB2_rf hJ
  have hT : PB2 μ μ1 → rp μ1 = al μ := fun q => J_rp hJ q
  by_cases c0 : (0 ≤ c ∧ c ≤ 5) ∧ (0 ≤ s ∧ s ≤ 3)
  · skip
    have h := hq.1 c0
    have hp := hT h.2.2.2
    have e42 : (0 ≤ s ∧ s ≤ 3) → μ1 42 0 (4 * c + s) = μ 7 c s := fun q => (rq hp (show reF 42 = true by decide)).trans (al_42 q)
    refine ⟨0, h.1, h.2.2.2, J_pre hJ h.2.2.2, fun ov2 μ2 hr => ?_⟩
    have r := hr.2 (by omega)
    have hA : al μ1 = (al μ) := by
      exact h.2.2.1
    have hgd : Gd (B + 10000000000000000) ((al μ)) := by
      exact Gd_up hG
    have hj := J_ok n_id hJ h.2.2.2 hA hgd
    have hu : μ2 = (st μ1 38 0 0 0) := by exact r.2
    rw [← hu] at hj
    refine ⟨_, r.1, hj.1, hj.2.1, fun _ => ?_⟩
    rw [hj.2.2.1, h.2.1]
    exact (e42 (by omega)).symm
  · have h := hq.2 c0
    obtain ⟨h1, h2⟩ := h
    have hP1 : PB2 μ μ1 := by rw [h2]; exact hP0
    have hp := hT hP1
    have e42 : (0 ≤ s ∧ s ≤ 3) → μ1 42 0 (4 * c + s) = μ 7 c s := fun q => (rq hp (show reF 42 = true by decide)).trans (al_42 q)
    refine ⟨1, h1, hP1, J_pre hJ hP1, fun ov2 μ2 hr => ?_⟩
    have r := hr.1 (by omega)
    exact ⟨_, r.1, by rw [r.2, h2]; exact J_err hJ (by omega) 1, by rw [r.2]; exact st_s, fun z => absurd z (by decide)⟩
set_option maxHeartbeats 4000000 in
theorem cal_part {B : Int} {μ μ1 : Mm} {ov : Option AV} {c s : Int} (hJ : J B μ) (h0 : 0 ≤ B) (hB : B ≤ 8000000000000000000)  (hq : ((((0 ≤ c ∧ c ≤ 5) ∧ (0 ≤ s ∧ s ≤ 3))) → ov = some (vI 0) ∧ μ1 62 0 0 = (partF (al μ) c s) ∧ al μ1 = al μ ∧ PB2 μ μ1) ∧ ((¬ ((0 ≤ c ∧ c ≤ 5) ∧ (0 ≤ s ∧ s ≤ 3))) → ov = some (vI 1) ∧ μ1 = μ)) : ∃ kk, ov = some (vI kk) ∧ PB2 μ μ1 ∧ (Wk μ1 ∧ Xk μ1) ∧ ∀ ov2 μ2, (((¬ ((0 ≤ c ∧ c ≤ 5) ∧ (0 ≤ s ∧ s ≤ 3))) → ov2 = some (vI 0) ∧ μ2 = st μ1 38 0 0 1) ∧ (((0 ≤ c ∧ c ≤ 5) ∧ (0 ≤ s ∧ s ≤ 3)) → ov2 = some (vI (partF (st μ1 38 0 0 0) c s)) ∧ μ2 = st μ1 38 0 0 0)) → ∃ b, ov2 = some (vI b) ∧ J (B + 10000000000000000) μ2 ∧ μ2 38 0 0 = kk ∧ (kk = 0 → μ2 62 0 0 = b) := by
  have hG := J_gd hJ
  have hK := hJ.1.1
  have hX := hJ.1.2.2.1
  have hP0 := PB2_rf hJ
  have hT : PB2 μ μ1 → rp μ1 = al μ := fun q => J_rp hJ q
  by_cases c0 : (0 ≤ c ∧ c ≤ 5) ∧ (0 ≤ s ∧ s ≤ 3)
  · skip
    have h := hq.1 c0
    have hp := hT h.2.2.2
    refine ⟨0, h.1, h.2.2.2, J_pre hJ h.2.2.2, fun ov2 μ2 hr => ?_⟩
    have r := hr.2 (by omega)
    have hA : al μ1 = (al μ) := by
      exact h.2.2.1
    have hgd : Gd (B + 10000000000000000) ((al μ)) := by
      exact Gd_up hG
    have hj := J_ok n_id hJ h.2.2.2 hA hgd
    have hu : μ2 = (st μ1 38 0 0 0) := by exact r.2
    rw [← hu] at hj
    refine ⟨_, r.1, hj.1, hj.2.1, fun _ => ?_⟩
    rw [hj.2.2.1, h.2.1]
    exact (rv_at0 (f := fun m => partF m c s) (fun D hD a b => ov_partF hD.co b c s) hp).symm
  · have h := hq.2 c0
    obtain ⟨h1, h2⟩ := h
    have hP1 : PB2 μ μ1 := by rw [h2]; exact hP0
    have hp := hT hP1
    refine ⟨1, h1, hP1, J_pre hJ hP1, fun ov2 μ2 hr => ?_⟩
    have r := hr.1 (by omega)
    exact ⟨_, r.1, by rw [r.2, h2]; exact J_err hJ (by omega) 1, by rw [r.2]; exact st_s, fun z => absurd z (by decide)⟩
set_option maxHeartbeats 4000000 in
theorem cal_partAnew {B : Int} {μ μ1 : Mm} {ov : Option AV} {c s : Int} (hJ : J B μ) (h0 : 0 ≤ B) (hB : B ≤ 8000000000000000000)  (hq : ((((0 ≤ c ∧ c ≤ 5) ∧ (0 ≤ s ∧ s ≤ 3))) → ov = some (vI 0) ∧ μ1 62 0 0 = (partF (al μ) c s) ∧ al μ1 = al μ ∧ PB2 μ μ1) ∧ ((¬ ((0 ≤ c ∧ c ≤ 5) ∧ (0 ≤ s ∧ s ≤ 3))) → ov = some (vI 1) ∧ μ1 = μ)) : ∃ kk, ov = some (vI kk) ∧ PB2 μ μ1 ∧ (Wk μ1 ∧ Xk μ1) ∧ ∀ ov2 μ2, (((¬ ((0 ≤ c ∧ c ≤ 5) ∧ (0 ≤ s ∧ s ≤ 3))) → ov2 = some (vI 0) ∧ μ2 = st μ1 38 0 0 1) ∧ (((0 ≤ c ∧ c ≤ 5) ∧ (0 ≤ s ∧ s ≤ 3)) → ov2 = some (vI (partF (st μ1 38 0 0 0) c s)) ∧ μ2 = st μ1 38 0 0 0)) → ∃ b, ov2 = some (vI b) ∧ J (B + 10000000000000000) μ2 ∧ μ2 38 0 0 = kk ∧ (kk = 0 → μ2 62 0 0 = b) := by
  have hG := J_gd hJ
  have hK := hJ.1.1
  have hX := hJ.1.2.2.1
  have hP0 := PB2_rf hJ
  have hT : PB2 μ μ1 → rp μ1 = al μ := fun q => J_rp hJ q
  by_cases c0 : (0 ≤ c ∧ c ≤ 5) ∧ (0 ≤ s ∧ s ≤ 3)
  · skip
    have h := hq.1 c0
    have hp := hT h.2.2.2
    refine ⟨0, h.1, h.2.2.2, J_pre hJ h.2.2.2, fun ov2 μ2 hr => ?_⟩
    have r := hr.2 (by omega)
    have hA : al μ1 = (al μ) := by
      exact h.2.2.1
    have hgd : Gd (B + 10000000000000000) ((al μ)) := by
      exact Gd_up hG
    have hj := J_ok n_id hJ h.2.2.2 hA hgd
    have hu : μ2 = (st μ1 38 0 0 0) := by exact r.2
    rw [← hu] at hj
    refine ⟨_, r.1, hj.1, hj.2.1, fun _ => ?_⟩
    rw [hj.2.2.1, h.2.1]
    exact (rv_at0 (f := fun m => partF m c s) (fun D hD a b => ov_partF hD.co b c s) hp).symm
  · have h := hq.2 c0
    obtain ⟨h1, h2⟩ := h
    have hP1 : PB2 μ μ1 := by rw [h2]; exact hP0
    have hp := hT hP1
    refine ⟨1, h1, hP1, J_pre hJ hP1, fun ov2 μ2 hr => ?_⟩
    have r := hr.1 (by omega)
    exact ⟨_, r.1, by rw [r.2, h2]; exact J_err hJ (by omega) 1, by rw [r.2]; exact st_s, fun z => absurd z (by decide)⟩
set_option maxHeartbeats 4000000 in
theorem cal_clientOf {B : Int} {μ μ1 : Mm} {ov : Option AV} {c w : Int} (hJ : J B μ) (h0 : 0 ≤ B) (hB : B ≤ 8000000000000000000)  (hq : (((0 ≤ c ∧ c ≤ 5) ∧ (0 ≤ w ∧ w ≤ 4)) → ov = some (vI 0) ∧ μ1 62 0 0 = (if w = 0 then μ 3 0 c else if w = 1 then equityF (al μ) c else if w = 2 then needF (al μ) c else if w = 3 then calledF (al μ) c else μ 5 0 c) ∧ al μ1 = al μ ∧ PB2 μ μ1) ∧ ((¬ (0 ≤ c ∧ c ≤ 5)) → ov = some (vI 1) ∧ μ1 = μ) ∧ (((0 ≤ c ∧ c ≤ 5) ∧ ¬ (0 ≤ w ∧ w ≤ 4)) → ov = some (vI 2) ∧ μ1 = μ)) : ∃ kk, ov = some (vI kk) ∧ PB2 μ μ1 ∧ (Wk μ1 ∧ Xk μ1) ∧ ∀ ov2 μ2, (((¬ (0 ≤ c ∧ c ≤ 5)) → ov2 = some (vL 0) ∧ μ2 = st μ1 38 0 0 1) ∧ (((0 ≤ c ∧ c ≤ 5) ∧ ¬ (0 ≤ w ∧ w ≤ 4)) → ov2 = some (vL 0) ∧ μ2 = st μ1 38 0 0 2) ∧ (((0 ≤ c ∧ c ≤ 5) ∧ (0 ≤ w ∧ w ≤ 4)) → ov2 = some (vL (if w = 0 then μ1 41 0 c else if w = 1 then equityF (st μ1 38 0 0 0) c else if w = 2 then needF (st μ1 38 0 0 0) c else if w = 3 then calledF (st μ1 38 0 0 0) c else μ1 44 0 c)) ∧ μ2 = st μ1 38 0 0 0)) → ∃ b, ov2 = some (vL b) ∧ J (B + 10000000000000000) μ2 ∧ μ2 38 0 0 = kk ∧ (kk = 0 → μ2 62 0 0 = b) := by
  have hG := J_gd hJ
  have hK := hJ.1.1
  have hX := hJ.1.2.2.1
  have hP0 := PB2_rf hJ
  have hT : PB2 μ μ1 → rp μ1 = al μ := fun q => J_rp hJ q
  by_cases c0 : 0 ≤ c ∧ c ≤ 5
  · skip
    by_cases c1 : 0 ≤ w ∧ w ≤ 4
    · skip
      have h := hq.1 ⟨c0, c1⟩
      have hp := hT h.2.2.2
      refine ⟨0, h.1, h.2.2.2, J_pre hJ h.2.2.2, fun ov2 μ2 hr => ?_⟩
      have r := hr.2.2 (by omega)
      have hA : al μ1 = (al μ) := by
        exact h.2.2.1
      have hgd : Gd (B + 10000000000000000) ((al μ)) := by
        exact Gd_up hG
      have hj := J_ok n_id hJ h.2.2.2 hA hgd
      have hu : μ2 = (st μ1 38 0 0 0) := by exact r.2
      rw [← hu] at hj
      refine ⟨_, r.1, hj.1, hj.2.1, fun _ => ?_⟩
      rw [hj.2.2.1, h.2.1]
      rw [show μ1 41 0 c = μ 3 0 c from rq hp (show reF 41 = true by decide), show equityF (st μ1 38 0 0 0) c = equityF (al μ) c from rv_at0 (f := fun m => equityF m c) (fun D hD a b => rv_equity hD b c) hp, show needF (st μ1 38 0 0 0) c = needF (al μ) c from rv_at0 (f := fun m => needF m c) (fun D hD a b => rv_need hD b c) hp, show calledF (st μ1 38 0 0 0) c = calledF (al μ) c from rv_at0 (f := fun m => calledF m c) (fun D hD a b => rv_called hD b c) hp, show μ1 44 0 c = μ 5 0 c from rq hp (show reF 44 = true by decide)]
    · have h := hq.2.2 ⟨c0, c1⟩
      obtain ⟨h1, h2⟩ := h
      have hP1 : PB2 μ μ1 := by rw [h2]; exact hP0
      have hp := hT hP1
      refine ⟨2, h1, hP1, J_pre hJ hP1, fun ov2 μ2 hr => ?_⟩
      have r := hr.2.1 (by omega)
      exact ⟨_, r.1, by rw [r.2, h2]; exact J_err hJ (by omega) 2, by rw [r.2]; exact st_s, fun z => absurd z (by decide)⟩
  · have h := hq.2.1 c0
    obtain ⟨h1, h2⟩ := h
    have hP1 : PB2 μ μ1 := by rw [h2]; exact hP0
    have hp := hT hP1
    refine ⟨1, h1, hP1, J_pre hJ hP1, fun ov2 μ2 hr => ?_⟩
    have r := hr.1 (by omega)
    exact ⟨_, r.1, by rw [r.2, h2]; exact J_err hJ (by omega) 1, by rw [r.2]; exact st_s, fun z => absurd z (by decide)⟩
set_option maxHeartbeats 4000000 in
theorem cal_lenderOf {B : Int} {μ μ1 : Mm} {ov : Option AV} {l s w : Int} (hJ : J B μ) (h0 : 0 ≤ B) (hB : B ≤ 8000000000000000000)  (hq : ((((0 ≤ l ∧ l ≤ 3) ∧ (0 ≤ s ∧ s ≤ 3)) ∧ (0 ≤ w ∧ w ≤ 3)) → ov = some (vI 0) ∧ μ1 62 0 0 = (if w = 0 then μ 9 l s else if w = 1 then lentF (al μ) (10 + l) s else if w = 2 then μ 11 l s else μ 12 0 l) ∧ al μ1 = al μ ∧ PB2 μ μ1) ∧ ((¬ ((0 ≤ l ∧ l ≤ 3) ∧ (0 ≤ s ∧ s ≤ 3))) → ov = some (vI 1) ∧ μ1 = μ) ∧ ((((0 ≤ l ∧ l ≤ 3) ∧ (0 ≤ s ∧ s ≤ 3)) ∧ ¬ (0 ≤ w ∧ w ≤ 3)) → ov = some (vI 2) ∧ μ1 = μ)) : ∃ kk, ov = some (vI kk) ∧ PB2 μ μ1 ∧ (Wk μ1 ∧ Xk μ1) ∧ ∀ ov2 μ2, (((¬ ((0 ≤ l ∧ l ≤ 3) ∧ (0 ≤ s ∧ s ≤ 3))) → ov2 = some (vL 0) ∧ μ2 = st μ1 38 0 0 1) ∧ ((((0 ≤ l ∧ l ≤ 3) ∧ (0 ≤ s ∧ s ≤ 3)) ∧ ¬ (0 ≤ w ∧ w ≤ 3)) → ov2 = some (vL 0) ∧ μ2 = st μ1 38 0 0 2) ∧ ((((0 ≤ l ∧ l ≤ 3) ∧ (0 ≤ s ∧ s ≤ 3)) ∧ (0 ≤ w ∧ w ≤ 3)) → ov2 = some (vL (if w = 0 then μ1 45 0 (4 * l + s) else if w = 1 then lentF (st μ1 38 0 0 0) (10 + l) s else if w = 2 then μ1 46 0 (4 * l + s) else μ1 47 0 l)) ∧ μ2 = st μ1 38 0 0 0)) → ∃ b, ov2 = some (vL b) ∧ J (B + 10000000000000000) μ2 ∧ μ2 38 0 0 = kk ∧ (kk = 0 → μ2 62 0 0 = b) := by
  have hG := J_gd hJ
  have hK := hJ.1.1
  have hX := hJ.1.2.2.1
  have hP0 := PB2_rf hJ
  have hT : PB2 μ μ1 → rp μ1 = al μ := fun q => J_rp hJ q
  by_cases c0 : (0 ≤ l ∧ l ≤ 3) ∧ (0 ≤ s ∧ s ≤ 3)
  · skip
    by_cases c1 : 0 ≤ w ∧ w ≤ 3
    · skip
      have h := hq.1 ⟨c0, c1⟩
      have hp := hT h.2.2.2
      refine ⟨0, h.1, h.2.2.2, J_pre hJ h.2.2.2, fun ov2 μ2 hr => ?_⟩
      have r := hr.2.2 (by omega)
      have hA : al μ1 = (al μ) := by
        exact h.2.2.1
      have hgd : Gd (B + 10000000000000000) ((al μ)) := by
        exact Gd_up hG
      have hj := J_ok n_id hJ h.2.2.2 hA hgd
      have hu : μ2 = (st μ1 38 0 0 0) := by exact r.2
      rw [← hu] at hj
      refine ⟨_, r.1, hj.1, hj.2.1, fun _ => ?_⟩
      rw [hj.2.2.1, h.2.1]
      rw [show μ1 45 0 (4 * l + s) = μ 9 l s from (rq hp (show reF 45 = true by decide)).trans (al_45 (by omega)), show lentF (st μ1 38 0 0 0) (10 + l) s = lentF (al μ) (10 + l) s from rv_at0 (f := fun m => lentF m (10 + l) s) (fun D hD a b => ov_lentF hD.co b _ _) hp, show μ1 46 0 (4 * l + s) = μ 11 l s from (rq hp (show reF 46 = true by decide)).trans (al_46 (by omega)), show μ1 47 0 l = μ 12 0 l from rq hp (show reF 47 = true by decide)]
    · have h := hq.2.2 ⟨c0, c1⟩
      obtain ⟨h1, h2⟩ := h
      have hP1 : PB2 μ μ1 := by rw [h2]; exact hP0
      have hp := hT hP1
      refine ⟨2, h1, hP1, J_pre hJ hP1, fun ov2 μ2 hr => ?_⟩
      have r := hr.2.1 (by omega)
      exact ⟨_, r.1, by rw [r.2, h2]; exact J_err hJ (by omega) 2, by rw [r.2]; exact st_s, fun z => absurd z (by decide)⟩
  · have h := hq.2.1 c0
    obtain ⟨h1, h2⟩ := h
    have hP1 : PB2 μ μ1 := by rw [h2]; exact hP0
    have hp := hT hP1
    refine ⟨1, h1, hP1, J_pre hJ hP1, fun ov2 μ2 hr => ?_⟩
    have r := hr.1 (by omega)
    exact ⟨_, r.1, by rw [r.2, h2]; exact J_err hJ (by omega) 1, by rw [r.2]; exact st_s, fun z => absurd z (by decide)⟩
set_option maxHeartbeats 4000000 in
theorem cal_loanOf {B : Int} {μ μ1 : Mm} {ov : Option AV} {q w : Int} (hJ : J B μ) (h0 : 0 ≤ B) (hB : B ≤ 8000000000000000000)  (hq : (((0 ≤ q ∧ q < μ 15 0 5) ∧ (0 ≤ w ∧ w ≤ 4)) → ov = some (vI 0) ∧ μ1 62 0 0 = (if w = 0 then μ 16 0 q else if w = 1 then μ 17 0 q else if w = 2 then μ 18 0 q else if w = 3 then μ 19 0 q else μ 20 0 q) ∧ al μ1 = al μ ∧ PB2 μ μ1) ∧ ((¬ (0 ≤ q ∧ q < μ 15 0 5)) → ov = some (vI 1) ∧ μ1 = μ) ∧ (((0 ≤ q ∧ q < μ 15 0 5) ∧ ¬ (0 ≤ w ∧ w ≤ 4)) → ov = some (vI 2) ∧ μ1 = μ)) : ∃ kk, ov = some (vI kk) ∧ PB2 μ μ1 ∧ (Wk μ1 ∧ Xk μ1) ∧ ∀ ov2 μ2, (((¬ (0 ≤ q ∧ q ≤ μ1 38 0 11 - 1)) → ov2 = some (vI 0) ∧ μ2 = st μ1 38 0 0 1) ∧ (((0 ≤ q ∧ q ≤ μ1 38 0 11 - 1) ∧ ¬ (0 ≤ w ∧ w ≤ 4)) → ov2 = some (vI 0) ∧ μ2 = st μ1 38 0 0 2) ∧ (((0 ≤ q ∧ q ≤ μ1 38 0 11 - 1) ∧ (0 ≤ w ∧ w ≤ 4)) → ov2 = some (vI (if w = 0 then μ1 48 0 q else if w = 1 then μ1 49 0 q else if w = 2 then μ1 50 0 q else if w = 3 then μ1 51 0 q else μ1 52 0 q)) ∧ μ2 = st μ1 38 0 0 0)) → ∃ b, ov2 = some (vI b) ∧ J (B + 10000000000000000) μ2 ∧ μ2 38 0 0 = kk ∧ (kk = 0 → μ2 62 0 0 = b) := by
  have hG := J_gd hJ
  have hK := hJ.1.1
  have hX := hJ.1.2.2.1
  have hP0 := PB2_rf hJ
  have hT : PB2 μ μ1 → rp μ1 = al μ := fun q => J_rp hJ q
  by_cases c0 : 0 ≤ q ∧ q < μ 15 0 5
  · skip
    by_cases c1 : 0 ≤ w ∧ w ≤ 4
    · skip
      have h := hq.1 ⟨c0, c1⟩
      have hp := hT h.2.2.2
      have e11 : μ1 38 0 11 = μ 15 0 5 := rqn hp (by decide)
      refine ⟨0, h.1, h.2.2.2, J_pre hJ h.2.2.2, fun ov2 μ2 hr => ?_⟩
      have r := hr.2.2 (by omega)
      have hA : al μ1 = (al μ) := by
        exact h.2.2.1
      have hgd : Gd (B + 10000000000000000) ((al μ)) := by
        exact Gd_up hG
      have hj := J_ok n_id hJ h.2.2.2 hA hgd
      have hu : μ2 = (st μ1 38 0 0 0) := by exact r.2
      rw [← hu] at hj
      refine ⟨_, r.1, hj.1, hj.2.1, fun _ => ?_⟩
      rw [hj.2.2.1, h.2.1]
      rw [show μ1 48 0 q = μ 16 0 q from rq hp (show reF 48 = true by decide), show μ1 49 0 q = μ 17 0 q from rq hp (show reF 49 = true by decide), show μ1 50 0 q = μ 18 0 q from rq hp (show reF 50 = true by decide), show μ1 51 0 q = μ 19 0 q from rq hp (show reF 51 = true by decide), show μ1 52 0 q = μ 20 0 q from rq hp (show reF 52 = true by decide)]
    · have h := hq.2.2 ⟨c0, c1⟩
      obtain ⟨h1, h2⟩ := h
      have hP1 : PB2 μ μ1 := by rw [h2]; exact hP0
      have hp := hT hP1
      have e11 : μ1 38 0 11 = μ 15 0 5 := rqn hp (by decide)
      refine ⟨2, h1, hP1, J_pre hJ hP1, fun ov2 μ2 hr => ?_⟩
      have r := hr.2.1 (by omega)
      exact ⟨_, r.1, by rw [r.2, h2]; exact J_err hJ (by omega) 2, by rw [r.2]; exact st_s, fun z => absurd z (by decide)⟩
  · have h := hq.2.1 c0
    obtain ⟨h1, h2⟩ := h
    have hP1 : PB2 μ μ1 := by rw [h2]; exact hP0
    have hp := hT hP1
    have e11 : μ1 38 0 11 = μ 15 0 5 := rqn hp (by decide)
    refine ⟨1, h1, hP1, J_pre hJ hP1, fun ov2 μ2 hr => ?_⟩
    have r := hr.1 (by omega)
    exact ⟨_, r.1, by rw [r.2, h2]; exact J_err hJ (by omega) 1, by rw [r.2]; exact st_s, fun z => absurd z (by decide)⟩
set_option maxHeartbeats 4000000 in
theorem cal_locateOf {B : Int} {μ μ1 : Mm} {ov : Option AV} {q w : Int} (hJ : J B μ) (h0 : 0 ≤ B) (hB : B ≤ 8000000000000000000)  (hq : (((0 ≤ q ∧ q < μ 21 0 5) ∧ (0 ≤ w ∧ w ≤ 3)) → ov = some (vI 0) ∧ μ1 62 0 0 = (if w = 0 then μ 22 0 q else if w = 1 then μ 23 0 q else if w = 2 then μ 24 0 q else holdsF (al μ) q) ∧ al μ1 = al μ ∧ PB2 μ μ1) ∧ ((¬ (0 ≤ q ∧ q < μ 21 0 5)) → ov = some (vI 1) ∧ μ1 = μ) ∧ (((0 ≤ q ∧ q < μ 21 0 5) ∧ ¬ (0 ≤ w ∧ w ≤ 3)) → ov = some (vI 2) ∧ μ1 = μ)) : ∃ kk, ov = some (vI kk) ∧ PB2 μ μ1 ∧ (Wk μ1 ∧ Xk μ1) ∧ ∀ ov2 μ2, (((¬ (0 ≤ q ∧ q ≤ μ1 38 0 17 - 1)) → ov2 = some (vI 0) ∧ μ2 = st μ1 38 0 0 1) ∧ (((0 ≤ q ∧ q ≤ μ1 38 0 17 - 1) ∧ ¬ (0 ≤ w ∧ w ≤ 3)) → ov2 = some (vI 0) ∧ μ2 = st μ1 38 0 0 2) ∧ (((0 ≤ q ∧ q ≤ μ1 38 0 17 - 1) ∧ (0 ≤ w ∧ w ≤ 3)) → ov2 = some (vI (if w = 0 then μ1 53 0 q else if w = 1 then μ1 54 0 q else if w = 2 then μ1 55 0 q else holdsF μ1 q)) ∧ μ2 = st μ1 38 0 0 0)) → ∃ b, ov2 = some (vI b) ∧ J (B + 10000000000000000) μ2 ∧ μ2 38 0 0 = kk ∧ (kk = 0 → μ2 62 0 0 = b) := by
  have hG := J_gd hJ
  have hK := hJ.1.1
  have hX := hJ.1.2.2.1
  have hP0 := PB2_rf hJ
  have hT : PB2 μ μ1 → rp μ1 = al μ := fun q => J_rp hJ q
  by_cases c0 : 0 ≤ q ∧ q < μ 21 0 5
  · skip
    by_cases c1 : 0 ≤ w ∧ w ≤ 3
    · skip
      have h := hq.1 ⟨c0, c1⟩
      have hp := hT h.2.2.2
      have e17 : μ1 38 0 17 = μ 21 0 5 := rqn hp (by decide)
      refine ⟨0, h.1, h.2.2.2, J_pre hJ h.2.2.2, fun ov2 μ2 hr => ?_⟩
      have r := hr.2.2 (by omega)
      have hA : al μ1 = (al μ) := by
        exact h.2.2.1
      have hgd : Gd (B + 10000000000000000) ((al μ)) := by
        exact Gd_up hG
      have hj := J_ok n_id hJ h.2.2.2 hA hgd
      have hu : μ2 = (st μ1 38 0 0 0) := by exact r.2
      rw [← hu] at hj
      refine ⟨_, r.1, hj.1, hj.2.1, fun _ => ?_⟩
      rw [hj.2.2.1, h.2.1]
      rw [show μ1 53 0 q = μ 22 0 q from rq hp (show reF 53 = true by decide), show μ1 54 0 q = μ 23 0 q from rq hp (show reF 54 = true by decide), show μ1 55 0 q = μ 24 0 q from rq hp (show reF 55 = true by decide), show holdsF μ1 q = holdsF (al μ) q from rv_at (f := fun m => holdsF m q) (fun D hD a b => rv_holds hD b q) hp]
    · have h := hq.2.2 ⟨c0, c1⟩
      obtain ⟨h1, h2⟩ := h
      have hP1 : PB2 μ μ1 := by rw [h2]; exact hP0
      have hp := hT hP1
      have e17 : μ1 38 0 17 = μ 21 0 5 := rqn hp (by decide)
      refine ⟨2, h1, hP1, J_pre hJ hP1, fun ov2 μ2 hr => ?_⟩
      have r := hr.2.1 (by omega)
      exact ⟨_, r.1, by rw [r.2, h2]; exact J_err hJ (by omega) 2, by rw [r.2]; exact st_s, fun z => absurd z (by decide)⟩
  · have h := hq.2.1 c0
    obtain ⟨h1, h2⟩ := h
    have hP1 : PB2 μ μ1 := by rw [h2]; exact hP0
    have hp := hT hP1
    have e17 : μ1 38 0 17 = μ 21 0 5 := rqn hp (by decide)
    refine ⟨1, h1, hP1, J_pre hJ hP1, fun ov2 μ2 hr => ?_⟩
    have r := hr.1 (by omega)
    exact ⟨_, r.1, by rw [r.2, h2]; exact J_err hJ (by omega) 1, by rw [r.2]; exact st_s, fun z => absurd z (by decide)⟩
set_option maxHeartbeats 4000000 in
theorem cal_count {B : Int} {μ μ1 : Mm} {ov : Option AV} {w : Int} (hJ : J B μ) (h0 : 0 ≤ B) (hB : B ≤ 8000000000000000000)  (hq : (((0 ≤ w ∧ w ≤ 4)) → ov = some (vI 0) ∧ μ1 62 0 0 = (if w = 0 then μ 15 0 5 else if w = 1 then opF (al μ) (μ 15 0 5).toNat else if w = 2 then μ 0 0 15 else if w = 3 then μ 0 0 16 else mtF μ) ∧ al μ1 = al μ ∧ PB2 μ μ1) ∧ ((¬ (0 ≤ w ∧ w ≤ 4)) → ov = some (vI 1) ∧ μ1 = μ)) : ∃ kk, ov = some (vI kk) ∧ PB2 μ μ1 ∧ (Wk μ1 ∧ Xk μ1) ∧ ∀ ov2 μ2, (((¬ (0 ≤ w ∧ w ≤ 4)) → ov2 = some (vL 0) ∧ μ2 = st μ1 38 0 0 1) ∧ ((0 ≤ w ∧ w ≤ 4) → ov2 = some (vL (if w = 0 then μ1 38 0 11 else if w = 1 then opF μ1 (μ1 38 0 11).toNat else if w = 2 then μ1 38 0 28 else if w = 3 then μ1 38 0 29 else μ1 38 0 30)) ∧ μ2 = st μ1 38 0 0 0)) → ∃ b, ov2 = some (vL b) ∧ J (B + 10000000000000000) μ2 ∧ μ2 38 0 0 = kk ∧ (kk = 0 → μ2 62 0 0 = b) := by
  have hG := J_gd hJ
  have hK := hJ.1.1
  have hX := hJ.1.2.2.1
  have hP0 := PB2_rf hJ
  have hT : PB2 μ μ1 → rp μ1 = al μ := fun q => J_rp hJ q
  by_cases c0 : 0 ≤ w ∧ w ≤ 4
  · skip
    have h := hq.1 c0
    have hp := hT h.2.2.2
    refine ⟨0, h.1, h.2.2.2, J_pre hJ h.2.2.2, fun ov2 μ2 hr => ?_⟩
    have r := hr.2 (by omega)
    have hA : al μ1 = (al μ) := by
      exact h.2.2.1
    have hgd : Gd (B + 10000000000000000) ((al μ)) := by
      exact Gd_up hG
    have hj := J_ok n_id hJ h.2.2.2 hA hgd
    have hu : μ2 = (st μ1 38 0 0 0) := by exact r.2
    rw [← hu] at hj
    refine ⟨_, r.1, hj.1, hj.2.1, fun _ => ?_⟩
    rw [hj.2.2.1, h.2.1]
    rw [show opF μ1 (μ1 38 0 11).toNat = opF (al μ) (μ 15 0 5).toNat from rv_at (f := fun m => opF m (m 38 0 11).toNat) (fun D hD a b => opF_rv D hD a b) hp, show μ1 38 0 11 = μ 15 0 5 from rqn hp (by decide), show μ1 38 0 28 = μ 0 0 15 from rqn hp (by decide), show μ1 38 0 29 = μ 0 0 16 from rqn hp (by decide), show μ1 38 0 30 = mtF μ from rqn hp (by decide)]
  · have h := hq.2 c0
    obtain ⟨h1, h2⟩ := h
    have hP1 : PB2 μ μ1 := by rw [h2]; exact hP0
    have hp := hT hP1
    refine ⟨1, h1, hP1, J_pre hJ hP1, fun ov2 μ2 hr => ?_⟩
    have r := hr.1 (by omega)
    exact ⟨_, r.1, by rw [r.2, h2]; exact J_err hJ (by omega) 1, by rw [r.2]; exact st_s, fun z => absurd z (by decide)⟩
set_option maxHeartbeats 4000000 in
theorem cal_stockOf {B : Int} {μ μ1 : Mm} {ov : Option AV} {s w : Int} (hJ : J B μ) (h0 : 0 ≤ B) (hB : B ≤ 8000000000000000000)  (hq : (((0 ≤ s ∧ s ≤ 3) ∧ (0 ≤ w ∧ w ≤ 6)) → ov = some (vI 0) ∧ μ1 62 0 0 = (if w = 0 then μ 1 0 s else if w = 1 then longF (al μ) s else if w = 2 then shtF (al μ) s else if w = 3 then longF (al μ) s - lbF (al μ) s else if w = 4 then lbF (al μ) s else if w = 5 then llF (al μ) s else μ 2 0 s) ∧ al μ1 = al μ ∧ PB2 μ μ1) ∧ ((¬ (0 ≤ s ∧ s ≤ 3)) → ov = some (vI 1) ∧ μ1 = μ) ∧ (((0 ≤ s ∧ s ≤ 3) ∧ ¬ (0 ≤ w ∧ w ≤ 6)) → ov = some (vI 2) ∧ μ1 = μ)) : ∃ kk, ov = some (vI kk) ∧ PB2 μ μ1 ∧ (Wk μ1 ∧ Xk μ1) ∧ ∀ ov2 μ2, (((¬ (0 ≤ s ∧ s ≤ 3)) → ov2 = some (vI 0) ∧ μ2 = st μ1 38 0 0 1) ∧ (((0 ≤ s ∧ s ≤ 3) ∧ ¬ (0 ≤ w ∧ w ≤ 6)) → ov2 = some (vI 0) ∧ μ2 = st μ1 38 0 0 2) ∧ (((0 ≤ s ∧ s ≤ 3) ∧ (0 ≤ w ∧ w ≤ 6)) → ov2 = some (vI (if w = 0 then μ1 39 0 s else if w = 6 then μ1 40 0 s else soM μ1 s w 4)) ∧ μ2 = st μ1 38 0 0 0)) → ∃ b, ov2 = some (vI b) ∧ J (B + 10000000000000000) μ2 ∧ μ2 38 0 0 = kk ∧ (kk = 0 → μ2 62 0 0 = b) := by
  have hG := J_gd hJ
  have hK := hJ.1.1
  have hX := hJ.1.2.2.1
  have hP0 := PB2_rf hJ
  have hT : PB2 μ μ1 → rp μ1 = al μ := fun q => J_rp hJ q
  by_cases c0 : 0 ≤ s ∧ s ≤ 3
  · skip
    by_cases c1 : 0 ≤ w ∧ w ≤ 6
    · skip
      have h := hq.1 ⟨c0, c1⟩
      have hp := hT h.2.2.2
      refine ⟨0, h.1, h.2.2.2, J_pre hJ h.2.2.2, fun ov2 μ2 hr => ?_⟩
      have r := hr.2.2 (by omega)
      have hA : al μ1 = (al μ) := by
        exact h.2.2.1
      have hgd : Gd (B + 10000000000000000) ((al μ)) := by
        exact Gd_up hG
      have hj := J_ok n_id hJ h.2.2.2 hA hgd
      have hu : μ2 = (st μ1 38 0 0 0) := by exact r.2
      rw [← hu] at hj
      refine ⟨_, r.1, hj.1, hj.2.1, fun _ => ?_⟩
      rw [hj.2.2.1, h.2.1]
      have hs5 := so_12 (VB_of hG.1) (s := s) (by omega)
      rw [show μ1 39 0 s = μ 1 0 s from rq hp (show reF 39 = true by decide), show μ1 40 0 s = μ 2 0 s from rq hp (show reF 40 = true by decide), show soM μ1 s w 4 = soM (al μ) s w 4 from rv_at (f := fun m => soM m s w 4) (fun D hD a b => soM_rv D hD s w a b 4) hp]
      have hw : w = 0 ∨ w = 1 ∨ w = 2 ∨ w = 3 ∨ w = 4 ∨ w = 5 ∨ w = 6 := by omega
      rcases hw with rfl | rfl | rfl | rfl | rfl | rfl | rfl
      · rfl
      · exact hs5.1.symm
      · exact hs5.2.1.symm
      · exact hs5.2.2.1.symm
      · exact hs5.2.2.2.1.symm
      · exact hs5.2.2.2.2.symm
      · rfl
    · have h := hq.2.2 ⟨c0, c1⟩
      obtain ⟨h1, h2⟩ := h
      have hP1 : PB2 μ μ1 := by rw [h2]; exact hP0
      have hp := hT hP1
      refine ⟨2, h1, hP1, J_pre hJ hP1, fun ov2 μ2 hr => ?_⟩
      have r := hr.2.1 (by omega)
      exact ⟨_, r.1, by rw [r.2, h2]; exact J_err hJ (by omega) 2, by rw [r.2]; exact st_s, fun z => absurd z (by decide)⟩
  · have h := hq.2.1 c0
    obtain ⟨h1, h2⟩ := h
    have hP1 : PB2 μ μ1 := by rw [h2]; exact hP0
    have hp := hT hP1
    refine ⟨1, h1, hP1, J_pre hJ hP1, fun ov2 μ2 hr => ?_⟩
    have r := hr.1 (by omega)
    exact ⟨_, r.1, by rw [r.2, h2]; exact J_err hJ (by omega) 1, by rw [r.2]; exact st_s, fun z => absurd z (by decide)⟩
