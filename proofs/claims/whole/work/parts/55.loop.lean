/-! ===== the law's loop -/
theorem J_le {B B' : Int} {μ : Mm} (h : J B μ) (hb : B ≤ B') : J B' μ := ⟨h.1, h.2.1, Bp_le h.2.2.1 hb, h.2.2.2⟩
set_option maxHeartbeats 4000000 in
set_option maxRecDepth 20000 in
theorem law_loop {b : Nat} {L : Int} {xs : Int → Int} {ER : Option AV → Mm → Prop} {ET : Nat → Mm → Prop} (hER : ∀ μ, ER (some (vI 1)) μ) (hL : 0 ≤ L ∧ L ≤ 2560) : ∀ (fz : Nat) (i B : Int) (n : Nat) (μ : Mm), (L - i).toNat < fz → 0 ≤ i → i ≤ L + 5 → J B μ → 0 ≤ B → 5 * B ≤ 10000000000000000 * i → (n : Int) ≤ 6000 + i → LW b L xs ER ET 23 n [some (vX b), some (vR 0 0), some (vR 38 0), some (vR 62 0), some (vI i), none, none, none] [] μ := by
  intro fz
  induction fz with
  | zero => intro i B n μ hf; omega
  | succ fz ih =>
    intro i B n μ hf hi0 hi1 hJ h0 hB hn
    have hN : i + 5 ≤ L → ∀ (μ' : Mm) (n' : Nat), J (B + 10000000000000000) μ' → n ≤ n' → n' ≤ n + 5 → LW b L xs ER ET 1787 n' [some (vX b), some (vR 0 0), some (vR 38 0), some (vR 62 0), some (vI i), none, none, none] [] μ' := fun hi2 μ' n' hJ' hn1 hn2 => by
      refine run_k 2 ?_
      show LW b L xs ER ET 23 n' [some (vX b), some (vR 0 0), some (vR 38 0), some (vR 62 0), some (vI (w32 (i + 5))), none, none, none] [] μ'
      rw [show w32 (i + 5) = i + 5 from w32_id (by simp only [in32]; omega)]
      exact ih (i + 5) (B + 10000000000000000) n' μ' (by omega) (by omega) (by omega) hJ' (by omega) (by omega) (by omega)
    refine run_k 6 ?_
    show (b = b) ∧ (((w32 (L - 5)) < i → LW b L xs ER ET 1793 n [some (vX b), some (vR 0 0), some (vR 38 0), some (vR 62 0), some (vI i), none, none, none] [] μ) ∧ (i ≤ (w32 (L - 5)) → LW b L xs ER ET 32 n [some (vX b), some (vR 0 0), some (vR 38 0), some (vR 62 0), some (vI i), none, none, none] [] μ))
    rw [show w32 (L - 5) = L - 5 from w32_id (by simp only [in32]; omega)]
    refine ⟨rfl, ?_⟩
    refine ⟨fun c1 => ?_, fun c1 => ?_⟩
    · refine run_k 2 ?_
      show bT _ ((1 = 0 ∨ 1 = 1) ∧ ER (some (vI 1)) μ)
      refine bT_i (Nat.ble_eq_true_of_le (show _ ≤ (20000 : Nat) from by omega)) ?_
      refine ⟨by omega, ?_⟩
      exact hER _
    · replace hN := hN (by omega)
      refine run_k 6 ?_
      show (b = b) ∧ ((0 ≤ i ∧ i < L) ∧ (((((xs i) % 32) = 0 → LW b L xs ER ET 148 n [some (vX b), some (vR 0 0), some (vR 38 0), some (vR 62 0), some (vI i), none, none, none] [] μ) ∧ (((xs i) % 32) = 0 + 1 → LW b L xs ER ET 216 n [some (vX b), some (vR 0 0), some (vR 38 0), some (vR 62 0), some (vI i), none, none, none] [] μ) ∧ (((xs i) % 32) = 0 + 1 + 1 → LW b L xs ER ET 284 n [some (vX b), some (vR 0 0), some (vR 38 0), some (vR 62 0), some (vI i), none, none, none] [] μ) ∧ (((xs i) % 32) = 0 + 1 + 1 + 1 → LW b L xs ER ET 351 n [some (vX b), some (vR 0 0), some (vR 38 0), some (vR 62 0), some (vI i), none, none, none] [] μ) ∧ (((xs i) % 32) = 0 + 1 + 1 + 1 + 1 → LW b L xs ER ET 442 n [some (vX b), some (vR 0 0), some (vR 38 0), some (vR 62 0), some (vI i), none, none, none] [] μ) ∧ (((xs i) % 32) = 0 + 1 + 1 + 1 + 1 + 1 → LW b L xs ER ET 534 n [some (vX b), some (vR 0 0), some (vR 38 0), some (vR 62 0), some (vI i), none, none, none] [] μ) ∧ (((xs i) % 32) = 0 + 1 + 1 + 1 + 1 + 1 + 1 → LW b L xs ER ET 601 n [some (vX b), some (vR 0 0), some (vR 38 0), some (vR 62 0), some (vI i), none, none, none] [] μ) ∧ (((xs i) % 32) = 0 + 1 + 1 + 1 + 1 + 1 + 1 + 1 → LW b L xs ER ET 657 n [some (vX b), some (vR 0 0), some (vR 38 0), some (vR 62 0), some (vI i), none, none, none] [] μ) ∧ (((xs i) % 32) = 0 + 1 + 1 + 1 + 1 + 1 + 1 + 1 + 1 → LW b L xs ER ET 736 n [some (vX b), some (vR 0 0), some (vR 38 0), some (vR 62 0), some (vI i), none, none, none] [] μ) ∧ (((xs i) % 32) = 0 + 1 + 1 + 1 + 1 + 1 + 1 + 1 + 1 + 1 → LW b L xs ER ET 815 n [some (vX b), some (vR 0 0), some (vR 38 0), some (vR 62 0), some (vI i), none, none, none] [] μ) ∧ (((xs i) % 32) = 0 + 1 + 1 + 1 + 1 + 1 + 1 + 1 + 1 + 1 + 1 → LW b L xs ER ET 895 n [some (vX b), some (vR 0 0), some (vR 38 0), some (vR 62 0), some (vI i), none, none, none] [] μ) ∧ (((xs i) % 32) = 0 + 1 + 1 + 1 + 1 + 1 + 1 + 1 + 1 + 1 + 1 + 1 → LW b L xs ER ET 962 n [some (vX b), some (vR 0 0), some (vR 38 0), some (vR 62 0), some (vI i), none, none, none] [] μ) ∧ (((xs i) % 32) = 0 + 1 + 1 + 1 + 1 + 1 + 1 + 1 + 1 + 1 + 1 + 1 + 1 → LW b L xs ER ET 1054 n [some (vX b), some (vR 0 0), some (vR 38 0), some (vR 62 0), some (vI i), none, none, none] [] μ) ∧ (((xs i) % 32) = 0 + 1 + 1 + 1 + 1 + 1 + 1 + 1 + 1 + 1 + 1 + 1 + 1 + 1 → LW b L xs ER ET 1110 n [some (vX b), some (vR 0 0), some (vR 38 0), some (vR 62 0), some (vI i), none, none, none] [] μ) ∧ (((xs i) % 32) = 0 + 1 + 1 + 1 + 1 + 1 + 1 + 1 + 1 + 1 + 1 + 1 + 1 + 1 + 1 → LW b L xs ER ET 1165 n [some (vX b), some (vR 0 0), some (vR 38 0), some (vR 62 0), some (vI i), none, none, none] [] μ) ∧ (((xs i) % 32) = 0 + 1 + 1 + 1 + 1 + 1 + 1 + 1 + 1 + 1 + 1 + 1 + 1 + 1 + 1 + 1 → LW b L xs ER ET 1178 n [some (vX b), some (vR 0 0), some (vR 38 0), some (vR 62 0), some (vI i), none, none, none] [] μ) ∧ (((xs i) % 32) = 0 + 1 + 1 + 1 + 1 + 1 + 1 + 1 + 1 + 1 + 1 + 1 + 1 + 1 + 1 + 1 + 1 → LW b L xs ER ET 1246 n [some (vX b), some (vR 0 0), some (vR 38 0), some (vR 62 0), some (vI i), none, none, none] [] μ) ∧ (((xs i) % 32) = 0 + 1 + 1 + 1 + 1 + 1 + 1 + 1 + 1 + 1 + 1 + 1 + 1 + 1 + 1 + 1 + 1 + 1 → LW b L xs ER ET 1314 n [some (vX b), some (vR 0 0), some (vR 38 0), some (vR 62 0), some (vI i), none, none, none] [] μ) ∧ (((xs i) % 32) = 0 + 1 + 1 + 1 + 1 + 1 + 1 + 1 + 1 + 1 + 1 + 1 + 1 + 1 + 1 + 1 + 1 + 1 + 1 → LW b L xs ER ET 1382 n [some (vX b), some (vR 0 0), some (vR 38 0), some (vR 62 0), some (vI i), none, none, none] [] μ) ∧ (((xs i) % 32) = 0 + 1 + 1 + 1 + 1 + 1 + 1 + 1 + 1 + 1 + 1 + 1 + 1 + 1 + 1 + 1 + 1 + 1 + 1 + 1 → LW b L xs ER ET 1449 n [some (vX b), some (vR 0 0), some (vR 38 0), some (vR 62 0), some (vI i), none, none, none] [] μ) ∧ (((xs i) % 32) = 0 + 1 + 1 + 1 + 1 + 1 + 1 + 1 + 1 + 1 + 1 + 1 + 1 + 1 + 1 + 1 + 1 + 1 + 1 + 1 + 1 → LW b L xs ER ET 1528 n [some (vX b), some (vR 0 0), some (vR 38 0), some (vR 62 0), some (vI i), none, none, none] [] μ) ∧ (((xs i) % 32) = 0 + 1 + 1 + 1 + 1 + 1 + 1 + 1 + 1 + 1 + 1 + 1 + 1 + 1 + 1 + 1 + 1 + 1 + 1 + 1 + 1 + 1 → LW b L xs ER ET 1596 n [some (vX b), some (vR 0 0), some (vR 38 0), some (vR 62 0), some (vI i), none, none, none] [] μ) ∧ (((xs i) % 32) = 0 + 1 + 1 + 1 + 1 + 1 + 1 + 1 + 1 + 1 + 1 + 1 + 1 + 1 + 1 + 1 + 1 + 1 + 1 + 1 + 1 + 1 + 1 → LW b L xs ER ET 1664 n [some (vX b), some (vR 0 0), some (vR 38 0), some (vR 62 0), some (vI i), none, none, none] [] μ) ∧ (((xs i) % 32) = 0 + 1 + 1 + 1 + 1 + 1 + 1 + 1 + 1 + 1 + 1 + 1 + 1 + 1 + 1 + 1 + 1 + 1 + 1 + 1 + 1 + 1 + 1 + 1 → LW b L xs ER ET 1732 n [some (vX b), some (vR 0 0), some (vR 38 0), some (vR 62 0), some (vI i), none, none, none] [] μ) ∧ True) ∧ (((xs i) % 32) < 0 ∨ 0 + 24 ≤ ((xs i) % 32) → LW b L xs ER ET 1787 n [some (vX b), some (vR 0 0), some (vR 38 0), some (vR 62 0), some (vI i), none, none, none] [] μ) ∧ 0 + 24 = 23 + 1))
      refine ⟨rfl, ?_⟩
      refine ⟨by omega, ?_⟩
      refine ⟨⟨fun c3 => ?_, fun c3 => ?_, fun c3 => ?_, fun c3 => ?_, fun c3 => ?_, fun c3 => ?_, fun c3 => ?_, fun c3 => ?_, fun c3 => ?_, fun c3 => ?_, fun c3 => ?_, fun c3 => ?_, fun c3 => ?_, fun c3 => ?_, fun c3 => ?_, fun c3 => ?_, fun c3 => ?_, fun c3 => ?_, fun c3 => ?_, fun c3 => ?_, fun c3 => ?_, fun c3 => ?_, fun c3 => ?_, fun c3 => ?_, True.intro⟩, fun c3 => ?_, by decide⟩
      · exact law_0 hJ h0 (by omega) (by omega) hL.2 (by omega) hN
      · exact law_1 hJ h0 (by omega) (by omega) hL.2 (by omega) hN
      · exact law_2 hJ h0 (by omega) (by omega) hL.2 (by omega) hN
      · exact law_3 hJ h0 (by omega) (by omega) hL.2 (by omega) hN
      · exact law_4 hJ h0 (by omega) (by omega) hL.2 (by omega) hN
      · exact law_5 hJ h0 (by omega) (by omega) hL.2 (by omega) hN
      · exact law_6 hJ h0 (by omega) (by omega) hL.2 (by omega) hN
      · exact law_7 hJ h0 (by omega) (by omega) hL.2 (by omega) hN
      · exact law_8 hJ h0 (by omega) (by omega) hL.2 (by omega) hN
      · exact law_9 hJ h0 (by omega) (by omega) hL.2 (by omega) hN
      · exact law_10 hJ h0 (by omega) (by omega) hL.2 (by omega) hN
      · exact law_11 hJ h0 (by omega) (by omega) hL.2 (by omega) hN
      · exact law_12 hJ h0 (by omega) (by omega) hL.2 (by omega) hN
      · exact law_13 hJ h0 (by omega) (by omega) hL.2 (by omega) hN
      · exact law_14 hJ h0 (by omega) (by omega) hL.2 (by omega) hN
      · exact law_15 hJ h0 (by omega) (by omega) hL.2 (by omega) hN
      · exact law_16 hJ h0 (by omega) (by omega) hL.2 (by omega) hN
      · exact law_17 hJ h0 (by omega) (by omega) hL.2 (by omega) hN
      · exact law_18 hJ h0 (by omega) (by omega) hL.2 (by omega) hN
      · exact law_19 hJ h0 (by omega) (by omega) hL.2 (by omega) hN
      · exact law_20 hJ h0 (by omega) (by omega) hL.2 (by omega) hN
      · exact law_21 hJ h0 (by omega) (by omega) hL.2 (by omega) hN
      · exact law_22 hJ h0 (by omega) (by omega) hL.2 (by omega) hN
      · exact law_23 hJ h0 (by omega) (by omega) hL.2 (by omega) hN
      · exact hN μ n (J_le hJ (by omega)) (Nat.le_refl _) (by omega)
