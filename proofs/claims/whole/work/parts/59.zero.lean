/-! ===== the memory at the start -/
def μ0 : Mm := fun f r j => if (f = 1 ∨ f = 39) ∧ r = 0 ∧ 0 ≤ j ∧ j ≤ 3 then 100 else if (f = 2 ∨ f = 40) ∧ r = 0 ∧ 0 ≤ j ∧ j ≤ 3 then 50 else 0
theorem mz {f : Nat} {r j : Int} (h : f ≠ 1 ∧ f ≠ 39 ∧ f ≠ 2 ∧ f ≠ 40) : μ0 f r j = 0 := by unfold μ0; rw [if_neg (by omega), if_neg (by omega)]
theorem m0_r : MR fam0 μ0 := fun f r j => by
  have h : 0 ≤ μ0 f r j ∧ μ0 f r j ≤ 100 := by unfold μ0; split <;> (try split) <;> omega
  exact ⟨⟨by omega, by omega⟩, fun _ => ⟨by omega, by omega⟩⟩
theorem mtF0 : mtF μ0 = 0 := by unfold mtF; rw [mz (by decide)]; rfl
theorem al_z {f : Nat} {r j : Int} (h : f ≠ 39 ∧ f ≠ 40) : al μ0 f r j = 0 := by
  unfold al
  split <;> first | (exact absurd rfl h.1) | (exact absurd rfl h.2) | (simp [mz, mtF0]; done) | skip
  all_goals (simp [mz, mtF0] <;> omega)
theorem rp_z {f : Nat} {r j : Int} (h : f ≠ 39 ∧ f ≠ 40) : rp μ0 f r j = 0 := by
  show (if rpD f r j = true then (0 : Int) else μ0 f r j) = 0
  split
  · rfl
  · by_cases h1 : f = 1 ∨ f = 2
    · rename_i q
      exfalso
      apply q
      unfold rpD reF
      rcases h1 with rfl | rfl <;> simp
    · exact mz (by omega)
theorem al_rp0 : al μ0 = rp μ0 := by
  funext f r j
  by_cases h : f = 39 ∨ f = 40
  · rcases h with rfl | rfl
    · show μ0 1 r j = (if rpD 39 r j = true then (0 : Int) else μ0 39 r j)
      unfold rpD μ0
      by_cases hr : r = 0
      · subst hr; simp [reF]
      · simp [hr]
    · show μ0 2 r j = (if rpD 40 r j = true then (0 : Int) else μ0 40 r j)
      unfold rpD μ0
      by_cases hr : r = 0
      · subst hr; simp [reF]
      · simp [hr]
  · rw [al_z (by omega), rp_z (by omega)]
theorem sm_z {f : Nat → Int} (h : ∀ k, f k = 0) : ∀ n, sm f n = 0
  | 0 => rfl
  | n + 1 => by rw [sm, sm_z h n, h n]; rfl
theorem sm_1 {f : Nat → Int} (h : ∀ k, f k = 1) : ∀ n : Nat, sm f n = (n : Int)
  | 0 => rfl
  | n + 1 => by rw [sm, sm_1 h n, h n]; omega
theorem n0 : (al μ0 38 0 11).toNat = 0 := by rw [al_z (by decide)]; rfl
theorem ln0 (x s : Int) : lentF (al μ0) x s = 0 := by unfold lentF; rw [n0]; rfl
theorem to0 (x s : Int) : toF (al μ0) x s = 0 := by unfold toF; rw [n0]; rfl
theorem ft0 (c b s : Int) : ftF (al μ0) c b s = 0 := by unfold ftF; rw [n0]; rfl
theorem pa0 (c s : Int) : partF (al μ0) c s = 0 := by unfold partF; rw [al_z (by decide)]; rfl
theorem lo0 (s : Int) : longF (al μ0) s = 0 := sm_z (fun k => by unfold lgG; rw [al_z (by decide)]; rfl) 6
theorem lk0 : Lk (al μ0) := by
  unfold Lk
  rw [al_z (by decide)]
  exact ⟨by omega, fun k h => by omega⟩
theorem pk0 : Pk (al μ0) := fun i h1 h2 => by rw [al_z (by decide)]; omega
theorem i40 : I4 (al μ0) := fun c s h1 h2 h3 h4 => by rw [to0, al_z (by decide)]; rfl
theorem i50 : I5 (al μ0) := fun c s h1 h2 h3 h4 => by rw [ln0, al_z (by decide)]; decide
theorem i60 : I6 (al μ0) := fun c s h1 h2 h3 h4 => by rw [ln0, al_z (by decide), al_z (by decide)]; omega
theorem wk0 : Wk (al μ0) := ⟨lk0, pk0, i40, i50, i60⟩
theorem xk0 : Xk (al μ0) := by
  unfold Xk
  rw [al_z (f := 38) (j := 1) (by decide), al_z (f := 38) (j := 17) (by decide), al_z (f := 38) (j := 23) (by decide)]
  exact ⟨by omega, ⟨by omega, fun k h1 h2 => by omega⟩, ⟨by omega, fun k h1 h2 => by omega⟩, fun c h1 h2 => ⟨Or.inl (al_z (by decide)), Or.inl (al_z (by decide))⟩⟩
theorem cln0 : CLn μ0 := fun x s h1 h2 h3 => by rw [ln0, mz (by decide)]
theorem cnp0 (s : Int) (P : Int → Int → Bool) (h : P 0 0 = false) (n : Nat) : cnP μ0 s P n = 0 := sm_z (fun k => by rw [mz (by decide), mz (by decide), h]; rfl) n
theorem cnp1 (s : Int) (P : Int → Int → Bool) (h : P 0 0 = true) (n : Nat) : cnP μ0 s P n = (n : Int) := sm_1 (fun k => by rw [mz (by decide), mz (by decide), h]; rfl) n
theorem chd0 : CHd μ0 := fun s h1 h2 => by
  refine ⟨by rw [lo0, cnp1 s pO (by decide)]; rfl, fun c h3 h4 => ⟨?_, fun b h5 h6 => ?_⟩⟩
  · rw [pa0]
    exact cnp0 s _ (by unfold pH; simp) _
  · rw [ft0]
    exact cnp0 s _ (by unfold pH; simp; omega) _
theorem fz0 : FZ (al μ0) := fun c s h1 h2 h3 h4 h5 => al_z (by decide)
theorem cmt0 : CMt (μ0 0 0 14) 40 μ0 := fun i h => by
  rw [mz (by decide), if_neg]
  rw [mz (f := 27) (by decide)]
  omega
theorem cv0 : CV μ0 := ⟨⟨⟨lk0, pk0, i50, i60⟩, cln0, chd0, fz0⟩, wk0, xk0, cmt0⟩
theorem J_0 : J 0 μ0 := ⟨cv0, al_rp0, fun c h1 h2 => by rw [al_z (by decide)]; omega, fun s h1 h2 => by
  show 1 ≤ μ0 1 0 s ∧ μ0 1 0 s ≤ 100000
  unfold μ0
  rw [if_pos (by omega)]
  omega⟩
