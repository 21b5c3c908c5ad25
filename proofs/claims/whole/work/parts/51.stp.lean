/-! ===== a call of the class and the same of the reference: both books agree again -/
def J (B : Int) (μ : Mm) : Prop := CV μ ∧ al μ = rp μ ∧ Bp B (al μ) ∧ Pr (al μ)
def Gd (B : Int) (m : Mm) : Prop := Wk m ∧ Xk m ∧ Bp B m ∧ Pr m
theorem J_gd {B : Int} {μ : Mm} (h : J B μ) : Gd B (al μ) := ⟨h.1.2.1, h.1.2.2.1, h.2.2.1, h.2.2.2⟩
theorem CMt_eq {M M' : Mm} (h : CMt (M 0 0 14) 40 M) (e : ∀ (g : Nat) (r j : Int), g < 38 → M' g r j = M g r j) : CMt (M' 0 0 14) 40 M' := by
  rw [e 0 0 14 (by decide)]
  exact CMt_fr h (fun g r j q => e g r j (by omega))
theorem J_step {B' : Int} {μ μ1 μ2 X : Mm} (h1 : PB2 μ μ1) (ha : al μ1 = X) (hX : Gd B' X) (hlo : ∀ (g : Nat) (r j : Int), g < 38 → μ2 g r j = μ1 g r j) (hr : rp μ2 = X) : J B' μ2 := by
  have e : al μ2 = X := (al_cg (fun g r j q1 q2 => hlo g r j (by omega))).trans ha
  refine ⟨⟨KI_fr h1.1 (fun g r j q => hlo g r j (by omega)), by rw [e]; exact hX.1, by rw [e]; exact hX.2.1, CMt_eq h1.2.1 hlo⟩, by rw [e, hr], by rw [e]; exact hX.2.2.1, by rw [e]; exact hX.2.2.2⟩
theorem Gd_le {B B' : Int} {m : Mm} (h : Gd B m) (hb : B ≤ B') : Gd B' m := ⟨h.1, h.2.1, Bp_le h.2.2.1 hb, h.2.2.2⟩
theorem PB2_rf {B : Int} {μ : Mm} (h : J B μ) : PB2 μ μ := ⟨h.1.1, h.1.2.2.2, fun _ _ _ _ _ => rfl⟩
theorem J_err {B B' : Int} {μ : Mm} (h : J B μ) (hb : B ≤ B') (k : Int) : J B' (st μ 38 0 0 k) := J_step (PB2_rf h) rfl (Gd_le (J_gd h) hb) (fun g r j q => st_o (by omega)) ((rp_out μ k).trans h.2.1.symm)
theorem J_rp {B : Int} {μ μ1 : Mm} (h : J B μ) (h1 : PB2 μ μ1) : rp μ1 = al μ := (rp_cg h1.2.2).trans h.2.1.symm
theorem rq {μ1 m : Mm} (hp : rp μ1 = m) {g : Nat} {j : Int} (h : reF g = true) : μ1 g 0 j = m g 0 j := by rw [← hp]; exact (rp_g h).symm
theorem rqn {μ1 m : Mm} (hp : rp μ1 = m) {j : Int} (h : reN j = true) : μ1 38 0 j = m 38 0 j := by rw [← hp]; exact (rp_n h).symm
theorem J_pre {B : Int} {μ μ1 : Mm} (h : J B μ) (h1 : PB2 μ μ1) : Wk μ1 ∧ Xk μ1 := by
  have hp := J_rp h h1
  exact ⟨Wk_cg h.1.2.1 (rqn hp (by decide)) (fun g j q => rq hp (by unfold reF; simp; omega)), Xk_cg h.1.2.2.1 (rqn hp (by decide)) (rqn hp (by decide)) (by rw [rqn hp (by decide)]; have := h.1.2.2.1.1; omega) (fun g j q => rq hp (by unfold reF; simp; omega))⟩
/-- a function of the reference: what it does not look at it leaves -/
def Nat1 (F : Mm → Mm) : Prop := ∀ D : Nat → Int → Int → Bool, RlD D → ∀ a b, F (ovr D a b) = ovr D a (F b)
theorem J_ok {B B' : Int} {μ μ1 : Mm} {F : Mm → Mm} (hF : Nat1 F) (h : J B μ) (h1 : PB2 μ μ1) (ha : al μ1 = F (al μ)) (hX : Gd B' (F (al μ))) : J B' (F (st μ1 38 0 0 0)) ∧ F (st μ1 38 0 0 0) 38 0 0 = 0 ∧ F (st μ1 38 0 0 0) 62 0 0 = μ1 62 0 0 ∧ rp (F (st μ1 38 0 0 0)) = F (al μ) := by
  have hr : rp (F (st μ1 38 0 0 0)) = F (al μ) := by
    have e := hF rpD rpD_ok (fun _ _ _ => 0) (st μ1 38 0 0 0)
    show ovr rpD (fun _ _ _ => 0) (F (st μ1 38 0 0 0)) = _
    rw [← e]
    show F (rp (st μ1 38 0 0 0)) = _
    rw [rp_out, J_rp h h1]
  have hl : ∀ {g : Nat} {r j : Int}, (g < 38 ∨ g = 62 ∨ (g = 38 ∧ j = 0)) → F (st μ1 38 0 0 0) g r j = st μ1 38 0 0 0 g r j := fun q => lo_of (F := F) (hF loD loD_ok) (st μ1 38 0 0 0) q
  exact ⟨J_step h1 ha hX (fun g r j q => (hl (Or.inl q)).trans (st_o (by omega))) hr, (hl (Or.inr (Or.inr ⟨rfl, rfl⟩))).trans st_s, (hl (Or.inr (Or.inl rfl))).trans (st_o (by decide)), hr⟩
/-- a value of the reference's -/
theorem rv_at {α : Type} {f : Mm → α} (hf : ∀ D : Nat → Int → Int → Bool, RlD D → ∀ a b, f (ovr D a b) = f b) {μ1 m : Mm} (hp : rp μ1 = m) : f μ1 = f m := by rw [← hp]; exact (hf rpD rpD_ok _ _).symm
theorem rv_at0 {α : Type} {f : Mm → α} (hf : ∀ D : Nat → Int → Int → Bool, RlD D → ∀ a b, f (ovr D a b) = f b) {μ1 m : Mm} (hp : rp μ1 = m) : f (st μ1 38 0 0 0) = f m := rv_at hf ((rp_out μ1 0).trans hp)
theorem Xk_st {m : Mm} (h : Xk m) {f : Nat} {i v : Int} (hf : f ≠ 38 ∧ f ≠ 43 ∧ f ≠ 44 ∧ (f < 53 ∨ 61 < f)) : Xk (st m f 0 i v) := Xk_cg h (st_o (Ne.symm hf.1)) (st_o (Ne.symm hf.1)) (by rw [st_o (Ne.symm hf.1)]; have := h.1; omega) (fun g j q => st_o (by omega))
theorem Gd_st {B : Int} {m : Mm} (h : Gd B m) {f : Nat} {i v : Int} (hf : f = 40 ∨ f = 45 ∨ f = 46 ∨ f = 47) (hW : Wk (st m f 0 i v)) : Gd B (st m f 0 i v) := ⟨hW, Xk_st h.2.1 (by omega), Bp_cg h.2.2.1 (fun j => st_o (by omega)), Pr_cg h.2.2.2 (fun j => st_o (by omega))⟩
theorem Wk_off {m : Mm} (h : Wk m) {l s n f : Int} (hl : 0 ≤ l ∧ l ≤ 3) (hs : 0 ≤ s ∧ s ≤ 3) (hn : 0 ≤ n ∧ n ≤ 500) (hf : 0 ≤ f ∧ f ≤ 10000) (hm : m 45 0 (4 * l + s) + n ≤ 2000) : Wk (st (st m 45 0 (4 * l + s) (m 45 0 (4 * l + s) + n)) 46 0 (4 * l + s) f) := by
  obtain ⟨hL, hP, h4, h5, h6⟩ := h
  have q : ∀ (g : Nat) (t j : Int), g ≠ 45 → g ≠ 46 → st (st m 45 0 (4 * l + s) (m 45 0 (4 * l + s) + n)) 46 0 (4 * l + s) f g t j = m g t j := fun g t j q1 q2 => by rw [st_o q2, st_o q1]
  have p45 : ∀ j, st (st m 45 0 (4 * l + s) (m 45 0 (4 * l + s) + n)) 46 0 (4 * l + s) f 45 0 j = if j = 4 * l + s then m 45 0 j + n else m 45 0 j := fun j => by
    rw [st_o (show (45 : Nat) ≠ 46 by decide)]
    by_cases z : j = 4 * l + s
    · rw [if_pos z, z]; exact st_s
    · rw [if_neg z]; exact st_i z
  have p46 : ∀ j, st (st m 45 0 (4 * l + s) (m 45 0 (4 * l + s) + n)) 46 0 (4 * l + s) f 46 0 j = if j = 4 * l + s then f else m 46 0 j := fun j => by
    by_cases z : j = 4 * l + s
    · rw [if_pos z, z]; exact st_s
    · rw [if_neg z, st_i z]; exact st_o (by decide)
  generalize st (st m 45 0 (4 * l + s) (m 45 0 (4 * l + s) + n)) 46 0 (4 * l + s) f = Q at *
  have q1 := q 38 0 11 (by decide) (by decide)
  have ql := lentF_cg q1 (fun j => q 48 0 j (by decide) (by decide)) (fun j => q 49 0 j (by decide) (by decide)) (fun j => q 51 0 j (by decide) (by decide))
  have qt := toF_cg q1 (fun j => q 48 0 j (by decide) (by decide)) (fun j => q 50 0 j (by decide) (by decide)) (fun j => q 51 0 j (by decide) (by decide))
  refine ⟨Lk_cg hL q1 (fun j => q 48 0 j (by decide) (by decide)) (fun j => q 49 0 j (by decide) (by decide)) (fun j => q 50 0 j (by decide) (by decide)) (fun j => q 51 0 j (by decide) (by decide)) (fun j => q 52 0 j (by decide) (by decide)), fun i i0 i1 => by rw [q 42 0 i (by decide) (by decide)]; exact hP i i0 i1, fun c t c0 c1 t0 t1 => by rw [qt, q 42 0 _ (by decide) (by decide)]; exact h4 c t c0 c1 t0 t1, fun c t c0 c1 t0 t1 => by rw [ql, q 42 0 _ (by decide) (by decide)]; exact h5 c t c0 c1 t0 t1, fun a t a0 a1 t0 t1 => ?_⟩
  have h := h6 a t a0 a1 t0 t1
  rw [ql, p45, p46]
  have hr := lentF_rng hL (10 + a) t
  split
  · rename_i z
    rw [← z] at hm
    omega
  · exact h
theorem liqL_u (c : Int) {g : Nat} {t j : Int} (h : g ≠ 48 ∧ g ≠ 49 ∧ g ≠ 50 ∧ g ≠ 51 ∧ g ≠ 52 ∧ g ≠ 45) (h1 : g ≠ 42 ∧ g ≠ 41) (h2 : ¬ (g = 38 ∧ (j = 11 ∨ j = 28))) : ∀ (f : Nat) (m : Mm) (n : Int), (liqL c f m n).1 g t j = m g t j
  | 0, _, _ => rfl
  | f + 1, m, n => by
    rw [liqL]
    split
    · rw [liqL_u c h h1 h2 f]; exact closeF_u _ _ _ h h1 h2
    · rfl
theorem itC_u (c : Int) (m : Mm) {g : Nat} {t j : Int} (h : g ≠ 48 ∧ g ≠ 49 ∧ g ≠ 50 ∧ g ≠ 51 ∧ g ≠ 52 ∧ g ≠ 45) (h1 : g ≠ 42 ∧ g ≠ 41) (h2 : ¬ (g = 38 ∧ (j = 11 ∨ j = 28))) : ∀ k : Nat, itC c k m g t j = m g t j
  | 0 => rfl
  | k + 1 => by rw [itC, closeF_u _ _ _ h h1 h2]; exact itC_u c m h h1 h2 k
theorem shortF_u (m : Mm) {k n : Int} (hW : Wk m) (hc : 0 ≤ m 53 0 k ∧ m 53 0 k ≤ 5) (hs : 0 ≤ m 54 0 k ∧ m 54 0 k ≤ 3) (hn : 1 ≤ n ∧ n ≤ 500) {g : Nat} {t j : Int} (h : (g ≠ 48 ∧ g ≠ 49 ∧ g ≠ 50 ∧ g ≠ 51 ∧ g ≠ 52 ∧ g ≠ 45) ∧ g ≠ 42 ∧ g ≠ 41 ∧ g ≠ 57 ∧ ¬ (g = 38 ∧ j = 11)) : shortF m k n g t j = m g t j := by
  unfold shortF
  rw [shortF_57]
  dsimp only
  rw [st_o h.2.2.1, st_o h.2.1, st_o h.2.2.2.1]
  exact borL_u h.1 h.2.2.2.2 _ _ _ _ _ _
/-- sums that a stock is asked for -/
theorem so_12 {m : Mm} (hV : VB m) {s : Int} (hs : 0 ≤ s ∧ s ≤ 3) : soM m s 1 4 = longF m s ∧ soM m s 2 4 = shtF m s ∧ soM m s 3 4 = longF m s - lbF m s ∧ soM m s 4 4 = lbF m s ∧ soM m s 5 4 = llF m s := by
  have hp : ∀ k : Nat, k < 6 → (0 < m 42 0 (4 * (k : Int) + s) → partF m k s = m 42 0 (4 * (k : Int) + s) - lentF m k s) ∧ (m 42 0 (4 * (k : Int) + s) ≤ 0 → partF m k s = 0 ∧ lentF m k s = 0) := fun k hk => (part_vb hV (c := (k : Int)) (by omega) hs).2
  have e1 : ∀ k : Int, partF (st m 38 0 0 0) k s = partF m k s := fun k => by
    unfold partF
    rw [st_o (by decide), lentF_cg (M := m) (M' := st m 38 0 0 0) (st_i (by decide)) (fun _ => st_o (by decide)) (fun _ => st_o (by decide)) (fun _ => st_o (by decide))]
  have e2 : ∀ k : Int, lentF (st m 38 0 0 0) k s = lentF m k s := fun k => lentF_cg (M := m) (M' := st m 38 0 0 0) (st_i (by decide)) (fun _ => st_o (by decide)) (fun _ => st_o (by decide)) (fun _ => st_o (by decide)) k s
  have hA : ∀ (w : Int) (F : Nat → Int), (∀ k : Nat, k < 6 → (((if w = 1 ∧ 0 < m 42 0 (4 * (k : Int) + s) then m 42 0 (4 * (k : Int) + s) else 0) - (if w = 2 ∧ m 42 0 (4 * (k : Int) + s) < 0 then m 42 0 (4 * (k : Int) + s) else 0)) + (if w = 3 then partF m k s else 0)) + (if w = 4 then lentF m k s else 0) = F k) → ∀ k : Nat, k ≤ 6 → soL m s w k = sm F k := fun w F hF k => by
    induction k with
    | zero => intro _; rfl
    | succ k ih =>
      intro hk
      have h1 := hF k (by omega)
      rw [soL, ih (by omega), e1, e2]
      show _ = sm F k + F k
      omega
  have hB : ∀ (w : Int) (F : Nat → Int), (∀ k : Nat, k < 4 → (if w = 5 then lentF m (10 + (k : Int)) s else 0) = F k) → ∀ k : Nat, k ≤ 4 → soM m s w k = soL m s w 6 + sm F k := fun w F hF k => by
    induction k with
    | zero => intro _; show soL m s w 6 = soL m s w 6 + 0; omega
    | succ k ih =>
      intro hk
      have h1 := hF k (by omega)
      rw [soM, ih (by omega), e2]
      show _ = _ + (sm F k + F k)
      omega
  have z4 : sm (fun _ => (0 : Int)) 4 = 0 := rfl
  have z6 : sm (fun _ => (0 : Int)) 6 = 0 := rfl
  refine ⟨?_, ?_, ?_, ?_, ?_⟩
  · rw [hB 1 (fun _ => 0) (fun k _ => by rw [if_neg (by decide)]) 4 (by decide), hA 1 (lgG m s) (fun k hk => by unfold lgG; simp only [show ¬ (1 : Int) = 2 by decide, show ¬ (1 : Int) = 3 by decide, show ¬ (1 : Int) = 4 by decide, false_and, true_and, if_false]; omega) 6 (by decide), z4]
    show _ + 0 = sm (lgG m s) 6
    omega
  · rw [hB 2 (fun _ => 0) (fun k _ => by rw [if_neg (by decide)]) 4 (by decide), hA 2 (shG m s) (fun k hk => by
      unfold shG
      simp only [show ¬ (2 : Int) = 1 by decide, show ¬ (2 : Int) = 3 by decide, show ¬ (2 : Int) = 4 by decide, false_and, true_and, if_false]
      split <;> omega) 6 (by decide), z4]
    show _ + 0 = sm (shG m s) 6
    omega
  · rw [hB 3 (fun _ => 0) (fun k _ => by rw [if_neg (by decide)]) 4 (by decide), hA 3 (fun k => lgG m s k - lentF m k s) (fun k hk => by
      have := hp k hk
      unfold lgG
      simp only [show ¬ (3 : Int) = 1 by decide, show ¬ (3 : Int) = 2 by decide, show ¬ (3 : Int) = 4 by decide, false_and, true_and, if_false, if_true]
      split <;> omega) 6 (by decide), z4]
    have : ∀ k : Nat, sm (fun k => lgG m s k - lentF m k s) k = sm (lgG m s) k - sm (fun c => lentF m (c : Int) s) k := fun k => by
      induction k with
      | zero => rfl
      | succ k ih => show sm (fun k => lgG m s k - lentF m k s) k + (lgG m s k - lentF m k s) = (sm (lgG m s) k + lgG m s k) - (sm (fun c => lentF m (c : Int) s) k + lentF m k s); rw [ih]; omega
    rw [this]
    show _ + 0 = sm (lgG m s) 6 - sm (fun c => lentF m (c : Int) s) 6
    omega
  · rw [hB 4 (fun _ => 0) (fun k _ => by rw [if_neg (by decide)]) 4 (by decide), hA 4 (fun c => lentF m (c : Int) s) (fun k hk => by
      simp only [show ¬ (4 : Int) = 1 by decide, show ¬ (4 : Int) = 2 by decide, show ¬ (4 : Int) = 3 by decide, false_and, true_and, if_false, if_true]
      omega) 6 (by decide), z4]
    show _ + 0 = sm (fun c => lentF m (c : Int) s) 6
    omega
  · rw [hB 5 (fun l => lentF m (10 + (l : Int)) s) (fun k _ => by rw [if_pos rfl]) 4 (by decide), hA 5 (fun _ => 0) (fun k hk => by
      simp only [show ¬ (5 : Int) = 1 by decide, show ¬ (5 : Int) = 2 by decide, show ¬ (5 : Int) = 3 by decide, show ¬ (5 : Int) = 4 by decide, false_and, if_false]
      rfl) 6 (by decide), z6]
    show 0 + sm (fun l => lentF m (10 + (l : Int)) s) 4 = sm (fun l => lentF m (10 + (l : Int)) s) 4
    omega
theorem soM_rv (D : Nat → Int → Int → Bool) (hD : RlD D) (s w : Int) (a b : Mm) : ∀ k : Nat, soM (ovr D a b) s w k = soM b s w k := by
  have e1 : ∀ m : Mm, ∀ k : Int, partF (st m 38 0 0 0) k s = partF m k s := fun m k => by
    unfold partF
    rw [st_o (by decide), lentF_cg (M := m) (M' := st m 38 0 0 0) (st_i (by decide)) (fun _ => st_o (by decide)) (fun _ => st_o (by decide)) (fun _ => st_o (by decide))]
  have e2 : ∀ m : Mm, ∀ k : Int, lentF (st m 38 0 0 0) k s = lentF m k s := fun m k => lentF_cg (M := m) (M' := st m 38 0 0 0) (st_i (by decide)) (fun _ => st_o (by decide)) (fun _ => st_o (by decide)) (fun _ => st_o (by decide)) k s
  have hl : ∀ k : Nat, soL (ovr D a b) s w k = soL b s w k := fun k => by
    induction k with
    | zero => rfl
    | succ k ih => rw [soL, soL, ih, e1, e1, e2, e2, ov_partF hD.co, ov_lentF hD.co, rv_g hD (show reF 42 = true by decide)]
  intro k
  induction k with
  | zero => exact hl 6
  | succ k ih => rw [soM, soM, ih, e2, e2, ov_lentF hD.co]
theorem opF_rv (D : Nat → Int → Int → Bool) (hD : RlD D) (a b : Mm) : opF (ovr D a b) (ovr D a b 38 0 11).toNat = opF b (b 38 0 11).toNat := by
  rw [rv_n hD (show reN 11 = true by decide)]
  exact sm_cg (fun k _ => by unfold opG; rw [rv_g hD (show reF 51 = true by decide)])
