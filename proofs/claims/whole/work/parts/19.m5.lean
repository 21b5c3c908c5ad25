/-! ===== giving back ===== -/
theorem sm_upd {g g' : Nat → Int} {k0 : Nat} {d : Int} : ∀ {n : Nat}, k0 < n → g' k0 = g k0 + d → (∀ k, k < n → k ≠ k0 → g' k = g k) → sm g' n = sm g n + d
  | 0, h, _, _ => absurd h (Nat.not_lt_zero _)
  | n + 1, h, h1, h2 => by
    show sm g' n + g' n = sm g n + g n + d
    by_cases c : n = k0
    · subst c
      have e : ∀ {m : Nat}, (∀ k, k < m → g' k = g k) → sm g' m = sm g m := by
        intro m
        induction m with
        | zero => exact fun _ => rfl
        | succ m ih => exact fun q => by show sm g' m + g' m = sm g m + g m; rw [ih (fun k hk => q k (Nat.lt_succ_of_lt hk)), q m (Nat.lt_succ_self m)]
      rw [e (fun k hk => h2 k (Nat.lt_succ_of_lt hk) (Nat.ne_of_lt hk)), h1]
      omega
    · rw [sm_upd (n := n) (by omega) h1 (fun k hk hn => h2 k (Nat.lt_succ_of_lt hk) hn), h2 n (Nat.lt_succ_self n) c]
      omega
theorem sm_cg {g g' : Nat → Int} : ∀ {n : Nat}, (∀ k, k < n → g' k = g k) → sm g' n = sm g n
  | 0, _ => rfl
  | n + 1, h => by
    show sm g' n + g' n = sm g n + g n
    rw [sm_cg (fun k hk => h k (Nat.lt_succ_of_lt hk)), h n (Nat.lt_succ_self n)]
theorem sm_pos {g : Nat → Int} : ∀ {n : Nat}, 0 < sm g n → ∃ k, k < n ∧ 0 < g k
  | 0, h => absurd h (by simp [sm])
  | n + 1, h => by
    by_cases c : 0 < g n
    · exact ⟨n, Nat.lt_succ_self n, c⟩
    · have h' : 0 < sm g n + g n := h
      obtain ⟨k, h1, h2⟩ := sm_pos (n := n) (g := g) (by omega)
      exact ⟨k, Nat.lt_succ_of_lt h1, h2⟩
theorem Lk_at {μ : Mm} (h : Lk μ) {x : Int} (h0 : 0 ≤ x) (h1 : x < μ 38 0 11) : (0 ≤ μ 48 0 x ∧ μ 48 0 x ≤ 3) ∧ ((0 ≤ μ 49 0 x ∧ μ 49 0 x ≤ 5) ∨ (10 ≤ μ 49 0 x ∧ μ 49 0 x ≤ 13)) ∧ (0 ≤ μ 50 0 x ∧ μ 50 0 x ≤ 5) ∧ (0 ≤ μ 51 0 x ∧ μ 51 0 x ≤ 500) ∧ (0 ≤ μ 52 0 x ∧ μ 52 0 x ≤ 10000) := by
  have := h.2 x.toNat
  rw [show ((x.toNat : Nat) : Int) = x by omega] at this
  exact this h1
/-- what is lent to a client -/
def toG (μ : Mm) (c s : Int) (k : Nat) : Int := if μ 50 0 k = c ∧ μ 48 0 k = s then μ 51 0 k else 0
def toF (μ : Mm) (c s : Int) : Int := sm (toG μ c s) (μ 38 0 11).toNat
def Gb (B : Int) (μ : Mm) : Prop := ∀ i : Int, 0 ≤ i → i ≤ 15 → (0 ≤ μ 45 0 i ∧ μ 45 0 i ≤ B) ∧ 0 ≤ μ 46 0 i ∧ μ 46 0 i ≤ 10000
theorem bst_rng (μ : Mm) (c s : Int) : ∀ n : Nat, -1 ≤ bstF μ c s n ∧ bstF μ c s n < (n : Int) ∧ (bstF μ c s n ≠ -1 → μ 50 0 (bstF μ c s n) = c ∧ μ 48 0 (bstF μ c s n) = s ∧ 0 < μ 51 0 (bstF μ c s n))
  | 0 => ⟨by simp [bstF], by simp [bstF], fun h => absurd rfl h⟩
  | n + 1 => by
    have ih := bst_rng μ c s n
    unfold bstF
    split
    · rename_i q
      exact ⟨by omega, by omega, fun _ => q.1⟩
    · exact ⟨ih.1, by omega, ih.2.2⟩
theorem bst_no (μ : Mm) (c s : Int) : ∀ n : Nat, bstF μ c s n = -1 → ∀ k : Nat, k < n → ¬ (μ 50 0 k = c ∧ μ 48 0 k = s ∧ 0 < μ 51 0 k)
  | 0, _, k, hk => by omega
  | n + 1, h, k, hk => by
    have ih := bst_no μ c s n
    have hr := bst_rng μ c s n
    unfold bstF at h
    split at h
    · omega
    · rename_i q
      rcases Nat.lt_or_ge k n with hk2 | hk2
      · exact ih h k hk2
      · have e : k = n := by omega
        subst e
        exact fun z => q ⟨z, Or.inl h⟩
theorem bst_ne {μ : Mm} (c s : Int) (h : 0 < toF μ c s) : bstF μ c s (μ 38 0 11).toNat ≠ -1 := by
  intro q
  obtain ⟨k, h1, h2⟩ := sm_pos h
  have := bst_no μ c s _ q k h1
  unfold toG at h2
  split at h2
  · rename_i z
    exact this ⟨z.1, z.2, h2⟩
  · omega
theorem backF_o (M : Mm) (k own s : Int) {g : Nat} {t j : Int} (h : g ≠ 51 ∧ g ≠ 45) : backF M k own s g t j = M g t j := by
  unfold backF
  split <;> simp [st, h]
theorem backF_4 (M : Mm) (k own s : Int) (j : Int) : backF M k own s 51 0 j = if j = k then M 51 0 k - own else M 51 0 j := by
  unfold backF
  split <;> simp [st]
theorem backF_6 (M : Mm) (k own s : Int) (j : Int) : backF M k own s 45 0 j = if 10 ≤ M 49 0 k ∧ j = 4 * (M 49 0 k - 10) + s then M 45 0 j + own else M 45 0 j := by
  unfold backF
  by_cases c : M 49 0 k < 10
  · rw [if_neg (fun q : 10 ≤ M 49 0 k ∧ j = 4 * (M 49 0 k - 10) + s => absurd q.1 (by omega))]
    simp [st, c]
  · by_cases d : j = 4 * (M 49 0 k - 10) + s
    · rw [if_pos (show 10 ≤ M 49 0 k ∧ j = 4 * (M 49 0 k - 10) + s from ⟨by omega, d⟩), d]
      simp [st, c]
    · rw [if_neg (fun q : 10 ≤ M 49 0 k ∧ j = 4 * (M 49 0 k - 10) + s => d q.2)]
      simp [st, c, d]
theorem backF_ok {M : Mm} {B : Int} (hL : Lk M) (hG : Gb B M) {k own : Int} (s : Int) (h0 : 0 ≤ k) (h1 : k < M 38 0 11) (ho : 0 ≤ own ∧ own ≤ M 51 0 k) : Lk (backF M k own s) ∧ Gb (B + own) (backF M k own s) := by
  have hl := Lk_at hL h0 h1
  refine ⟨⟨by rw [backF_o M k own s (by decide)]; exact hL.1, fun i hi => ?_⟩, fun i i0 i1 => ?_⟩
  · rw [backF_o M k own s (by decide)] at hi
    rw [backF_4, backF_o M k own s (by decide), backF_o M k own s (by decide), backF_o M k own s (by decide), backF_o M k own s (by decide)]
    have := hL.2 i hi
    refine ⟨this.1, this.2.1, this.2.2.1, ?_, this.2.2.2.2⟩
    split <;> omega
  · rw [backF_6, backF_o M k own s (by decide)]
    have := hG i i0 i1
    split <;> omega
theorem backF_to {M : Mm} (hL : Lk M) {k own : Int} (s : Int) (h0 : 0 ≤ k) (h1 : k < M 38 0 11) (c t : Int) : toF (backF M k own s) c t = toF M c t + (if M 50 0 k = c ∧ M 48 0 k = t then -own else 0) := by
  unfold toF
  rw [backF_o M k own s (by decide)]
  refine sm_upd (k0 := k.toNat) (by omega) ?_ (fun i hi hne => ?_)
  · unfold toG
    rw [backF_o M k own s (by decide), backF_o M k own s (by decide), backF_4, show ((k.toNat : Nat) : Int) = k by omega, if_pos rfl]
    split <;> omega
  · unfold toG
    rw [backF_o M k own s (by decide), backF_o M k own s (by decide), backF_4, if_neg (show ¬ (i : Int) = k by omega)]
theorem gbL_0 {c s : Int} {f : Nat} {M : Mm} {rest : Int} (h : rest ≤ 0) : gbL c s f M rest = M := by
  cases f with
  | zero => rfl
  | succ f => rw [gbL, if_neg (by omega)]

/-! ### PrimeborrowModel.giveBack -/
def cl_X5_giveBack : Cl := (4, 0, fun σ as μ => as = [vR 38 0, vI (iaI as 1), vI (iaI as 2), vI (iaI as 3)] ∧ (Lk μ ∧ Gk μ ∧ (0 ≤ (iaI as 3) ∧ (iaI as 3) ≤ 500) ∧ (0 ≤ (iaI as 2) ∧ (iaI as 2) ≤ 3) ∧ (iaI as 3) ≤ toF μ (iaI as 1) (iaI as 2)), fun σ as μ ov μ' => ov = none ∧ μ' = giveF μ (iaI as 1) (iaI as 2) (iaI as 3), fun σ as μ k => False)
def cd_X5_giveBack : Cd := mkcd k_X5_giveBack co_X5 fl_X5 [] [] [] [] 8 0 0
set_option maxHeartbeats 4000000 in
set_option maxRecDepth 20000 in
theorem run_X5_giveBack {ER : Option AV → Mm → Prop} {ET : Nat → Mm → Prop} (σ μ : Mm) (c s many : Int) (hM : MR fam0 μ) (h_c : in32 c) (h_s : in32 s) (h_many : in32 many) (hP : Lk μ ∧ Gk μ ∧ (0 ≤ many ∧ many ≤ 500) ∧ (0 ≤ s ∧ s ≤ 3) ∧ many ≤ toF μ c s) (hER : ∀ ov μ', (ov = none ∧ μ' = giveF μ c s many) → ER ov μ') : Run fam0 none cd_X5_giveBack ER ET 0 0 [some (vR 38 0), some (vI c), some (vI s), some (vI many), none, none, none, none] [] μ := by
  obtain ⟨hLk, hGk, hmany, hs, hto⟩ := hP
  refine run_k 2 ?_
  show Run fam0 none cd_X5_giveBack ER ET 3 0 [some (vR 38 0), some (vI c), some (vI s), some (vI many), some (vI many), none, none, none] [] μ
  have lp3 : ∀ (fz : Nat) (f : Nat) (M : Mm) (rest : Int), rest.toNat < fz → (gbL c s f M rest = giveF μ c s many ∧ (0 ≤ rest ∧ rest ≤ many) ∧ rest ≤ (f : Int) ∧ rest ≤ toF M c s ∧ Lk M ∧ Gb (1000000 + many - rest) M) → Run fam0 none cd_X5_giveBack ER ET 3 0 [some (vR 38 0), some (vI c), some (vI s), some (vI many), some (vI rest), none, none, none] [] M := by
    intro fz
    induction fz with
    | zero => intro f M rest hf; omega
    | succ fz ih3 =>
      intro f M rest hf hI
      obtain ⟨hgb, hrest, hfu, hto, hLk, hGb⟩ := hI
      refine run_k 2 ?_
      show (rest ≤ 0 → Run fam0 none cd_X5_giveBack ER ET 189 0 [some (vR 38 0), some (vI c), some (vI s), some (vI many), some (vI rest), none, none, none] [] M) ∧ (0 < rest → Run fam0 none cd_X5_giveBack ER ET 8 0 [some (vR 38 0), some (vI c), some (vI s), some (vI many), some (vI rest), none, none, none] [] M)
      refine ⟨fun c2 => ?_, fun c2 => ?_⟩
      · refine run_k 1 ?_
        show ER none M
        exact hER _ _ ⟨rfl, by rw [← hgb, gbL_0 (by omega)]⟩
      · obtain ⟨f', hf'⟩ : ∃ f', f = f' + 1 := ⟨f - 1, by omega⟩
        subst hf'
        have hl0 := hLk.1
        refine run_k 4 ?_
        show Run fam0 none cd_X5_giveBack ER ET 14 0 [some (vR 38 0), some (vI c), some (vI s), some (vI many), some (vI rest), some (vI (-1)), some (vI 0), none] [] M
        have lp14 : ∀ (fz : Nat) (k : Nat) (x : Int), (M 38 0 11 - (k : Int)).toNat < fz → ((k : Int) ≤ M 38 0 11 ∧ x = bstF M c s k) → Run fam0 none cd_X5_giveBack ER ET 14 0 [some (vR 38 0), some (vI c), some (vI s), some (vI many), some (vI rest), some (vI x), some (vI (k : Int)), none] [] M := by
          intro fz
          induction fz with
          | zero => intro k x hf; omega
          | succ fz ih14 =>
            intro k x hf hI
            obtain ⟨hk1, hx2⟩ := hI
            have hx3 := bst_rng M c s k
            rw [← hx2] at hx3
            refine run_k 4 ?_
            show ((M 38 0 11) ≤ (k : Int) → Run fam0 none cd_X5_giveBack ER ET 105 0 [some (vR 38 0), some (vI c), some (vI s), some (vI many), some (vI rest), some (vI x), some (vI (k : Int)), none] [] M) ∧ ((k : Int) < (M 38 0 11) → Run fam0 none cd_X5_giveBack ER ET 23 0 [some (vR 38 0), some (vI c), some (vI s), some (vI many), some (vI rest), some (vI x), some (vI (k : Int)), none] [] M)
            refine ⟨fun c5 => ?_, fun c5 => ?_⟩
            · have hbx : x = bstF M c s (M 38 0 11).toNat := by rw [hx2, show k = (M 38 0 11).toNat by omega]
              have hbn := bst_ne c s (μ := M) (by omega)
              have hbr := bst_rng M c s (M 38 0 11).toNat
              have hbc := hbr.2.2 hbn
              have hgb2 := hgb
              rw [gbL, if_pos (by omega)] at hgb2
              rw [← hbx] at hbn hbr hbc hgb2
              have hx0 : 0 ≤ x := by omega
              have hx1 : x < M 38 0 11 := by omega
              have hlk := Lk_at hLk hx0 hx1
              have hgp := hGb (4 * (M 49 0 x - 10) + s)
              have hmi := minI_le (M 51 0 x) rest
              refine run_k 6 ?_
              show (0 ≤ x ∧ x < 1000) ∧ (((M 51 0 x) ≤ rest → Run fam0 none cd_X5_giveBack ER ET 122 0 [some (vR 38 0), some (vI c), some (vI s), some (vI many), some (vI rest), some (vI x), some (vI (k : Int)), none] [] M) ∧ (rest < (M 51 0 x) → Run fam0 none cd_X5_giveBack ER ET 117 0 [some (vR 38 0), some (vI c), some (vI s), some (vI many), some (vI rest), some (vI x), some (vI (k : Int)), none] [] M))
              refine ⟨by omega, ?_⟩
              have jn114 : Run fam0 none cd_X5_giveBack ER ET 129 0 [some (vR 38 0), some (vI c), some (vI s), some (vI many), some (vI rest), some (vI x), some (vI (k : Int)), none] [vI (minI (M 51 0 x) rest)] M := by
                refine run_k 15 ?_
                show (0 ≤ x ∧ x < 1000) ∧ ((0 ≤ x ∧ x < 1000) ∧ ((0 ≤ x ∧ x < 1000) ∧ (((M 49 0 x) < 10 → Run fam0 none cd_X5_giveBack ER ET 179 0 [some (vR 38 0), some (vI c), some (vI s), some (vI many), some (vI rest), some (vI x), some (vI (minI (M 51 0 x) rest)), none] [] (st M 51 0 x (w32 ((M 51 0 x) - (minI (M 51 0 x) rest))))) ∧ (10 ≤ (M 49 0 x) → Run fam0 none cd_X5_giveBack ER ET 155 0 [some (vR 38 0), some (vI c), some (vI s), some (vI many), some (vI rest), some (vI x), some (vI (minI (M 51 0 x) rest)), none] [] (st M 51 0 x (w32 ((M 51 0 x) - (minI (M 51 0 x) rest))))))))
                rw [show w32 ((M 51 0 x) - (minI (M 51 0 x) rest)) = (M 51 0 x) - (minI (M 51 0 x) rest) from w32_id (by simp only [in32]; omega)]
                refine ⟨by omega, ?_⟩
                refine ⟨by omega, ?_⟩
                refine ⟨by omega, ?_⟩
                refine ⟨fun c7 => ?_, fun c7 => ?_⟩
                · refine run_k 5 ?_
                  show Run fam0 none cd_X5_giveBack ER ET 3 0 [some (vR 38 0), some (vI c), some (vI s), some (vI many), some (vI (w32 (rest - (minI (M 51 0 x) rest)))), some (vI x), some (vI (minI (M 51 0 x) rest)), none] [] (st M 51 0 x ((M 51 0 x) - (minI (M 51 0 x) rest)))
                  rw [show w32 (rest - (minI (M 51 0 x) rest)) = rest - (minI (M 51 0 x) rest) from w32_id (by simp only [in32]; omega)]
                  refine run_w (L' := [some (vR 38 0), some (vI c), some (vI s), some (vI many), some (vI (rest - (minI (M 51 0 x) rest))), none, none, none]) ⟨rfl, rfl, rfl, rfl, rfl, True.intro⟩ ?_
                  exact ih3 f' (st M 51 0 x ((M 51 0 x) - (minI (M 51 0 x) rest))) (rest - (minI (M 51 0 x) rest)) (by omega) (by
                      have hmk : st M 51 0 x ((M 51 0 x) - (minI (M 51 0 x) rest)) = backF M x (minI (M 51 0 x) rest) s := by first | simp only [backF, if_pos (show M 49 0 x < 10 by omega)] | simp only [backF, if_neg (show ¬ M 49 0 x < 10 by omega)]
                      obtain ⟨hok1, hok2⟩ := backF_ok hLk hGb s hx0 hx1 (own := (minI (M 51 0 x) rest)) ⟨by omega, by omega⟩
                      have hto2 := backF_to hLk (own := (minI (M 51 0 x) rest)) s hx0 hx1 c s
                      rw [if_pos ⟨hbc.1, hbc.2.1⟩] at hto2
                      rw [hmk]
                      have e : 1000000 + many - rest + (minI (M 51 0 x) rest) = 1000000 + many - (rest - (minI (M 51 0 x) rest)) := by omega
                      rw [e] at hok2
                      exact ⟨hgb2, by omega, by omega, by omega, hok1, hok2⟩)
                · refine run_k 22 ?_
                  show (0 ≤ x ∧ x < 1000) ∧ ((0 ≤ (w32 ((w32 (4 * (w32 ((M 49 0 x) - 10)))) + s)) ∧ (w32 ((w32 (4 * (w32 ((M 49 0 x) - 10)))) + s)) < 16) ∧ ((0 ≤ (w32 ((w32 (4 * (w32 ((M 49 0 x) - 10)))) + s)) ∧ (w32 ((w32 (4 * (w32 ((M 49 0 x) - 10)))) + s)) < 16) ∧ (Run fam0 none cd_X5_giveBack ER ET 3 0 [some (vR 38 0), some (vI c), some (vI s), some (vI many), some (vI (w32 (rest - (minI (M 51 0 x) rest)))), some (vI x), some (vI (minI (M 51 0 x) rest)), none] [] (st (st M 51 0 x ((M 51 0 x) - (minI (M 51 0 x) rest))) 45 0 (w32 ((w32 (4 * (w32 ((M 49 0 x) - 10)))) + s)) (w32 ((M 45 0 (w32 ((w32 (4 * (w32 ((M 49 0 x) - 10)))) + s))) + (minI (M 51 0 x) rest)))))))
                  rw [show w32 ((M 49 0 x) - 10) = (M 49 0 x) - 10 from w32_id (by simp only [in32]; omega)]
                  rw [show w32 (4 * ((M 49 0 x) - 10)) = 4 * ((M 49 0 x) - 10) from w32_id (by simp only [in32]; omega)]
                  rw [show w32 ((4 * ((M 49 0 x) - 10)) + s) = (4 * ((M 49 0 x) - 10)) + s from w32_id (by simp only [in32]; omega)]
                  rw [show w32 ((M 45 0 ((4 * ((M 49 0 x) - 10)) + s)) + (minI (M 51 0 x) rest)) = (M 45 0 ((4 * ((M 49 0 x) - 10)) + s)) + (minI (M 51 0 x) rest) from w32_id (by simp only [in32]; omega)]
                  rw [show w32 (rest - (minI (M 51 0 x) rest)) = rest - (minI (M 51 0 x) rest) from w32_id (by simp only [in32]; omega)]
                  refine ⟨by omega, ?_⟩
                  refine ⟨by omega, ?_⟩
                  refine ⟨by omega, ?_⟩
                  refine run_w (L' := [some (vR 38 0), some (vI c), some (vI s), some (vI many), some (vI (rest - (minI (M 51 0 x) rest))), none, none, none]) ⟨rfl, rfl, rfl, rfl, rfl, True.intro⟩ ?_
                  exact ih3 f' (st (st M 51 0 x ((M 51 0 x) - (minI (M 51 0 x) rest))) 45 0 ((4 * ((M 49 0 x) - 10)) + s) ((M 45 0 ((4 * ((M 49 0 x) - 10)) + s)) + (minI (M 51 0 x) rest))) (rest - (minI (M 51 0 x) rest)) (by omega) (by
                      have hmk : st (st M 51 0 x ((M 51 0 x) - (minI (M 51 0 x) rest))) 45 0 ((4 * ((M 49 0 x) - 10)) + s) ((M 45 0 ((4 * ((M 49 0 x) - 10)) + s)) + (minI (M 51 0 x) rest)) = backF M x (minI (M 51 0 x) rest) s := by first | simp only [backF, if_pos (show M 49 0 x < 10 by omega)] | simp only [backF, if_neg (show ¬ M 49 0 x < 10 by omega)]
                      obtain ⟨hok1, hok2⟩ := backF_ok hLk hGb s hx0 hx1 (own := (minI (M 51 0 x) rest)) ⟨by omega, by omega⟩
                      have hto2 := backF_to hLk (own := (minI (M 51 0 x) rest)) s hx0 hx1 c s
                      rw [if_pos ⟨hbc.1, hbc.2.1⟩] at hto2
                      rw [hmk]
                      have e : 1000000 + many - rest + (minI (M 51 0 x) rest) = 1000000 + many - (rest - (minI (M 51 0 x) rest)) := by omega
                      rw [e] at hok2
                      exact ⟨hgb2, by omega, by omega, by omega, hok1, hok2⟩)
              refine ⟨fun c6 => ?_, fun c6 => ?_⟩
              · refine run_k 4 ?_
                show (0 ≤ x ∧ x < 1000) ∧ (Run fam0 none cd_X5_giveBack ER ET 129 0 [some (vR 38 0), some (vI c), some (vI s), some (vI many), some (vI rest), some (vI x), some (vI (k : Int)), none] [vI (M 51 0 x)] M)
                refine ⟨by omega, ?_⟩
                rw [show (minI (M 51 0 x) rest) = (M 51 0 x) from by unfold minI; first | rw [if_pos (by omega)] | rw [if_neg (by omega)]] at jn114
                exact jn114
              · refine run_k 2 ?_
                show Run fam0 none cd_X5_giveBack ER ET 129 0 [some (vR 38 0), some (vI c), some (vI s), some (vI many), some (vI rest), some (vI x), some (vI (k : Int)), none] [vI rest] M
                rw [show (minI (M 51 0 x) rest) = rest from by unfold minI; first | rw [if_pos (by omega)] | rw [if_neg (by omega)]] at jn114
                exact jn114
            · refine run_k 6 ?_
              show (0 ≤ (k : Int) ∧ (k : Int) < 1000) ∧ (((M 50 0 (k : Int)) ≠ c → Run fam0 none cd_X5_giveBack ER ET 59 0 [some (vR 38 0), some (vI c), some (vI s), some (vI many), some (vI rest), some (vI x), some (vI (k : Int)), none] [] M) ∧ ((M 50 0 (k : Int)) = c → Run fam0 none cd_X5_giveBack ER ET 34 0 [some (vR 38 0), some (vI c), some (vI s), some (vI many), some (vI rest), some (vI x), some (vI (k : Int)), none] [] M))
              refine ⟨by omega, ?_⟩
              refine ⟨fun c12 => ?_, fun c12 => ?_⟩
              · refine run_k 4 ?_
                show (0 = 0 → Run fam0 none cd_X5_giveBack ER ET 95 0 [some (vR 38 0), some (vI c), some (vI s), some (vI many), some (vI rest), some (vI x), some (vI (k : Int)), some (vI 0)] [] M) ∧ (0 ≠ 0 → Run fam0 none cd_X5_giveBack ER ET 67 0 [some (vR 38 0), some (vI c), some (vI s), some (vI many), some (vI rest), some (vI x), some (vI (k : Int)), some (vI 0)] [] M)
                refine ⟨fun c13 => ?_, fun c13 => absurd c13 (by decide)⟩
                refine run_k 4 ?_
                show Run fam0 none cd_X5_giveBack ER ET 14 0 [some (vR 38 0), some (vI c), some (vI s), some (vI many), some (vI rest), some (vI x), some (vI (w32 ((k : Int) + 1))), some (vI 0)] [] M
                rw [show w32 ((k : Int) + 1) = (k : Int) + 1 from w32_id (by simp only [in32]; omega)]
                refine run_w (L' := [some (vR 38 0), some (vI c), some (vI s), some (vI many), some (vI rest), some (vI x), some (vI ((k : Int) + 1)), none]) ⟨rfl, rfl, rfl, rfl, rfl, rfl, rfl, True.intro⟩ ?_
                exact ih14 (k + 1) x (by omega) (⟨by omega, by unfold bstF; rw [← hx2]; first | rw [if_pos (by omega)] | rw [if_neg (by omega)]⟩)
              · refine run_k 6 ?_
                show (0 ≤ (k : Int) ∧ (k : Int) < 1000) ∧ (((M 48 0 (k : Int)) ≠ s → Run fam0 none cd_X5_giveBack ER ET 59 0 [some (vR 38 0), some (vI c), some (vI s), some (vI many), some (vI rest), some (vI x), some (vI (k : Int)), none] [] M) ∧ ((M 48 0 (k : Int)) = s → Run fam0 none cd_X5_giveBack ER ET 45 0 [some (vR 38 0), some (vI c), some (vI s), some (vI many), some (vI rest), some (vI x), some (vI (k : Int)), none] [] M))
                refine ⟨by omega, ?_⟩
                refine ⟨fun c15 => ?_, fun c15 => ?_⟩
                · refine run_k 4 ?_
                  show (0 = 0 → Run fam0 none cd_X5_giveBack ER ET 95 0 [some (vR 38 0), some (vI c), some (vI s), some (vI many), some (vI rest), some (vI x), some (vI (k : Int)), some (vI 0)] [] M) ∧ (0 ≠ 0 → Run fam0 none cd_X5_giveBack ER ET 67 0 [some (vR 38 0), some (vI c), some (vI s), some (vI many), some (vI rest), some (vI x), some (vI (k : Int)), some (vI 0)] [] M)
                  refine ⟨fun c16 => ?_, fun c16 => absurd c16 (by decide)⟩
                  refine run_k 4 ?_
                  show Run fam0 none cd_X5_giveBack ER ET 14 0 [some (vR 38 0), some (vI c), some (vI s), some (vI many), some (vI rest), some (vI x), some (vI (w32 ((k : Int) + 1))), some (vI 0)] [] M
                  rw [show w32 ((k : Int) + 1) = (k : Int) + 1 from w32_id (by simp only [in32]; omega)]
                  refine run_w (L' := [some (vR 38 0), some (vI c), some (vI s), some (vI many), some (vI rest), some (vI x), some (vI ((k : Int) + 1)), none]) ⟨rfl, rfl, rfl, rfl, rfl, rfl, rfl, True.intro⟩ ?_
                  exact ih14 (k + 1) x (by omega) (⟨by omega, by unfold bstF; rw [← hx2]; first | rw [if_pos (by omega)] | rw [if_neg (by omega)]⟩)
                · refine run_k 5 ?_
                  show (0 ≤ (k : Int) ∧ (k : Int) < 1000) ∧ (((M 51 0 (k : Int)) ≤ 0 → Run fam0 none cd_X5_giveBack ER ET 59 0 [some (vR 38 0), some (vI c), some (vI s), some (vI many), some (vI rest), some (vI x), some (vI (k : Int)), none] [] M) ∧ (0 < (M 51 0 (k : Int)) → Run fam0 none cd_X5_giveBack ER ET 55 0 [some (vR 38 0), some (vI c), some (vI s), some (vI many), some (vI rest), some (vI x), some (vI (k : Int)), none] [] M))
                  refine ⟨by omega, ?_⟩
                  refine ⟨fun c18 => ?_, fun c18 => ?_⟩
                  · refine run_k 4 ?_
                    show (0 = 0 → Run fam0 none cd_X5_giveBack ER ET 95 0 [some (vR 38 0), some (vI c), some (vI s), some (vI many), some (vI rest), some (vI x), some (vI (k : Int)), some (vI 0)] [] M) ∧ (0 ≠ 0 → Run fam0 none cd_X5_giveBack ER ET 67 0 [some (vR 38 0), some (vI c), some (vI s), some (vI many), some (vI rest), some (vI x), some (vI (k : Int)), some (vI 0)] [] M)
                    refine ⟨fun c19 => ?_, fun c19 => absurd c19 (by decide)⟩
                    refine run_k 4 ?_
                    show Run fam0 none cd_X5_giveBack ER ET 14 0 [some (vR 38 0), some (vI c), some (vI s), some (vI many), some (vI rest), some (vI x), some (vI (w32 ((k : Int) + 1))), some (vI 0)] [] M
                    rw [show w32 ((k : Int) + 1) = (k : Int) + 1 from w32_id (by simp only [in32]; omega)]
                    refine run_w (L' := [some (vR 38 0), some (vI c), some (vI s), some (vI many), some (vI rest), some (vI x), some (vI ((k : Int) + 1)), none]) ⟨rfl, rfl, rfl, rfl, rfl, rfl, rfl, True.intro⟩ ?_
                    exact ih14 (k + 1) x (by omega) (⟨by omega, by unfold bstF; rw [← hx2]; first | rw [if_pos (by omega)] | rw [if_neg (by omega)]⟩)
                  · refine run_k 5 ?_
                    show (1 = 0 → Run fam0 none cd_X5_giveBack ER ET 95 0 [some (vR 38 0), some (vI c), some (vI s), some (vI many), some (vI rest), some (vI x), some (vI (k : Int)), some (vI 1)] [] M) ∧ (1 ≠ 0 → Run fam0 none cd_X5_giveBack ER ET 67 0 [some (vR 38 0), some (vI c), some (vI s), some (vI many), some (vI rest), some (vI x), some (vI (k : Int)), some (vI 1)] [] M)
                    refine ⟨fun c21 => absurd c21 (by decide), fun c21 => ?_⟩
                    refine run_k 3 ?_
                    show (x = (-1) → Run fam0 none cd_X5_giveBack ER ET 90 0 [some (vR 38 0), some (vI c), some (vI s), some (vI many), some (vI rest), some (vI x), some (vI (k : Int)), some (vI 1)] [] M) ∧ (x ≠ (-1) → Run fam0 none cd_X5_giveBack ER ET 73 0 [some (vR 38 0), some (vI c), some (vI s), some (vI many), some (vI rest), some (vI x), some (vI (k : Int)), some (vI 1)] [] M)
                    refine ⟨fun c22 => ?_, fun c22 => ?_⟩
                    · refine run_k 5 ?_
                      show Run fam0 none cd_X5_giveBack ER ET 14 0 [some (vR 38 0), some (vI c), some (vI s), some (vI many), some (vI rest), some (vI (k : Int)), some (vI (w32 ((k : Int) + 1))), some (vI 1)] [] M
                      rw [show w32 ((k : Int) + 1) = (k : Int) + 1 from w32_id (by simp only [in32]; omega)]
                      refine run_w (L' := [some (vR 38 0), some (vI c), some (vI s), some (vI many), some (vI rest), some (vI (k : Int)), some (vI ((k : Int) + 1)), none]) ⟨rfl, rfl, rfl, rfl, rfl, rfl, rfl, True.intro⟩ ?_
                      exact ih14 (k + 1) (k : Int) (by omega) (⟨by omega, by unfold bstF; rw [← hx2]; first | rw [if_pos (by omega)] | rw [if_neg (by omega)]⟩)
                    · refine run_k 9 ?_
                      show (0 ≤ (k : Int) ∧ (k : Int) < 1000) ∧ ((0 ≤ x ∧ x < 1000) ∧ (((M 52 0 (k : Int)) < (M 52 0 x) → Run fam0 none cd_X5_giveBack ER ET 95 0 [some (vR 38 0), some (vI c), some (vI s), some (vI many), some (vI rest), some (vI x), some (vI (k : Int)), some (vI 1)] [] M) ∧ ((M 52 0 x) ≤ (M 52 0 (k : Int)) → Run fam0 none cd_X5_giveBack ER ET 90 0 [some (vR 38 0), some (vI c), some (vI s), some (vI many), some (vI rest), some (vI x), some (vI (k : Int)), some (vI 1)] [] M)))
                      refine ⟨by omega, ?_⟩
                      refine ⟨by omega, ?_⟩
                      refine ⟨fun c24 => ?_, fun c24 => ?_⟩
                      · refine run_k 4 ?_
                        show Run fam0 none cd_X5_giveBack ER ET 14 0 [some (vR 38 0), some (vI c), some (vI s), some (vI many), some (vI rest), some (vI x), some (vI (w32 ((k : Int) + 1))), some (vI 1)] [] M
                        rw [show w32 ((k : Int) + 1) = (k : Int) + 1 from w32_id (by simp only [in32]; omega)]
                        refine run_w (L' := [some (vR 38 0), some (vI c), some (vI s), some (vI many), some (vI rest), some (vI x), some (vI ((k : Int) + 1)), none]) ⟨rfl, rfl, rfl, rfl, rfl, rfl, rfl, True.intro⟩ ?_
                        exact ih14 (k + 1) x (by omega) (⟨by omega, by unfold bstF; rw [← hx2]; first | rw [if_pos (by omega)] | rw [if_neg (by omega)]⟩)
                      · refine run_k 5 ?_
                        show Run fam0 none cd_X5_giveBack ER ET 14 0 [some (vR 38 0), some (vI c), some (vI s), some (vI many), some (vI rest), some (vI (k : Int)), some (vI (w32 ((k : Int) + 1))), some (vI 1)] [] M
                        rw [show w32 ((k : Int) + 1) = (k : Int) + 1 from w32_id (by simp only [in32]; omega)]
                        refine run_w (L' := [some (vR 38 0), some (vI c), some (vI s), some (vI many), some (vI rest), some (vI (k : Int)), some (vI ((k : Int) + 1)), none]) ⟨rfl, rfl, rfl, rfl, rfl, rfl, rfl, True.intro⟩ ?_
                        exact ih14 (k + 1) (k : Int) (by omega) (⟨by omega, by unfold bstF; rw [← hx2]; first | rw [if_pos (by omega)] | rw [if_neg (by omega)]⟩)
        exact lp14 _ 0 (-1) (Nat.lt_succ_self _) (⟨by omega, rfl⟩)
  exact lp3 _ many.toNat μ many (Nat.lt_succ_self _) (⟨rfl, by omega, by omega, hto, hLk, by rw [show 1000000 + many - many = 1000000 by omega]; exact hGk⟩)
set_option maxRecDepth 20000 in
theorem con_X5_giveBack (l : Launch) (htr : l.stackTraces = false) (σ : Mm) : CON fam0 63 l yX5_giveBack (Cond.code yX5_giveBack cX5_giveBack 8 none :: wm) 0 0 0 (cl_X5_giveBack.2.2.1 σ) (cl_X5_giveBack.2.2.2.1 σ) (cl_X5_giveBack.2.2.2.2 σ) :=
  con_of (cd := cd_X5_giveBack) (own := RX5) (rk := 0) (sc_of htr (by decide) k_X5_giveBack_ok (by decide +kernel) co_X5_ok fl_X5_ok all_nil all_nil all_nil) rfl (by decide +kernel) rfl rfl rfl rfl (fun as μ hs => by rw [hs.1]; exact Nat.le_of_ble_eq_true rfl)
    (fun as μ hs hM hrg => by
      have hs1 := hs.1
      have hmem : ∀ v, v ∈ ([vR 38 0, vI (iaI as 1), vI (iaI as 2), vI (iaI as 3)] : List AV) → rg fam0 v := by rw [← hs1]; exact hrg
      have key := run_X5_giveBack (ER := cl_X5_giveBack.2.2.2.1 σ as μ) (ET := fun k μ' => cl_X5_giveBack.2.2.2.2 σ as μ k ∧ μ' = μ) σ μ (iaI as 1) (iaI as 2) (iaI as 3) hM (hmem (vI (iaI as 1)) (by simp)) (hmem (vI (iaI as 2)) (by simp)) (hmem (vI (iaI as 3)) (by simp)) hs.2 (fun ov μ' h => h)
      have e : entL as 8 = [some (vR 38 0), some (vI (iaI as 1)), some (vI (iaI as 2)), some (vI (iaI as 3)), none, none, none, none] := by rw [hs1]; rfl
      rw [e]; exact key)
