/-! ===== what the reference does not look at, it leaves as it is: all of its functions -/
def reF (g : Nat) : Bool := decide (39 ≤ g) && decide (g ≤ 61)
def reN (j : Int) : Bool := decide (j = 1) || decide (j = 11) || decide (j = 17) || decide (j = 23) || decide (j = 28) || decide (j = 29) || decide (j = 30)
def RlD (D : Nat → Int → Int → Bool) : Prop := (∀ (g : Nat) (j : Int), reF g = true → D g 0 j = false) ∧ ∀ j : Int, reN j = true → D 38 0 j = false
theorem reF_co {g : Nat} (h : coF g = true) : reF g = true := by
  unfold coF at h
  unfold reF
  simp only [Bool.or_eq_true, decide_eq_true_eq, Bool.and_eq_true] at *
  omega
theorem RlD.co {D : Nat → Int → Int → Bool} (h : RlD D) : CoD D := ⟨fun g j q => h.1 g j (reF_co q), h.2 11 (by decide), h.2 28 (by decide)⟩
section
variable {D : Nat → Int → Int → Bool} {a : Mm}
theorem rv_g (hD : RlD D) {b : Mm} {g : Nat} {j : Int} (h : reF g = true) : ovr D a b g 0 j = b g 0 j := ov_rd (hD.1 g j h)
theorem rv_n (hD : RlD D) {b : Mm} {j : Int} (h : reN j = true) : ovr D a b 38 0 j = b 38 0 j := ov_rd (hD.2 j h)
theorem rv_s (hD : RlD D) {b : Mm} {g : Nat} {j v : Int} (h : reF g = true) : st (ovr D a b) g 0 j v = ovr D a (st b g 0 j v) := ov_st (hD.1 g j h)
theorem rv_sn (hD : RlD D) {b : Mm} {j v : Int} (h : reN j = true) : st (ovr D a b) 38 0 j v = ovr D a (st b 38 0 j v) := ov_st (hD.2 j h)
theorem rv_worth (hD : RlD D) (b : Mm) (c s : Int) : worthF (ovr D a b) c s = worthF b c s := by
  unfold worthF
  rw [rv_g hD (show reF 42 = true by decide), rv_g hD (show reF 39 = true by decide)]
theorem rv_eqL (hD : RlD D) (b : Mm) (c : Int) : ∀ k : Nat, eqL (ovr D a b) c k = eqL b c k
  | 0 => rv_g hD (show reF 41 = true by decide)
  | k + 1 => by rw [eqL, eqL, rv_eqL hD b c k, rv_g hD (show reF 42 = true by decide), rv_g hD (show reF 39 = true by decide)]
theorem rv_equity (hD : RlD D) (b : Mm) (c : Int) : equityF (ovr D a b) c = equityF b c := rv_eqL hD b c 4
theorem rv_allL (hD : RlD D) (b : Mm) (c : Int) : ∀ k : Nat, allL (ovr D a b) c k = allL b c k
  | 0 => rfl
  | k + 1 => by rw [allL, allL, rv_allL hD b c k, rv_worth hD]
theorem rv_neL (hD : RlD D) (b : Mm) (c : Int) : ∀ k : Nat, neL (ovr D a b) c k = neL b c k
  | 0 => rfl
  | k + 1 => by rw [neL, neL, rv_neL hD b c k, rv_worth hD, rv_allL hD, rv_g hD (show reF 40 = true by decide)]
theorem rv_need (hD : RlD D) (b : Mm) (c : Int) : needF (ovr D a b) c = needF b c := rv_neL hD b c 4
theorem rv_called (hD : RlD D) (b : Mm) (c : Int) : calledF (ovr D a b) c = calledF b c := by
  unfold calledF
  rw [rv_equity hD, rv_need hD]
theorem rv_btL (hD : RlD D) (b : Mm) (c : Int) : ∀ k : Nat, btL (ovr D a b) c k = btL b c k
  | 0 => rfl
  | k + 1 => by rw [btL, btL, rv_btL hD b c k, rv_worth hD, rv_worth hD]
theorem rv_holds (hD : RlD D) (b : Mm) (k : Int) : holdsF (ovr D a b) k = holdsF b k := by
  unfold holdsF
  rw [rv_g hD (show reF 57 = true by decide), rv_g hD (show reF 56 = true by decide), rv_n hD (by decide)]
theorem rv_liqL (hD : RlD D) (c : Int) : ∀ (f : Nat) (b : Mm) (n : Int), liqL c f (ovr D a b) n = (ovr D a (liqL c f b n).1, (liqL c f b n).2)
  | 0, _, _ => rfl
  | f + 1, b, n => by
    rw [liqL, liqL, rv_btL hD, rv_worth hD, rv_called hD]
    split
    · rw [ov_closeF hD.co]
      exact rv_liqL hD c f _ _
    · rfl
theorem rv_cost (hD : RlD D) (b : Mm) (k : Int) : costF (ovr D a b) k = costF b k := by
  unfold costF
  rw [rv_g hD (show reF 51 = true by decide), rv_g hD (show reF 39 = true by decide), rv_g hD (show reF 48 = true by decide), rv_g hD (show reF 52 = true by decide)]
theorem rv_chgF (hD : RlD D) (b : Mm) : ∀ k : Nat, chgF (ovr D a b) k = ovr D a (chgF b k)
  | 0 => rfl
  | k + 1 => by
    rw [chgF, chgF, rv_chgF hD b k, rv_cost hD, rv_g hD (show reF 49 = true by decide)]
    split
    · rw [rv_g hD (show reF 50 = true by decide), rv_g hD (show reF 41 = true by decide), rv_g hD (show reF 47 = true by decide), rv_s hD (by decide), rv_s hD (by decide)]
    · rfl
theorem rv_dayF (hD : RlD D) (b : Mm) : dayF (ovr D a b) = ovr D a (dayF b) := by
  unfold dayF
  rw [rv_n hD (by decide), rv_chgF hD, rv_n hD (by decide), rv_sn hD (by decide)]
theorem rv_want (hD : RlD D) (b : Mm) (k : Int) : wantF (ovr D a b) k = wantF b k := by
  unfold wantF
  rw [ov_lentF hD.co, rv_g hD (show reF 58 = true by decide), rv_g hD (show reF 59 = true by decide), rv_g hD (show reF 60 = true by decide)]
theorem rv_meet (hD : RlD D) (b : Mm) (k : Int) : meetF (ovr D a b) k = ovr D a (meetF b k) := by
  unfold meetF
  rw [rv_want hD, rv_g hD (show reF 58 = true by decide), rv_g hD (show reF 59 = true by decide), ov_callF hD.co, rv_n hD (by decide), rv_sn hD (by decide)]
theorem rv_metF (hD : RlD D) (b : Mm) : ∀ k : Nat, metF (ovr D a b) k = ovr D a (metF b k)
  | 0 => rv_dayF hD b
  | k + 1 => by
    rw [metF, metF, rv_metF hD b k, rv_g hD (show reF 61 = true by decide), rv_n hD (by decide), rv_meet hD]
    split <;> rfl
theorem rv_passF (hD : RlD D) (b : Mm) : passF (ovr D a b) = ovr D a (passF b) := by
  unfold passF
  rw [rv_n hD (by decide), rv_metF hD]
theorem rv_shortF (hD : RlD D) (b : Mm) (k n : Int) : shortF (ovr D a b) k n = ovr D a (shortF b k n) := by
  unfold shortF
  rw [rv_g hD (show reF 53 = true by decide), rv_g hD (show reF 54 = true by decide), rv_s hD (by decide), ov_borF hD.co]
  dsimp only
  rw [rv_g hD (show reF 42 = true by decide), rv_g hD (show reF 41 = true by decide), rv_g hD (show reF 39 = true by decide), rv_s hD (by decide), rv_s hD (by decide)]
theorem rv_loss (hD : RlD D) (b : Mm) (c : Int) : lossF (ovr D a b) c = lossF b c := by
  unfold lossF
  rw [rv_g hD (show reF 41 = true by decide)]
/-- days one behind the other -/
def itP : Nat → Mm → Mm
  | 0, m => m
  | n + 1, m => passF (itP n m)
theorem ps_it (m : Mm) : ∀ n : Nat, psL m n = itP n (st m 38 0 0 0)
  | 0 => rfl
  | n + 1 => by rw [psL, itP, ps_it m n]
theorem rv_itP (hD : RlD D) (b : Mm) : ∀ n : Nat, itP n (ovr D a b) = ovr D a (itP n b)
  | 0 => rfl
  | n + 1 => by rw [itP, itP, rv_itP hD b n, rv_passF hD]
def itC (c : Int) : Nat → Mm → Mm
  | 0, m => m
  | k + 1, m => closeF (itC c k m) c k
theorem fl_it (m : Mm) (c : Int) : ∀ k : Nat, failL m c k = itC c k (st m 38 0 0 0)
  | 0 => rfl
  | k + 1 => by rw [failL, itC, fl_it m c k]
theorem rv_itC (hD : RlD D) (c : Int) (b : Mm) : ∀ k : Nat, itC c k (ovr D a b) = ovr D a (itC c k b)
  | 0 => rfl
  | k + 1 => by rw [itC, itC, rv_itC hD c b k, ov_closeF hD.co]
/-- a failing, behind the closings -/
def flE (m : Mm) (c : Int) : Mm := st (st (st (st m 44 0 c 1) 43 0 c 0) 41 0 c (w64 (m 41 0 c + lossF m c))) 38 0 29 (w64 (m 38 0 29 + lossF m c))
theorem fl_E (m : Mm) (c : Int) : failF m c = flE (itC c 4 (st m 38 0 0 0)) c := by
  unfold failF flE
  rw [fl_it]
theorem rv_flE (hD : RlD D) (b : Mm) (c : Int) : flE (ovr D a b) c = ovr D a (flE b c) := by
  unfold flE
  rw [rv_loss hD, rv_g hD (show reF 41 = true by decide), rv_n hD (by decide), rv_s hD (by decide), rv_s hD (by decide), rv_s hD (by decide), rv_sn hD (by decide)]
def itA (s v : Int) : Nat → Mm → Mm
  | 0, m => m
  | k + 1, m => st (itA s v k m) 41 0 k (w64 (itA s v k m 41 0 k + w64 (itA s v k m 42 0 (4 * (k : Int) + s) * v)))
theorem dv_A (m : Mm) (s v : Int) : ∀ k : Nat, divA m s v k = itA s v k (st m 38 0 0 0)
  | 0 => rfl
  | k + 1 => by rw [divA, itA, dv_A m s v k]
theorem rv_itA (hD : RlD D) (s v : Int) (b : Mm) : ∀ k : Nat, itA s v k (ovr D a b) = ovr D a (itA s v k b)
  | 0 => rfl
  | k + 1 => by rw [itA, itA, rv_itA hD s v b k, rv_g hD (show reF 41 = true by decide), rv_g hD (show reF 42 = true by decide), rv_s hD (by decide)]
def itB (s v : Int) : Nat → Mm → Mm × Int
  | 0, m => (m, 0)
  | j + 1, m => (st (itB s v j m).1 47 0 j (w64 ((itB s v j m).1 47 0 j + w64 (lentF (itB s v j m).1 (10 + (j : Int)) s * v))), w64 ((itB s v j m).2 + w64 (lentF (itB s v j m).1 (10 + (j : Int)) s * v)))
theorem dv_B (m : Mm) (s v : Int) : ∀ k : Nat, divB m s v k = itB s v k (itA s v 6 (st m 38 0 0 0))
  | 0 => by rw [divB, itB, dv_A]
  | k + 1 => by rw [divB, itB, dv_B m s v k]
theorem rv_itB (hD : RlD D) (s v : Int) (b : Mm) : ∀ k : Nat, itB s v k (ovr D a b) = (ovr D a (itB s v k b).1, (itB s v k b).2)
  | 0 => rfl
  | k + 1 => by
    rw [itB, itB, rv_itB hD s v b k]
    dsimp only
    rw [rv_g hD (show reF 47 = true by decide), ov_lentF hD.co, rv_s hD (by decide)]
end
/-! the reference's part of a memory -/
def rpD : Nat → Int → Int → Bool := fun f r j => !(decide (r = 0) && (reF f || (decide (f = 38) && reN j)))
def rp (μ : Mm) : Mm := ovr rpD (fun _ _ _ => 0) μ
theorem rpD_ok : RlD rpD := ⟨fun g j h => by unfold rpD; rw [h]; rfl, fun j h => by unfold rpD; rw [h]; simp⟩
def loD : Nat → Int → Int → Bool := fun f _ j => decide (f < 38) || (decide (f = 62) || (decide (f = 38) && decide (j = 0)))
theorem loD_ok : RlD loD := ⟨fun g j h => by
  unfold reF at h
  unfold loD
  simp only [Bool.and_eq_true, decide_eq_true_eq] at h
  simp only [Bool.or_eq_false_iff, Bool.and_eq_false_iff, decide_eq_false_iff_not]
  omega, fun j h => by
  unfold reN at h
  unfold loD
  simp only [Bool.or_eq_true, decide_eq_true_eq] at h
  simp only [Bool.or_eq_false_iff, Bool.and_eq_false_iff, decide_eq_false_iff_not]
  omega⟩
theorem rp_out (μ : Mm) (v : Int) : rp (st μ 38 0 0 v) = rp μ := ov_out (by decide)
theorem rp_62 (μ : Mm) (v : Int) : rp (st μ 62 0 0 v) = rp μ := ov_out (by decide)
theorem rp_th (μ : Mm) : st (rp μ) 38 0 0 0 = rp μ := by
  have h : rp μ 38 0 0 = 0 := rfl
  have := st_self (m := rp μ) (f := 38) (r := 0) (i := 0)
  rw [h] at this
  exact this
theorem rp_cg {μ μ' : Mm} (h : ∀ (g : Nat) (r j : Int), 38 ≤ g → g ≠ 62 → μ' g r j = μ g r j) : rp μ' = rp μ := by
  funext f r j
  unfold rp ovr
  cases hq : rpD f r j with
  | true => rfl
  | false =>
    unfold rpD reF at hq
    simp only [Bool.not_eq_false', Bool.and_eq_true, Bool.or_eq_true, decide_eq_true_eq] at hq
    show μ' f r j = μ f r j
    exact h f r j (by omega) (by omega)
theorem rp_g {μ : Mm} {g : Nat} {j : Int} (h : reF g = true) : rp μ g 0 j = μ g 0 j := rv_g rpD_ok h
theorem rp_n {μ : Mm} {j : Int} (h : reN j = true) : rp μ 38 0 j = μ 38 0 j := rv_n rpD_ok h
/-- a function of the reference leaves all below alone -/
theorem lo_of {F : Mm → Mm} (h : ∀ a b, F (ovr loD a b) = ovr loD a (F b)) (μ : Mm) {g : Nat} {r j : Int} (hg : g < 38 ∨ g = 62 ∨ (g = 38 ∧ j = 0)) : F μ g r j = μ g r j := by
  have e : ovr loD μ μ = μ := by
    funext f r j
    unfold ovr
    split <;> rfl
  have h1 := h μ μ
  rw [e] at h1
  rw [h1]
  unfold ovr
  rw [if_pos (show loD g r j = true by unfold loD; simpa using hg)]
