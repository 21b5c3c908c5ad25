/-! ===== the class's memory read as the reference's -/
def mtF (μ : Mm) : Int := sm (fun k => if μ 32 0 (k : Int) ≠ 0 then 1 else 0) (μ 27 0 5).toNat
def al (μ : Mm) : Mm := fun f r j => match f with
  | 39 => μ 1 r j
  | 40 => μ 2 r j
  | 41 => μ 3 r j
  | 47 => μ 12 r j
  | 48 => μ 16 r j
  | 49 => μ 17 r j
  | 50 => μ 18 r j
  | 51 => μ 19 r j
  | 52 => μ 20 r j
  | 53 => μ 22 r j
  | 54 => μ 23 r j
  | 55 => μ 24 r j
  | 57 => μ 26 r j
  | 58 => μ 28 r j
  | 59 => μ 29 r j
  | 60 => μ 30 r j
  | 61 => μ 31 r j
  | 44 => μ 5 r j
  | 42 => if r = 0 then μ 7 (j / 4) (j % 4) else 0
  | 45 => if r = 0 then μ 9 (j / 4) (j % 4) else 0
  | 46 => if r = 0 then μ 11 (j / 4) (j % 4) else 0
  | 43 => if r = 0 then (if μ 5 0 j ≠ 0 then 0 else μ 4 0 j) else 0
  | 56 => if r = 0 then (if 0 ≤ j ∧ j < μ 21 0 5 then μ 25 0 j - 1 else 0) else 0
  | 38 => if r = 0 then (if j = 1 then μ 0 0 14 else if j = 11 then μ 15 0 5 else if j = 17 then μ 21 0 5 else if j = 23 then μ 27 0 5 else if j = 28 then μ 0 0 15 else if j = 29 then μ 0 0 16 else if j = 30 then mtF μ else 0) else 0
  | _ => 0
theorem al_cg {μ μ' : Mm} (h : ∀ (g : Nat) (r j : Int), g ≤ 32 → g ≠ 14 → μ' g r j = μ g r j) : al μ' = al μ := by
  funext f r j
  unfold al mtF
  split <;> simp [h]
theorem al_o {μ : Mm} {f : Nat} {r i v : Int} (h : f = 14 ∨ 33 ≤ f) : al (st μ f r i v) = al μ := al_cg fun g t j h1 h2 => st_o (by omega)
theorem dm4 {a c s : Int} (hs : 0 ≤ s ∧ s ≤ 3) (ha : a = 4 * c + s) : a / 4 = c ∧ a % 4 = s := by omega
theorem al_42 {μ : Mm} {c s : Int} (hs : 0 ≤ s ∧ s ≤ 3) : al μ 42 0 (4 * c + s) = μ 7 c s := by
  show (if (0 : Int) = 0 then μ 7 ((4 * c + s) / 4) ((4 * c + s) % 4) else 0) = _
  rw [if_pos rfl, (dm4 hs rfl).1, (dm4 hs rfl).2]
theorem al_45 {μ : Mm} {c s : Int} (hs : 0 ≤ s ∧ s ≤ 3) : al μ 45 0 (4 * c + s) = μ 9 c s := by
  show (if (0 : Int) = 0 then μ 9 ((4 * c + s) / 4) ((4 * c + s) % 4) else 0) = _
  rw [if_pos rfl, (dm4 hs rfl).1, (dm4 hs rfl).2]
theorem al_46 {μ : Mm} {c s : Int} (hs : 0 ≤ s ∧ s ≤ 3) : al μ 46 0 (4 * c + s) = μ 11 c s := by
  show (if (0 : Int) = 0 then μ 11 ((4 * c + s) / 4) ((4 * c + s) % 4) else 0) = _
  rw [if_pos rfl, (dm4 hs rfl).1, (dm4 hs rfl).2]
theorem al_43 (μ : Mm) (c : Int) : al μ 43 0 c = if μ 5 0 c ≠ 0 then 0 else μ 4 0 c := rfl
theorem al_r39 (μ : Mm) (j : Int) : al μ 39 0 j = μ 1 0 j := rfl
theorem al_r40 (μ : Mm) (j : Int) : al μ 40 0 j = μ 2 0 j := rfl
theorem al_r41 (μ : Mm) (j : Int) : al μ 41 0 j = μ 3 0 j := rfl
theorem al_r47 (μ : Mm) (j : Int) : al μ 47 0 j = μ 12 0 j := rfl
theorem al_r48 (μ : Mm) (j : Int) : al μ 48 0 j = μ 16 0 j := rfl
theorem al_r49 (μ : Mm) (j : Int) : al μ 49 0 j = μ 17 0 j := rfl
theorem al_r50 (μ : Mm) (j : Int) : al μ 50 0 j = μ 18 0 j := rfl
theorem al_r51 (μ : Mm) (j : Int) : al μ 51 0 j = μ 19 0 j := rfl
theorem al_r52 (μ : Mm) (j : Int) : al μ 52 0 j = μ 20 0 j := rfl
theorem al_r53 (μ : Mm) (j : Int) : al μ 53 0 j = μ 22 0 j := rfl
theorem al_r54 (μ : Mm) (j : Int) : al μ 54 0 j = μ 23 0 j := rfl
theorem al_r55 (μ : Mm) (j : Int) : al μ 55 0 j = μ 24 0 j := rfl
theorem al_r57 (μ : Mm) (j : Int) : al μ 57 0 j = μ 26 0 j := rfl
theorem al_r58 (μ : Mm) (j : Int) : al μ 58 0 j = μ 28 0 j := rfl
theorem al_r59 (μ : Mm) (j : Int) : al μ 59 0 j = μ 29 0 j := rfl
theorem al_r60 (μ : Mm) (j : Int) : al μ 60 0 j = μ 30 0 j := rfl
theorem al_r61 (μ : Mm) (j : Int) : al μ 61 0 j = μ 31 0 j := rfl
theorem al_r44 (μ : Mm) (j : Int) : al μ 44 0 j = μ 5 0 j := rfl
theorem al_n1 (μ : Mm) : al μ 38 0 1 = μ 0 0 14 := rfl
theorem al_n11 (μ : Mm) : al μ 38 0 11 = μ 15 0 5 := rfl
theorem al_n17 (μ : Mm) : al μ 38 0 17 = μ 21 0 5 := rfl
theorem al_n23 (μ : Mm) : al μ 38 0 23 = μ 27 0 5 := rfl
theorem al_n28 (μ : Mm) : al μ 38 0 28 = μ 0 0 15 := rfl
theorem al_n29 (μ : Mm) : al μ 38 0 29 = μ 0 0 16 := rfl
theorem al_n30 (μ : Mm) : al μ 38 0 30 = mtF μ := rfl
theorem al_n0 (μ : Mm) : al μ 38 0 0 = 0 := rfl
theorem st_self {m : Mm} {f : Nat} {r i : Int} : st m f r i (m f r i) = m := by
  funext g t j
  unfold st
  split
  · rename_i h; rw [h.1, h.2.1, h.2.2]
  · rfl
theorem al_th (μ : Mm) : st (al μ) 38 0 0 0 = al μ := by
  have := st_self (m := al μ) (f := 38) (r := 0) (i := 0)
  rw [al_n0] at this
  exact this
theorem al_s1 (μ : Mm) (r i v : Int) : al (st μ 1 r i v) = st (al μ) 39 r i v := by
  funext h t j
  unfold al mtF st
  split <;> first | (simp; done) | (simp; intro q; exact absurd q (by assumption))
theorem al_s2 (μ : Mm) (r i v : Int) : al (st μ 2 r i v) = st (al μ) 40 r i v := by
  funext h t j
  unfold al mtF st
  split <;> first | (simp; done) | (simp; intro q; exact absurd q (by assumption))
theorem al_s3 (μ : Mm) (r i v : Int) : al (st μ 3 r i v) = st (al μ) 41 r i v := by
  funext h t j
  unfold al mtF st
  split <;> first | (simp; done) | (simp; intro q; exact absurd q (by assumption))
theorem al_s12 (μ : Mm) (r i v : Int) : al (st μ 12 r i v) = st (al μ) 47 r i v := by
  funext h t j
  unfold al mtF st
  split <;> first | (simp; done) | (simp; intro q; exact absurd q (by assumption))
theorem al_s16 (μ : Mm) (r i v : Int) : al (st μ 16 r i v) = st (al μ) 48 r i v := by
  funext h t j
  unfold al mtF st
  split <;> first | (simp; done) | (simp; intro q; exact absurd q (by assumption))
theorem al_s17 (μ : Mm) (r i v : Int) : al (st μ 17 r i v) = st (al μ) 49 r i v := by
  funext h t j
  unfold al mtF st
  split <;> first | (simp; done) | (simp; intro q; exact absurd q (by assumption))
theorem al_s18 (μ : Mm) (r i v : Int) : al (st μ 18 r i v) = st (al μ) 50 r i v := by
  funext h t j
  unfold al mtF st
  split <;> first | (simp; done) | (simp; intro q; exact absurd q (by assumption))
theorem al_s19 (μ : Mm) (r i v : Int) : al (st μ 19 r i v) = st (al μ) 51 r i v := by
  funext h t j
  unfold al mtF st
  split <;> first | (simp; done) | (simp; intro q; exact absurd q (by assumption))
theorem al_s20 (μ : Mm) (r i v : Int) : al (st μ 20 r i v) = st (al μ) 52 r i v := by
  funext h t j
  unfold al mtF st
  split <;> first | (simp; done) | (simp; intro q; exact absurd q (by assumption))
theorem al_s22 (μ : Mm) (r i v : Int) : al (st μ 22 r i v) = st (al μ) 53 r i v := by
  funext h t j
  unfold al mtF st
  split <;> first | (simp; done) | (simp; intro q; exact absurd q (by assumption))
theorem al_s23 (μ : Mm) (r i v : Int) : al (st μ 23 r i v) = st (al μ) 54 r i v := by
  funext h t j
  unfold al mtF st
  split <;> first | (simp; done) | (simp; intro q; exact absurd q (by assumption))
theorem al_s24 (μ : Mm) (r i v : Int) : al (st μ 24 r i v) = st (al μ) 55 r i v := by
  funext h t j
  unfold al mtF st
  split <;> first | (simp; done) | (simp; intro q; exact absurd q (by assumption))
theorem al_s26 (μ : Mm) (r i v : Int) : al (st μ 26 r i v) = st (al μ) 57 r i v := by
  funext h t j
  unfold al mtF st
  split <;> first | (simp; done) | (simp; intro q; exact absurd q (by assumption))
theorem al_s28 (μ : Mm) (r i v : Int) : al (st μ 28 r i v) = st (al μ) 58 r i v := by
  funext h t j
  unfold al mtF st
  split <;> first | (simp; done) | (simp; intro q; exact absurd q (by assumption))
theorem al_s29 (μ : Mm) (r i v : Int) : al (st μ 29 r i v) = st (al μ) 59 r i v := by
  funext h t j
  unfold al mtF st
  split <;> first | (simp; done) | (simp; intro q; exact absurd q (by assumption))
theorem al_s30 (μ : Mm) (r i v : Int) : al (st μ 30 r i v) = st (al μ) 60 r i v := by
  funext h t j
  unfold al mtF st
  split <;> first | (simp; done) | (simp; intro q; exact absurd q (by assumption))
theorem al_s31 (μ : Mm) (r i v : Int) : al (st μ 31 r i v) = st (al μ) 61 r i v := by
  funext h t j
  unfold al mtF st
  split <;> first | (simp; done) | (simp; intro q; exact absurd q (by assumption))
theorem al_s7 (μ : Mm) (c s v : Int) (hs : 0 ≤ s ∧ s ≤ 3) : al (st μ 7 c s v) = st (al μ) 42 0 (4 * c + s) v := by
  funext h t j
  unfold al mtF st
  split <;> first | (simp; done) | (simp; intro q; exact absurd q (by assumption)) | skip
  simp
  by_cases q : j = 4 * c + s
  · rw [(dm4 hs q).1, (dm4 hs q).2]; by_cases q0 : t = 0 <;> simp [q, q0]
  · have : ¬ (j / 4 = c ∧ j % 4 = s) := by omega
    simp [q, this]
theorem al_s9 (μ : Mm) (c s v : Int) (hs : 0 ≤ s ∧ s ≤ 3) : al (st μ 9 c s v) = st (al μ) 45 0 (4 * c + s) v := by
  funext h t j
  unfold al mtF st
  split <;> first | (simp; done) | (simp; intro q; exact absurd q (by assumption)) | skip
  simp
  by_cases q : j = 4 * c + s
  · rw [(dm4 hs q).1, (dm4 hs q).2]; by_cases q0 : t = 0 <;> simp [q, q0]
  · have : ¬ (j / 4 = c ∧ j % 4 = s) := by omega
    simp [q, this]
theorem al_s11 (μ : Mm) (c s v : Int) (hs : 0 ≤ s ∧ s ≤ 3) : al (st μ 11 c s v) = st (al μ) 46 0 (4 * c + s) v := by
  funext h t j
  unfold al mtF st
  split <;> first | (simp; done) | (simp; intro q; exact absurd q (by assumption)) | skip
  simp
  by_cases q : j = 4 * c + s
  · rw [(dm4 hs q).1, (dm4 hs q).2]; by_cases q0 : t = 0 <;> simp [q, q0]
  · have : ¬ (j / 4 = c ∧ j % 4 = s) := by omega
    simp [q, this]
theorem al_f14 (μ : Mm) (v : Int) : al (st μ 0 0 14 v) = st (al μ) 38 0 1 v := by
  funext h t j
  unfold al mtF st
  split <;> first | (simp; done) | (simp; intro q; exact absurd q (by assumption)) | skip
  simp
  by_cases q0 : t = 0
  · by_cases q : j = 1
    · subst q; simp [q0]
    · simp [q, q0]
  · simp [q0]
theorem al_f15 (μ : Mm) (v : Int) : al (st μ 0 0 15 v) = st (al μ) 38 0 28 v := by
  funext h t j
  unfold al mtF st
  split <;> first | (simp; done) | (simp; intro q; exact absurd q (by assumption)) | skip
  simp
  by_cases q0 : t = 0
  · by_cases q : j = 28
    · subst q; simp [q0]
    · simp [q, q0]
  · simp [q0]
theorem al_f16 (μ : Mm) (v : Int) : al (st μ 0 0 16 v) = st (al μ) 38 0 29 v := by
  funext h t j
  unfold al mtF st
  split <;> first | (simp; done) | (simp; intro q; exact absurd q (by assumption)) | skip
  simp
  by_cases q0 : t = 0
  · by_cases q : j = 29
    · subst q; simp [q0]
    · simp [q, q0]
  · simp [q0]
theorem al_f5 (μ : Mm) (v : Int) : al (st μ 15 0 5 v) = st (al μ) 38 0 11 v := by
  funext h t j
  unfold al mtF st
  split <;> first | (simp; done) | (simp; intro q; exact absurd q (by assumption)) | skip
  simp
  by_cases q0 : t = 0
  · by_cases q : j = 11
    · subst q; simp [q0]
    · simp [q, q0]
  · simp [q0]
/-! ===== what holds of the class's own counters: the lent ones, the shares by name and hand -/
def VB (m : Mm) : Prop := Lk m ∧ Pk m ∧ I5 m ∧ I6 m
theorem VB_of {m : Mm} (h : Wk m) : VB m := ⟨h.1, h.2.1, h.2.2.2.1, h.2.2.2.2⟩
/-- who has failed has no position -/
def FZ (m : Mm) : Prop := ∀ c s : Int, 0 ≤ c → c ≤ 5 → 0 ≤ s → s ≤ 3 → m 44 0 c ≠ 0 → m 42 0 (4 * c + s) = 0
def srcR (x : Int) : Prop := (0 ≤ x ∧ x ≤ 5) ∨ (10 ≤ x ∧ x ≤ 13)
def CLn (μ : Mm) : Prop := ∀ x s : Int, srcR x → 0 ≤ s → s ≤ 3 → μ 14 x s = lentF (al μ) x s
def cnP (μ : Mm) (s : Int) (P : Int → Int → Bool) (n : Nat) : Int := sm (fun k => if P (μ 37 s k) (μ 35 s k) = true then 1 else 0) n
def pO : Int → Int → Bool := fun h _ => decide (h = 0)
def pH (h c : Int) : Int → Int → Bool := fun x y => decide (x = h) && decide (y = c)
def lgG (m : Mm) (s : Int) (c : Nat) : Int := if 0 < m 42 0 (4 * (c : Int) + s) then m 42 0 (4 * (c : Int) + s) else 0
def longF (m : Mm) (s : Int) : Int := sm (lgG m s) 6
def ftG (m : Mm) (c b s : Int) (k : Nat) : Int := if m 49 0 k = c ∧ m 50 0 k = b ∧ m 48 0 k = s then m 51 0 k else 0
def ftF (m : Mm) (c b s : Int) : Int := sm (ftG m c b s) (m 38 0 11).toNat
def CHd (μ : Mm) : Prop := ∀ s : Int, 0 ≤ s → s ≤ 3 → cnP μ s pO 3000 = 3000 - longF (al μ) s ∧ ∀ c : Int, 0 ≤ c → c ≤ 5 → cnP μ s (pH 1 c) 3000 = partF (al μ) c s ∧ ∀ b : Int, 0 ≤ b → b ≤ 5 → cnP μ s (pH (2 + b) c) 3000 = ftF (al μ) c b s
def KI (μ : Mm) : Prop := VB (al μ) ∧ CLn μ ∧ CHd μ ∧ FZ (al μ)
/-- what the core of the class leaves alone -/
def Fr (μ μ' : Mm) : Prop := ∀ (g : Nat) (r j : Int), (21 ≤ g ∧ g ≠ 35 ∧ g ≠ 37) → μ' g r j = μ g r j
theorem Fr_rf (μ : Mm) : Fr μ μ := fun _ _ _ _ => rfl
theorem Fr_tr {a b c : Mm} (h : Fr a b) (h' : Fr b c) : Fr a c := fun g r j q => (h' g r j q).trans (h g r j q)
theorem Fr_st {a b : Mm} (h : Fr a b) {f : Nat} {r i v : Int} (hf : f < 21 ∨ f = 35 ∨ f = 37) : Fr a (st b f r i v) := fun g t j q => (st_o (by omega)).trans (h g t j q)
/-! ===== sums of the machine -/
theorem w64_l (x y : Int) : w64 (w64 x + y) = w64 (x + y) := by unfold w64; exact Int.bmod_add_bmod
theorem w64_r (x y : Int) : w64 (x + w64 y) = w64 (x + y) := by unfold w64; exact Int.add_bmod_bmod
theorem w64_a (x y z : Int) : w64 (w64 (x + y) + z) = w64 (x + w64 (y + z)) := by rw [w64_l, w64_r, Int.add_assoc]
theorem w64_0 (x : Int) : w64 (x + w64 0) = w64 x := by rw [w64_r, Int.add_zero]
theorem w64_w (x : Int) : w64 (w64 x) = w64 x := by unfold w64; exact Int.bmod_bmod

