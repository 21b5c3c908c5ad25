/-! ===== the order in which is borrowed; borrowing, giving back, calling back, as functions ===== -/
def ltL (f : Int → Int) (x y : Int) : Prop := f x < f y ∨ (f x = f y ∧ x < y)
def insL (f : Int → Int) (x : Int) : List Int → List Int
  | [] => [x]
  | y :: l => if f x < f y ∨ (f x = f y ∧ x < y) then x :: y :: l else y :: insL f x l
def ordL (f : Int → Int) : List Int := insL f 0 (insL f 1 (insL f 2 (insL f 3 [])))
def feeF (μ : Mm) (s : Int) : Int → Int := fun l => μ 46 0 (4 * l + s)
def srcs (μ : Mm) (s : Int) : List Int := [0, 1, 2, 3, 4, 5] ++ (ordL (feeF μ s)).map (10 + ·)
def hdL : List Int → Int
  | [] => -1
  | x :: _ => x
theorem insL_mem {f : Int → Int} {x z : Int} : ∀ {l : List Int}, z ∈ insL f x l ↔ z = x ∨ z ∈ l
  | [] => by simp [insL]
  | y :: l => by
    unfold insL
    split
    · simp
    · rw [List.mem_cons, insL_mem, List.mem_cons]
      constructor
      · rintro (h | h | h)
        · exact Or.inr (Or.inl h)
        · exact Or.inl h
        · exact Or.inr (Or.inr h)
      · rintro (h | h | h)
        · exact Or.inr (Or.inl h)
        · exact Or.inl h
        · exact Or.inr (Or.inr h)
theorem insL_len {f : Int → Int} {x : Int} : ∀ {l : List Int}, (insL f x l).length = l.length + 1
  | [] => rfl
  | y :: l => by
    unfold insL
    split
    · rfl
    · show (insL f x l).length + 1 = _
      rw [insL_len]; rfl
theorem insL_pw {f : Int → Int} {x : Int} : ∀ {l : List Int}, l.Pairwise (ltL f) → (∀ y ∈ l, x ≠ y) → (insL f x l).Pairwise (ltL f)
  | [], _, _ => by simp [insL]
  | y :: l, h, hx => by
    have h1 := List.pairwise_cons.mp h
    unfold insL
    split
    · rename_i c
      refine List.pairwise_cons.mpr ⟨fun z hz => ?_, h⟩
      rcases List.mem_cons.mp hz with rfl | hz
      · exact c
      · have := h1.1 z hz
        unfold ltL at *
        omega
    · rename_i c
      refine List.pairwise_cons.mpr ⟨fun z hz => ?_, insL_pw h1.2 (fun z hz => hx z (List.mem_cons_of_mem _ hz))⟩
      rcases insL_mem.mp hz with rfl | hz
      · have := hx y List.mem_cons_self
        unfold ltL
        omega
      · exact h1.1 z hz
theorem ordL_4 (f : Int → Int) : ∃ a b c d : Int, ordL f = [a, b, c, d] ∧ ltL f a b ∧ ltL f b c ∧ ltL f c d ∧ (∀ k : Int, 0 ≤ k → k ≤ 3 → k = a ∨ k = b ∨ k = c ∨ k = d) ∧ (0 ≤ a ∧ a ≤ 3) ∧ (0 ≤ b ∧ b ≤ 3) ∧ (0 ≤ c ∧ c ≤ 3) ∧ (0 ≤ d ∧ d ≤ 3) := by
  have hl : (ordL f).length = 4 := by unfold ordL; simp [insL_len]
  have hm : ∀ k, k ∈ ordL f ↔ k = 0 ∨ k = 1 ∨ k = 2 ∨ k = 3 := by
    intro k
    unfold ordL
    simp [insL_mem]
  have hp : (ordL f).Pairwise (ltL f) := by
    unfold ordL
    refine insL_pw (insL_pw (insL_pw (insL_pw List.Pairwise.nil (by simp)) ?_) ?_) ?_ <;> (intro y hy; simp [insL_mem] at hy; omega)
  match hq : ordL f, hl with
  | [a, b, c, d], _ =>
    rw [hq] at hm hp
    have ha := (hm a).mp (by simp)
    have hb := (hm b).mp (by simp)
    have hc := (hm c).mp (by simp)
    have hd := (hm d).mp (by simp)
    simp only [List.pairwise_cons] at hp
    refine ⟨a, b, c, d, rfl, hp.1 b (by simp), hp.2.1 c (by simp), hp.2.2.1 d (by simp), fun k h0 h3 => ?_, by omega, by omega, by omega, by omega⟩
    have := (hm k).mpr (by omega)
    simpa using this
theorem nlS_spec (μ : Mm) (s last : Int) : ∀ n : Nat, (nlS μ s last n = -1 → ∀ k : Nat, k < n → ¬ (last = -1 ∨ ltL (feeF μ s) last k)) ∧ (nlS μ s last n ≠ -1 → (last = -1 ∨ ltL (feeF μ s) last (nlS μ s last n)) ∧ ∀ k : Nat, k < n → (last = -1 ∨ ltL (feeF μ s) last k) → ¬ ltL (feeF μ s) k (nlS μ s last n))
  | 0 => ⟨fun _ k hk => by omega, fun h => absurd rfl h⟩
  | n + 1 => by
    have ih := nlS_spec μ s last n
    have hr := nlS_rng μ s last n
    unfold nlS
    by_cases c : (last = -1 ∨ μ 46 0 (4 * last + s) < μ 46 0 (4 * (n : Int) + s) ∨ (μ 46 0 (4 * (n : Int) + s) = μ 46 0 (4 * last + s) ∧ last < (n : Int))) ∧ (nlS μ s last n = -1 ∨ μ 46 0 (4 * (n : Int) + s) < μ 46 0 (4 * nlS μ s last n + s))
    · rw [if_pos c]
      refine ⟨fun h => by omega, fun _ => ⟨?_, fun k hk hb => ?_⟩⟩
      · unfold ltL feeF; omega
      · rcases Nat.lt_or_ge k n with q | q
        · by_cases c2 : nlS μ s last n = -1
          · exact absurd hb (ih.1 c2 k q)
          · have := (ih.2 c2).2 k q hb
            unfold ltL feeF at *
            omega
        · have : k = n := by omega
          subst this
          unfold ltL
          omega
    · rw [if_neg c]
      refine ⟨fun h k hk => ?_, fun h => ⟨(ih.2 h).1, fun k hk hb => ?_⟩⟩
      · rcases Nat.lt_or_ge k n with q | q
        · exact ih.1 h k q
        · have : k = n := by omega
          subst this
          unfold ltL feeF
          omega
      · rcases Nat.lt_or_ge k n with q | q
        · exact (ih.2 h).2 k q hb
        · have : k = n := by omega
          subst this
          unfold ltL feeF at *
          omega
theorem nlF_is {μ : Mm} {s last y : Int} (hy : 0 ≤ y ∧ y ≤ 3) (h1 : last = -1 ∨ ltL (feeF μ s) last y) (h2 : ∀ z : Int, 0 ≤ z → z ≤ 3 → (last = -1 ∨ ltL (feeF μ s) last z) → z = y ∨ ltL (feeF μ s) y z) : nlF μ s last = y := by
  have hs := nlS_spec μ s last 4
  have hr := nlS_rng μ s last 4
  change (nlF μ s last = -1 → _) ∧ (nlF μ s last ≠ -1 → (_ ∨ ltL (feeF μ s) last (nlF μ s last)) ∧ ∀ k : Nat, k < 4 → _ → ¬ ltL (feeF μ s) k (nlF μ s last)) at hs
  change -1 ≤ nlF μ s last ∧ nlF μ s last < 4 at hr
  have hyn : ((y.toNat : Nat) : Int) = y := by omega
  by_cases c : nlF μ s last = -1
  · have := hs.1 c y.toNat (by omega)
    rw [hyn] at this
    exact absurd h1 this
  · obtain ⟨g1, g2⟩ := hs.2 c
    rcases h2 (nlF μ s last) (by omega) (by omega) g1 with e | e
    · exact e
    · have := g2 y.toNat (by omega) (by rw [hyn]; exact h1)
      rw [hyn] at this
      exact absurd e this
theorem nlF_no {μ : Mm} {s last : Int} (h : ∀ z : Int, 0 ≤ z → z ≤ 3 → ¬ (last = -1 ∨ ltL (feeF μ s) last z)) : nlF μ s last = -1 := by
  have hs := nlS_spec μ s last 4
  have hr := nlS_rng μ s last 4
  change (nlF μ s last = -1 → _) ∧ (nlF μ s last ≠ -1 → (_ ∨ ltL (feeF μ s) last (nlF μ s last)) ∧ _) at hs
  change -1 ≤ nlF μ s last ∧ nlF μ s last < 4 at hr
  by_cases c : nlF μ s last = -1
  · exact c
  · exact absurd (hs.2 c).1 (h _ (by omega) (by omega))
theorem ord4 (μ : Mm) (s : Int) : ∃ a b c d : Int, ordL (feeF μ s) = [a, b, c, d] ∧ nlF μ s (-1) = a ∧ nlF μ s a = b ∧ nlF μ s b = c ∧ nlF μ s c = d ∧ nlF μ s d = -1 ∧ (0 ≤ a ∧ a ≤ 3) ∧ (0 ≤ b ∧ b ≤ 3) ∧ (0 ≤ c ∧ c ≤ 3) ∧ (0 ≤ d ∧ d ≤ 3) := by
  obtain ⟨a, b, c, d, h0, h1, h2, h3, hk, ha, hb, hc, hd⟩ := ordL_4 (feeF μ s)
  refine ⟨a, b, c, d, h0, nlF_is ha (Or.inl rfl) (fun z z0 z3 _ => ?_), nlF_is hb (Or.inr h1) (fun z z0 z3 q => ?_), nlF_is hc (Or.inr h2) (fun z z0 z3 q => ?_), nlF_is hd (Or.inr h3) (fun z z0 z3 q => ?_), nlF_no (fun z z0 z3 q => ?_), ha, hb, hc, hd⟩ <;>
    (rcases hk z z0 z3 with rfl | rfl | rfl | rfl <;> unfold ltL at * <;> omega)
/-- the sources one behind the other -/
theorem beh_next {μ : Mm} {s : Int} {pre l : List Int} {x : Int} (h : srcs μ s = pre ++ x :: l) : behF μ s x = hdL l ∧ ((0 ≤ x ∧ x ≤ 5) ∨ (10 ≤ x ∧ x ≤ 13)) := by
  obtain ⟨a, b, c, d, h0, n0, n1, n2, n3, n4, ha, hb, hc, hd⟩ := ord4 μ s
  unfold srcs at h
  rw [h0] at h
  simp only [List.map_cons, List.map_nil, List.cons_append, List.nil_append] at h
  have key : ∀ y : Int, (0 ≤ y ∧ y ≤ 3) → behF μ s (10 + y) = if nlF μ s y = -1 then -1 else 10 + nlF μ s y := by
    intro y hy
    unfold behF
    rw [if_neg (by omega), show (if 10 + y < 10 then (-1 : Int) else 10 + y - 10) = y from by rw [if_neg (by omega)]; omega]
  match pre, h with
  | [], h => cases h; exact ⟨by unfold behF; rfl, by omega⟩
  | [_], h => cases h; exact ⟨by unfold behF; rfl, by omega⟩
  | [_, _], h => cases h; exact ⟨by unfold behF; rfl, by omega⟩
  | [_, _, _], h => cases h; exact ⟨by unfold behF; rfl, by omega⟩
  | [_, _, _, _], h => cases h; exact ⟨by unfold behF; rfl, by omega⟩
  | [_, _, _, _, _], h => cases h; exact ⟨by unfold behF; rw [if_neg (by omega), show (if (5 : Int) < 10 then (-1 : Int) else 5 - 10) = -1 from if_pos (by omega), n0, if_neg (by omega)]; rfl, by omega⟩
  | [_, _, _, _, _, _], h => cases h; exact ⟨by rw [key a ha, n1, if_neg (by omega)]; rfl, by omega⟩
  | [_, _, _, _, _, _, _], h => cases h; exact ⟨by rw [key b hb, n2, if_neg (by omega)]; rfl, by omega⟩
  | [_, _, _, _, _, _, _, _], h => cases h; exact ⟨by rw [key c hc, n3, if_neg (by omega)]; rfl, by omega⟩
  | [_, _, _, _, _, _, _, _, _], h => cases h; exact ⟨by rw [key d hd, n4, if_pos rfl]; rfl, by omega⟩
  | _ :: _ :: _ :: _ :: _ :: _ :: _ :: _ :: _ :: _ :: pre, h => simp at h

/-! ===== the functions ===== -/
def canL (μ : Mm) (b s : Int) : List Int → Int → Int → Int
  | [], _, n => n
  | x :: l, left, n => if 0 < left then canL μ b s l (if 0 < hasF μ x b s (-1) then left - 1 else left) (n + hasF μ x b s (-1)) else n
def canF (μ : Mm) (b s : Int) : Int := canL μ b s (srcs μ s) (1000 - μ 38 0 11) 0
/-- a loan of own shares from x to b -/
def mkLn (μ : Mm) (s x b own : Int) : Mm :=
  let m5 := st (st (st (st (st μ 48 0 (μ 38 0 11) s) 49 0 (μ 38 0 11) x) 50 0 (μ 38 0 11) b) 51 0 (μ 38 0 11) own) 52 0 (μ 38 0 11) (if x < 10 then 0 else μ 46 0 (4 * (x - 10) + s))
  let m6 := if x < 10 then m5 else st m5 45 0 (4 * (x - 10) + s) (μ 45 0 (4 * (x - 10) + s) - own)
  st m6 38 0 11 (μ 38 0 11 + 1)
def minI (a b : Int) : Int := if b < a then b else a
def borL (b s w : Int) : List Int → Mm → Int → Mm × Int
  | [], μ, rest => (μ, rest)
  | x :: l, μ, rest => if 0 < rest ∧ μ 38 0 11 < 1000 then (if 0 < minI (hasF μ x b s w) rest then borL b s w l (mkLn μ s x b (minI (hasF μ x b s w) rest)) (rest - minI (hasF μ x b s w) rest) else borL b s w l μ rest) else (μ, rest)
/-- borrowing: the memory behind it, and how much was wanting -/
def borF (μ : Mm) (b s want w : Int) : Mm × Int := borL b s w (srcs μ s) μ want
def bstF (μ : Mm) (c s : Int) : Nat → Int
  | 0 => -1
  | k + 1 => if (μ 50 0 k = c ∧ μ 48 0 k = s ∧ 0 < μ 51 0 k) ∧ (bstF μ c s k = -1 ∨ μ 52 0 (bstF μ c s k) ≤ μ 52 0 k) then (k : Int) else bstF μ c s k
/-- some of a loan come back -/
def backF (μ : Mm) (k own s : Int) : Mm :=
  let m1 := st μ 51 0 k (μ 51 0 k - own)
  if μ 49 0 k < 10 then m1 else st m1 45 0 (4 * (μ 49 0 k - 10) + s) (μ 45 0 (4 * (μ 49 0 k - 10) + s) + own)
def gbL (c s : Int) : Nat → Mm → Int → Mm
  | 0, μ, _ => μ
  | f + 1, μ, rest => if 0 < rest then gbL c s f (backF μ (bstF μ c s (μ 38 0 11).toNat) (minI (μ 51 0 (bstF μ c s (μ 38 0 11).toNat)) rest) s) (rest - minI (μ 51 0 (bstF μ c s (μ 38 0 11).toNat)) rest) else μ
def giveF (μ : Mm) (c s many : Int) : Mm := gbL c s many.toNat μ many
/-- one loan is called back: replaced, or bought in -/
def cbS (μ : Mm) (src s k own : Int) : Mm :=
  let r := borF (st μ 51 0 k (μ 51 0 k - own)) (μ 50 0 k) s own src
  let m2 := st r.1 42 0 (4 * r.1 50 0 k + s) (r.1 42 0 (4 * r.1 50 0 k + s) + r.2)
  let m3 := st m2 41 0 (r.1 50 0 k) (w64 (r.1 41 0 (r.1 50 0 k) - w64 ((w64 (w64 (w64 (r.2 * r.1 39 0 s) * 105) + 99)).tdiv 100)))
  st m3 38 0 28 (w64 (r.1 38 0 28 + r.2))
def cbL (src s : Int) : Nat → Mm → Int → Mm
  | 0, μ, _ => μ
  | k + 1, μ, rest => if 0 < rest then (if μ 49 0 k = src ∧ μ 48 0 k = s ∧ 0 < μ 51 0 k then cbL src s k (cbS μ src s k (minI (μ 51 0 k) rest)) (rest - minI (μ 51 0 k) rest) else cbL src s k μ rest) else μ
def callF (μ : Mm) (src s many : Int) : Mm := cbL src s (μ 38 0 11).toNat μ many
def buysF (μ : Mm) (c s n : Int) : Mm :=
  let a := giveF μ c s (if 0 ≤ μ 42 0 (4 * c + s) then 0 else if -μ 42 0 (4 * c + s) < n then -μ 42 0 (4 * c + s) else n)
  let m1 := st a 42 0 (4 * c + s) (a 42 0 (4 * c + s) + n)
  st m1 41 0 c (w64 (a 41 0 c - w64 (n * a 39 0 s)))
def sellsF (μ : Mm) (c s n : Int) : Mm :=
  let a := if partF μ c s < n then callF μ c s (n - partF μ c s) else μ
  let m1 := st a 42 0 (4 * c + s) (a 42 0 (4 * c + s) - n)
  st m1 41 0 c (w64 (a 41 0 c + w64 (n * a 39 0 s)))
def closeF (μ : Mm) (c s : Int) : Mm := if 0 < μ 42 0 (4 * c + s) then sellsF μ c s (μ 42 0 (4 * c + s)) else if μ 42 0 (4 * c + s) < 0 then buysF μ c s (-μ 42 0 (4 * c + s)) else μ
def worthF (μ : Mm) (c s : Int) : Int := if w64 (μ 42 0 (4 * c + s) * μ 39 0 s) < 0 then w64 (-w64 (μ 42 0 (4 * c + s) * μ 39 0 s)) else w64 (μ 42 0 (4 * c + s) * μ 39 0 s)
def eqL (μ : Mm) (c : Int) : Nat → Int
  | 0 => μ 41 0 c
  | k + 1 => w64 (eqL μ c k + w64 (μ 42 0 (4 * c + k) * μ 39 0 k))
def equityF (μ : Mm) (c : Int) : Int := eqL μ c 4
def allL (μ : Mm) (c : Int) : Nat → Int
  | 0 => 0
  | k + 1 => w64 (allL μ c k + worthF μ c k)
def neL (μ : Mm) (c : Int) : Nat → Int
  | 0 => 0
  | k + 1 => w64 (neL μ c k + w64 (w64 ((w64 (worthF μ c k * μ 40 0 k)).tdiv 100) + (if allL μ c 4 < w64 (2 * worthF μ c k) then w64 ((worthF μ c k).tdiv 10) else 0)))
def needF (μ : Mm) (c : Int) : Int := neL μ c 4
def calledF (μ : Mm) (c : Int) : Int := bi (equityF μ c < needF μ c)

