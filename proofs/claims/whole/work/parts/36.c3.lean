/-! ===== the class: whom to borrow from -/
def befR (m : Mm) (s x y : Int) : Prop := (x ≤ 5 ∧ (10 ≤ y ∨ x < y)) ∨ (10 ≤ x ∧ 10 ≤ y ∧ (m 46 0 (4 * (x - 10) + s) < m 46 0 (4 * (y - 10) + s) ∨ (m 46 0 (4 * (x - 10) + s) = m 46 0 (4 * (y - 10) + s) ∧ x < y)))
def aftR (m : Mm) (s last y : Int) : Prop := last = -1 ∨ befR m s last y
def NS (m : Mm) (s b w last y : Int) : Prop := (y = -1 ∧ ∀ z, srcR z → aftR m s last z → ¬ 0 < hasF m z b s w) ∨ ((srcR y ∧ aftR m s last y ∧ 0 < hasF m y b s w) ∧ ∀ z, srcR z → aftR m s last z → 0 < hasF m z b s w → z = y ∨ befR m s y z)
theorem srcs_pw (m : Mm) (s : Int) : (srcs m s).Pairwise (befR m s) := by
  obtain ⟨a, b, c, d, h0, h1, h2, h3, -, ha, hb, hc, hd⟩ := ordL_4 (feeF m s)
  unfold srcs
  rw [h0]
  simp only [List.map_cons, List.map_nil, List.cons_append, List.nil_append]
  unfold ltL feeF at h1 h2 h3
  have e : ∀ x : Int, 10 + x - 10 = x := fun x => by omega
  have key : ∀ x y : Int, (0 ≤ x ∧ x ≤ 3) → (0 ≤ y ∧ y ≤ 3) → (m 46 0 (4 * x + s) < m 46 0 (4 * y + s) ∨ (m 46 0 (4 * x + s) = m 46 0 (4 * y + s) ∧ x < y)) → befR m s (10 + x) (10 + y) := fun x y hx hy h => by
    unfold befR
    rw [e, e]
    exact Or.inr ⟨by omega, by omega, by omega⟩
  have kc : ∀ x y : Int, x ≤ 5 → (10 ≤ y ∨ x < y) → befR m s x y := fun x y hx hy => Or.inl ⟨hx, hy⟩
  refine List.pairwise_cons.mpr ⟨fun z hz => ?_, List.pairwise_cons.mpr ⟨fun z hz => ?_, List.pairwise_cons.mpr ⟨fun z hz => ?_, List.pairwise_cons.mpr ⟨fun z hz => ?_, List.pairwise_cons.mpr ⟨fun z hz => ?_, List.pairwise_cons.mpr ⟨fun z hz => ?_, List.pairwise_cons.mpr ⟨fun z hz => ?_, List.pairwise_cons.mpr ⟨fun z hz => ?_, List.pairwise_cons.mpr ⟨fun z hz => ?_, List.pairwise_cons.mpr ⟨fun z hz => ?_, List.Pairwise.nil⟩⟩⟩⟩⟩⟩⟩⟩⟩⟩ <;> simp only [List.mem_cons, List.not_mem_nil, or_false] at hz
  · exact kc _ _ (by omega) (by omega)
  · exact kc _ _ (by omega) (by omega)
  · exact kc _ _ (by omega) (by omega)
  · exact kc _ _ (by omega) (by omega)
  · exact kc _ _ (by omega) (by omega)
  · exact kc _ _ (by omega) (by omega)
  · rcases hz with rfl | rfl | rfl <;> exact key _ _ (by omega) (by omega) (by omega)
  · rcases hz with rfl | rfl <;> exact key _ _ (by omega) (by omega) (by omega)
  · subst hz; exact key _ _ (by omega) (by omega) (by omega)
theorem srcs_mem {m : Mm} {s z : Int} : z ∈ srcs m s ↔ srcR z := by
  constructor
  · exact fun h => srcs_rng m s z h
  · intro h
    obtain ⟨a, b, c, d, h0, -, -, -, hk, -⟩ := ordL_4 (feeF m s)
    unfold srcs
    rw [h0]
    simp only [List.map_cons, List.map_nil, List.cons_append, List.nil_append, List.mem_cons, List.not_mem_nil, or_false]
    have := hk (z - 10)
    unfold srcR at h
    omega
theorem bef_as {m : Mm} {s x y : Int} (hx : srcR x) (hy : srcR y) (h : befR m s x y) (h' : befR m s y x) : False := by
  unfold befR srcR at *
  omega
theorem bef_ir {m : Mm} {s x : Int} (hx : srcR x) (h : befR m s x x) : False := bef_as hx hx h h
/-- where a list of sources stands: behind last -/
def sfx (m : Mm) (s last : Int) (l : List Int) : Prop := (last = -1 ∧ l = srcs m s) ∨ ∃ pre, srcs m s = pre ++ last :: l
theorem sfx_mem {m : Mm} {s last z : Int} {l : List Int} (h : sfx m s last l) : z ∈ l ↔ srcR z ∧ aftR m s last z := by
  rcases h with ⟨h1, h2⟩ | ⟨pre, h⟩
  · rw [h2, srcs_mem]
    exact ⟨fun q => ⟨q, Or.inl h1⟩, fun q => q.1⟩
  · have hp := srcs_pw m s
    rw [h] at hp
    have hl : srcR last := srcs_mem.mp (by rw [h]; simp)
    have hp2 := List.pairwise_append.mp hp
    have hp3 := List.pairwise_cons.mp hp2.2.1
    constructor
    · intro hz
      exact ⟨srcs_mem.mp (by rw [h]; simp [hz]), Or.inr (hp3.1 z hz)⟩
    · rintro ⟨hz, ha⟩
      have ha : befR m s last z := by
        rcases ha with q | q
        · unfold srcR at hl; omega
        · exact q
      have hm : z ∈ pre ++ last :: l := by rw [← h]; exact srcs_mem.mpr hz
      rcases List.mem_append.mp hm with q | q
      · exact (bef_as hl hz ha (hp2.2.2 z q last List.mem_cons_self)).elim
      · rcases List.mem_cons.mp q with q | q
        · rw [q] at ha; exact (bef_ir hl ha).elim
        · exact q
theorem sfx_pw {m : Mm} {s last : Int} {l : List Int} (h : sfx m s last l) : l.Pairwise (befR m s) := by
  rcases h with ⟨-, h2⟩ | ⟨pre, h⟩
  · rw [h2]; exact srcs_pw m s
  · have hp := srcs_pw m s
    rw [h] at hp
    exact (List.pairwise_cons.mp (List.pairwise_append.mp hp).2.1).2
theorem sfx_to {m : Mm} {s last y : Int} {l1 l2 : List Int} (h : sfx m s last (l1 ++ y :: l2)) : sfx m s y l2 := by
  rcases h with ⟨-, h2⟩ | ⟨pre, h⟩
  · exact Or.inr ⟨l1, h2.symm⟩
  · exact Or.inr ⟨pre ++ last :: l1, by rw [h]; simp⟩
theorem ns_no {m : Mm} {s b w last : Int} {l : List Int} (h : NS m s b w last (-1)) (hl : sfx m s last l) : ∀ x ∈ l, ¬ 0 < hasF m x b s w := fun x hx => by
  rcases h with ⟨-, h⟩ | ⟨⟨h, -⟩, -⟩
  · have := (sfx_mem hl).mp hx
    exact h x this.1 this.2
  · unfold srcR at h; omega
theorem ns_at {m : Mm} {s b w last y : Int} {l : List Int} (h : NS m s b w last y) (hy : y ≠ -1) (hl : sfx m s last l) : srcR y ∧ 0 < hasF m y b s w ∧ ∃ l1 l2, l = l1 ++ y :: l2 ∧ sfx m s y l2 ∧ ∀ x ∈ l1, ¬ 0 < hasF m x b s w := by
  rcases h with ⟨h, -⟩ | ⟨⟨h1, h2, h3⟩, h4⟩
  · exact absurd h hy
  · obtain ⟨l1, l2, e⟩ := List.append_of_mem ((sfx_mem hl).mpr ⟨h1, h2⟩)
    refine ⟨h1, h3, l1, l2, e, sfx_to (by rw [← e]; exact hl), fun x hx hh => ?_⟩
    have hxm : x ∈ l := by rw [e]; simp [hx]
    have hxl := (sfx_mem hl).mp hxm
    have hp := sfx_pw hl
    rw [e] at hp
    have hb := (List.pairwise_append.mp hp).2.2 x hx y List.mem_cons_self
    rcases h4 x hxl.1 hxl.2 hh with q | q
    · rw [q] at hb; exact bef_ir h1 hb
    · exact bef_as h1 hxl.1 q hb
theorem borL_nc {b s w : Int} {l : List Int} {m : Mm} {rest : Int} (h : ¬ (0 < rest ∧ m 38 0 11 < 1000)) : borL b s w l m rest = (m, rest) := by
  cases l with
  | nil => rfl
  | cons x l => rw [borL, if_neg h]
theorem borL_sk {b s w : Int} {m : Mm} {rest : Int} {l2 : List Int} : ∀ {l1 : List Int}, (∀ x ∈ l1, ¬ 0 < hasF m x b s w) → borL b s w (l1 ++ l2) m rest = borL b s w l2 m rest
  | [], _ => rfl
  | x :: l1, h => by
    by_cases c : 0 < rest ∧ m 38 0 11 < 1000
    · have hx := h x List.mem_cons_self
      have hm := minI_le (hasF m x b s w) rest
      show borL b s w (x :: (l1 ++ l2)) m rest = _
      rw [borL, if_pos c, if_neg (by omega)]
      exact borL_sk (fun y hy => h y (List.mem_cons_of_mem _ hy))
    · rw [borL_nc c, borL_nc c]
theorem hasF_nn {m : Mm} (h : VB m) {x b s w : Int} (hx : srcR x) (hs : 0 ≤ s ∧ s ≤ 3) : 0 ≤ hasF m x b s w ∧ hasF m x b s w ≤ 1000000 := by
  have hg := Gk_of h.1 h.2.2.2 (4 * (x - 10) + s)
  have hp := fun q : 0 ≤ x ∧ x ≤ 5 => part_vb h q hs
  unfold srcR at hx
  unfold hasF
  split
  · omega
  · split
    · omega
    · split
      · have := hp (by omega); omega
      · omega
theorem canL_nc {b s : Int} {l : List Int} {m : Mm} {left n : Int} (h : ¬ 0 < left) : canL m b s l left n = n := by
  cases l with
  | nil => rfl
  | cons x l => rw [canL, if_neg h]
theorem canL_sk {b s : Int} {m : Mm} (hV : VB m) (hs : 0 ≤ s ∧ s ≤ 3) {l2 : List Int} : ∀ {l1 : List Int} {left n : Int}, (∀ x ∈ l1, srcR x) → (∀ x ∈ l1, ¬ 0 < hasF m x b s (-1)) → canL m b s (l1 ++ l2) left n = canL m b s l2 left n
  | [], _, _, _, _ => rfl
  | x :: l1, left, n, hr, h => by
    by_cases c : 0 < left
    · have hx := h x List.mem_cons_self
      have hn := hasF_nn hV (b := b) (w := -1) (hr x List.mem_cons_self) hs
      show canL m b s (x :: (l1 ++ l2)) left n = _
      rw [canL, if_pos c, if_neg hx, show n + hasF m x b s (-1) = n by omega]
      exact canL_sk hV hs (fun y hy => hr y (List.mem_cons_of_mem _ hy)) (fun y hy => h y (List.mem_cons_of_mem _ hy))
    · rw [canL_nc c, canL_nc c]
/-- what a source has, nobody left out -/
def thF (m : Mm) (x s : Int) : Int := if x < 10 then partF m x s else m 45 0 (4 * (x - 10) + s)
theorem has_th {m : Mm} {x b s w : Int} (h : 0 < hasF m x b s w) : thF m x s = hasF m x b s w ∧ x ≠ b ∧ x ≠ w := by
  have hn := has_ne h
  refine ⟨?_, hn.2, hn.1⟩
  unfold hasF thF at *
  have hno : ¬ (x = w ∨ x = b) := by omega
  rw [if_neg hno] at h ⊢
  by_cases c : x < 10
  · have hc : ¬ 10 ≤ x := by omega
    rw [if_pos c, if_neg hc]
    rw [if_neg hc] at h
    split at h
    · rename_i q; rw [if_pos q]
    · omega
  · have hc : 10 ≤ x := by omega
    rw [if_neg c, if_pos hc]
theorem thF_rng {m : Mm} (h : VB m) {x s : Int} (hx : srcR x) (hs : 0 ≤ s ∧ s ≤ 3) : 0 ≤ thF m x s ∧ thF m x s ≤ 1000000 := by
  have hg := Gk_of h.1 h.2.2.2 (4 * (x - 10) + s)
  have hp := fun q : 0 ≤ x ∧ x ≤ 5 => part_vb h q hs
  unfold srcR at hx
  unfold thF
  split
  · have := hp (by omega); omega
  · omega
/-- a client's has, from the class's rows -/
theorem has_cl {μ : Mm} (h : KI μ) {c s : Int} (hc : 0 ≤ c ∧ c ≤ 5) (hs : 0 ≤ s ∧ s ≤ 3) (b w : Int) : 0 < hasF (al μ) c b s w ↔ c ≠ b ∧ c ≠ w ∧ μ 4 0 c ≠ 0 ∧ 0 < partF (al μ) c s := by
  have hz := h.2.2.2 c s hc.1 hc.2 hs.1 hs.2
  have hp := part_vb h.1 hc hs
  have e44 := al_r44 μ c
  have e43 := al_43 μ c
  unfold hasF
  rw [if_neg (show ¬ 10 ≤ c by omega), e43]
  by_cases f : μ 5 0 c ≠ 0
  · rw [if_pos f]
    have := hp.2.2 (by rw [hz (by omega)]; omega)
    constructor
    · intro q
      split at q
      · omega
      · rw [if_neg (by omega)] at q; omega
    · omega
  · rw [if_neg f]
    constructor
    · intro q
      split at q
      · omega
      · split at q
        · exact ⟨by omega, by omega, by assumption, q⟩
        · omega
    · rintro ⟨q1, q2, q3, q4⟩
      rw [if_neg (by omega), if_pos q3]; exact q4
theorem has_le {μ : Mm} {l s : Int} (hl : 0 ≤ l ∧ l ≤ 3) (hs : 0 ≤ s ∧ s ≤ 3) {b : Int} (hb : 0 ≤ b ∧ b ≤ 5) (w : Int) : 0 < hasF (al μ) (10 + l) b s w ↔ 10 + l ≠ w ∧ 0 < μ 9 l s := by
  unfold hasF
  rw [if_pos (show 10 ≤ 10 + l by omega), show 10 + l - 10 = l by omega, al_45 hs]
  constructor
  · intro q
    split at q
    · omega
    · exact ⟨by omega, q⟩
  · rintro ⟨q1, q2⟩
    rw [if_neg (by omega)]; exact q2
/-! ### Primeborrow.comesBehind -/
def cl_X4_comesBehind : Cl := (4, 0, fun σ as μ => as = [vR 0 0, vI (iaI as 1), vI (iaI as 2), vI (iaI as 3)] ∧ (KI μ ∧ (0 ≤ (iaI as 1) ∧ (iaI as 1) ≤ 3) ∧ (0 ≤ (iaI as 3) ∧ (iaI as 3) ≤ 3) ∧ (-1 ≤ (iaI as 2) ∧ (iaI as 2) ≤ 100)), fun σ as μ ov μ' => ov = some (vI (bi (((iaI as 2) < 10 ∨ 13 < (iaI as 2)) ∨ (μ 11 ((iaI as 2) - 10) (iaI as 3) < μ 11 (iaI as 1) (iaI as 3) ∨ (μ 11 ((iaI as 2) - 10) (iaI as 3) = μ 11 (iaI as 1) (iaI as 3) ∧ (iaI as 2) - 10 < (iaI as 1)))))) ∧ μ' = μ, fun σ as μ k => False)
def cd_X4_comesBehind : Cd := mkcd k_X4_comesBehind co_X4 fl_X4 [] [] [] [] 6 3 0
set_option maxHeartbeats 4000000 in
set_option maxRecDepth 20000 in
theorem run_X4_comesBehind {ER : Option AV → Mm → Prop} {ET : Nat → Mm → Prop} (σ μ : Mm) (l last s : Int) (hM : MR fam0 μ) (h_l : in32 l) (h_last : in32 last) (h_s : in32 s) (hP : KI μ ∧ (0 ≤ l ∧ l ≤ 3) ∧ (0 ≤ s ∧ s ≤ 3) ∧ (-1 ≤ last ∧ last ≤ 100)) (hER : ∀ ov μ', (ov = some (vI (bi ((last < 10 ∨ 13 < last) ∨ (μ 11 (last - 10) s < μ 11 l s ∨ (μ 11 (last - 10) s = μ 11 l s ∧ last - 10 < l))))) ∧ μ' = μ) → ER ov μ') : Run fam0 none cd_X4_comesBehind ER ET 0 0 [some (vR 0 0), some (vI l), some (vI last), some (vI s), none, none] [] μ := by
  obtain ⟨hK, hl, hs, hla⟩ := hP
  have k1 := ki_len hK hl hs
  have k2 : 10 ≤ last → last ≤ 13 → _ := fun q1 q2 => ki_len hK (l := last - 10) (s := s) (by omega) hs
  refine run_k 6 ?_
  show ((w32 (last - 10)) < 0 → Run fam0 none cd_X4_comesBehind ER ET 17 0 [some (vR 0 0), some (vI l), some (vI last), some (vI s), some (vI (w32 (last - 10))), none] [] μ) ∧ (0 ≤ (w32 (last - 10)) → Run fam0 none cd_X4_comesBehind ER ET 11 0 [some (vR 0 0), some (vI l), some (vI last), some (vI s), some (vI (w32 (last - 10))), none] [] μ)
  rw [show w32 (last - 10) = last - 10 from w32_id (by simp only [in32]; omega)]
  refine ⟨fun c1 => ?_, fun c1 => ?_⟩
  · refine run_k 2 ?_
    show (1 = 0 ∨ 1 = 1) ∧ ER (some (vI 1)) μ
    refine ⟨by omega, ?_⟩
    exact hER _ _ ⟨by first | rw [bi_t (by omega)] | rw [bi_f (by omega)], rfl⟩
  · refine run_k 3 ?_
    show ((last - 10) < 4 → Run fam0 none cd_X4_comesBehind ER ET 19 0 [some (vR 0 0), some (vI l), some (vI last), some (vI s), some (vI (last - 10)), none] [] μ) ∧ (4 ≤ (last - 10) → Run fam0 none cd_X4_comesBehind ER ET 17 0 [some (vR 0 0), some (vI l), some (vI last), some (vI s), some (vI (last - 10)), none] [] μ)
    refine ⟨fun c3 => ?_, fun c3 => ?_⟩
    · refine run_k 16 ?_
      show (0 ≤ l ∧ l < 4) ∧ ((0 ≤ s ∧ s < 4) ∧ ((0 ≤ (last - 10) ∧ (last - 10) < 4) ∧ ((0 ≤ s ∧ s < 4) ∧ ((0 < (w32 ((μ 11 l s) - (μ 11 (last - 10) s))) → Run fam0 none cd_X4_comesBehind ER ET 55 0 [some (vR 0 0), some (vI l), some (vI last), some (vI s), some (vI (last - 10)), some (vI (w32 ((μ 11 l s) - (μ 11 (last - 10) s))))] [] μ) ∧ ((w32 ((μ 11 l s) - (μ 11 (last - 10) s))) ≤ 0 → Run fam0 none cd_X4_comesBehind ER ET 44 0 [some (vR 0 0), some (vI l), some (vI last), some (vI s), some (vI (last - 10)), some (vI (w32 ((μ 11 l s) - (μ 11 (last - 10) s))))] [] μ)))))
      rw [show w32 ((μ 11 l s) - (μ 11 (last - 10) s)) = (μ 11 l s) - (μ 11 (last - 10) s) from w32_id (by simp only [in32]; omega)]
      refine ⟨by omega, ?_⟩
      refine ⟨by omega, ?_⟩
      refine ⟨by omega, ?_⟩
      refine ⟨by omega, ?_⟩
      refine ⟨fun c4 => ?_, fun c4 => ?_⟩
      · refine run_k 3 ?_
        show (1 = 0 ∨ 1 = 1) ∧ ER (some (vI 1)) μ
        refine ⟨by omega, ?_⟩
        exact hER _ _ ⟨by first | rw [bi_t (by omega)] | rw [bi_f (by omega)], rfl⟩
      · refine run_k 2 ?_
        show (((μ 11 l s) - (μ 11 (last - 10) s)) ≠ 0 → Run fam0 none cd_X4_comesBehind ER ET 59 0 [some (vR 0 0), some (vI l), some (vI last), some (vI s), some (vI (last - 10)), some (vI ((μ 11 l s) - (μ 11 (last - 10) s)))] [] μ) ∧ (((μ 11 l s) - (μ 11 (last - 10) s)) = 0 → Run fam0 none cd_X4_comesBehind ER ET 49 0 [some (vR 0 0), some (vI l), some (vI last), some (vI s), some (vI (last - 10)), some (vI ((μ 11 l s) - (μ 11 (last - 10) s)))] [] μ)
        refine ⟨fun c6 => ?_, fun c6 => ?_⟩
        · refine run_k 2 ?_
          show (0 = 0 ∨ 0 = 1) ∧ ER (some (vI 0)) μ
          refine ⟨by omega, ?_⟩
          exact hER _ _ ⟨by first | rw [bi_t (by omega)] | rw [bi_f (by omega)], rfl⟩
        · refine run_k 3 ?_
          show (l ≤ (last - 10) → Run fam0 none cd_X4_comesBehind ER ET 59 0 [some (vR 0 0), some (vI l), some (vI last), some (vI s), some (vI (last - 10)), some (vI ((μ 11 l s) - (μ 11 (last - 10) s)))] [] μ) ∧ ((last - 10) < l → Run fam0 none cd_X4_comesBehind ER ET 55 0 [some (vR 0 0), some (vI l), some (vI last), some (vI s), some (vI (last - 10)), some (vI ((μ 11 l s) - (μ 11 (last - 10) s)))] [] μ)
          refine ⟨fun c8 => ?_, fun c8 => ?_⟩
          · refine run_k 2 ?_
            show (0 = 0 ∨ 0 = 1) ∧ ER (some (vI 0)) μ
            refine ⟨by omega, ?_⟩
            exact hER _ _ ⟨by first | rw [bi_t (by omega)] | rw [bi_f (by omega)], rfl⟩
          · refine run_k 3 ?_
            show (1 = 0 ∨ 1 = 1) ∧ ER (some (vI 1)) μ
            refine ⟨by omega, ?_⟩
            exact hER _ _ ⟨by first | rw [bi_t (by omega)] | rw [bi_f (by omega)], rfl⟩
    · refine run_k 2 ?_
      show (1 = 0 ∨ 1 = 1) ∧ ER (some (vI 1)) μ
      refine ⟨by omega, ?_⟩
      exact hER _ _ ⟨by first | rw [bi_t (by omega)] | rw [bi_f (by omega)], rfl⟩
set_option maxRecDepth 20000 in
theorem con_X4_comesBehind (l : Launch) (htr : l.stackTraces = false) (σ : Mm) : CON fam0 63 l yX4_comesBehind (Cond.code yX4_comesBehind cX4_comesBehind 6 (some .boolean) :: wm) 0 0 0 (cl_X4_comesBehind.2.2.1 σ) (cl_X4_comesBehind.2.2.2.1 σ) (cl_X4_comesBehind.2.2.2.2 σ) :=
  con_of (cd := cd_X4_comesBehind) (own := RX4) (rk := 3) (sc_of htr (by decide) k_X4_comesBehind_ok (by decide +kernel) co_X4_ok fl_X4_ok all_nil all_nil all_nil) rfl (by decide +kernel) rfl rfl rfl rfl (fun as μ hs => by rw [hs.1]; exact Nat.le_of_ble_eq_true rfl)
    (fun as μ hs hM hrg => by
      have hs1 := hs.1
      have hmem : ∀ v, v ∈ ([vR 0 0, vI (iaI as 1), vI (iaI as 2), vI (iaI as 3)] : List AV) → rg fam0 v := by rw [← hs1]; exact hrg
      have key := run_X4_comesBehind (ER := cl_X4_comesBehind.2.2.2.1 σ as μ) (ET := fun k μ' => cl_X4_comesBehind.2.2.2.2 σ as μ k ∧ μ' = μ) σ μ (iaI as 1) (iaI as 2) (iaI as 3) hM (hmem (vI (iaI as 1)) (by simp)) (hmem (vI (iaI as 2)) (by simp)) (hmem (vI (iaI as 3)) (by simp)) hs.2 (fun ov μ' h => h)
      have e : entL as 6 = [some (vR 0 0), some (vI (iaI as 1)), some (vI (iaI as 2)), some (vI (iaI as 3)), none, none] := by rw [hs1]; rfl
      rw [e]; exact key)
/-! ### Primeborrow.there -/
def cl_X4_there : Cl := (3, 0, fun σ as μ => as = [vR 0 0, vI (iaI as 1), vI (iaI as 2)] ∧ (KI μ ∧ srcR (iaI as 1) ∧ (0 ≤ (iaI as 2) ∧ (iaI as 2) ≤ 3)), fun σ as μ ov μ' => ov = some (vI (thF (al μ) (iaI as 1) (iaI as 2))) ∧ μ' = μ, fun σ as μ k => False)
def cd_X4_there : Cd := mkcd k_X4_there co_X4 fl_X4 [(173, cl_X4_inBox)] [] [] [] 3 1 0
set_option maxHeartbeats 4000000 in
set_option maxRecDepth 20000 in
theorem run_X4_there {ER : Option AV → Mm → Prop} {ET : Nat → Mm → Prop} (σ μ : Mm) (x s : Int) (hM : MR fam0 μ) (h_x : in32 x) (h_s : in32 s) (hP : KI μ ∧ srcR x ∧ (0 ≤ s ∧ s ≤ 3)) (hER : ∀ ov μ', (ov = some (vI (thF (al μ) x s)) ∧ μ' = μ) → ER ov μ') : Run fam0 none cd_X4_there ER ET 0 0 [some (vR 0 0), some (vI x), some (vI s)] [] μ := by
  obtain ⟨hK, hx, hs⟩ := hP
  have hx2 := hx
  unfold srcR at hx2
  have e45 := al_45 (μ := μ) (c := x - 10) hs
  refine run_k 3 ?_
  show (10 ≤ x → Run fam0 none cd_X4_there ER ET 15 0 [some (vR 0 0), some (vI x), some (vI s)] [] μ) ∧ (x < 10 → Run fam0 none cd_X4_there ER ET 6 0 [some (vR 0 0), some (vI x), some (vI s)] [] μ)
  refine ⟨fun c1 => ?_, fun c1 => ?_⟩
  · refine run_k 9 ?_
    show (0 ≤ (w32 (x - 10)) ∧ (w32 (x - 10)) < 4) ∧ ((0 ≤ s ∧ s < 4) ∧ (ER (some (vI (μ 9 (w32 (x - 10)) s))) μ))
    rw [show w32 (x - 10) = x - 10 from w32_id (by simp only [in32]; omega)]
    refine ⟨by omega, ?_⟩
    refine ⟨by omega, ?_⟩
    exact hER _ _ ⟨by unfold thF; first | rw [if_pos (by omega)] | (rw [if_neg (by omega), e45]), rfl⟩
  · refine run_k 4 ?_
    show ∃ σ : Mm, cl_X4_inBox.2.2.1 σ [vR 0 0, vI x, vI s] μ ∧ (∀ ov μ', cl_X4_inBox.2.2.2.1 σ [vR 0 0, vI x, vI s] μ ov μ' → Run fam0 none cd_X4_there ER ET 12 0 [some (vR 0 0), some (vI x), some (vI s)] (ov.toList ++ []) μ') ∧ ∀ kx, cl_X4_inBox.2.2.2.2 σ [vR 0 0, vI x, vI s] μ kx → thr cd_X4_there ET (Run fam0 none cd_X4_there ER ET) 9 0 [some (vR 0 0), some (vI x), some (vI s)] μ kx
    refine ⟨μ, ⟨rfl, show KI μ ∧ (0 ≤ x ∧ x ≤ 5) ∧ (0 ≤ s ∧ s ≤ 3) from ⟨by assumption, by omega, by omega⟩⟩, fun ov μ' hq => ?_, fun k hk => hk.elim⟩
    obtain ⟨hov, hmu⟩ : ov = some (vI (partF (al μ) x s)) ∧ μ' = μ := hq
    rw [hov, hmu]
    show Run fam0 none cd_X4_there ER ET 12 0 [some (vR 0 0), some (vI x), some (vI s)] [vI (partF (al μ) x s)] μ
    refine run_k 2 ?_
    show ER (some (vI (partF (al μ) x s))) μ
    exact hER _ _ ⟨by unfold thF; first | rw [if_pos (by omega)] | (rw [if_neg (by omega), e45]), rfl⟩
theorem vw_X4_173 : ∀ w ∈ ([.methodLink RX4 173 yX4_inBox, .instanceMethod yX4_inBox, .selects RX4 yX4_inBox yX4_inBox, .initialized RX4, .code yX4_inBox cX4_inBox 4 (some .int)] : List Cond), w ∈ wm := wm_ps _ [468, 470, 11, 50, 471] (by decide +kernel)
set_option maxRecDepth 20000 in
theorem con_X4_there (l : Launch) (htr : l.stackTraces = false) (σ : Mm) : CON fam0 63 l yX4_there (Cond.code yX4_there cX4_there 3 (some .int) :: wm) 1 23 0 (cl_X4_there.2.2.1 σ) (cl_X4_there.2.2.2.1 σ) (cl_X4_there.2.2.2.2 σ) :=
  con_of (cd := cd_X4_there) (own := RX4) (rk := 1) (sc_of htr (by decide) k_X4_there_ok (by decide +kernel) co_X4_ok fl_X4_ok (all_cons ⟨RX4, yX4_inBox, cX4_inBox, 4, (some .int), 0, 0, 2, con_X4_inBox l htr, rfl, vw_X4_173, ⟨rfl, by decide, by decide, by decide +kernel⟩, ⟨by decide, by decide⟩, fun σ as μ h => ⟨0, 0, _, h.1, rfl, TX4, 17, rfl⟩⟩ all_nil) all_nil all_nil) rfl (by decide +kernel) rfl rfl rfl rfl (fun as μ hs => by rw [hs.1]; exact Nat.le_of_ble_eq_true rfl)
    (fun as μ hs hM hrg => by
      have hs1 := hs.1
      have hmem : ∀ v, v ∈ ([vR 0 0, vI (iaI as 1), vI (iaI as 2)] : List AV) → rg fam0 v := by rw [← hs1]; exact hrg
      have key := run_X4_there (ER := cl_X4_there.2.2.2.1 σ as μ) (ET := fun k μ' => cl_X4_there.2.2.2.2 σ as μ k ∧ μ' = μ) σ μ (iaI as 1) (iaI as 2) hM (hmem (vI (iaI as 1)) (by simp)) (hmem (vI (iaI as 2)) (by simp)) hs.2 (fun ov μ' h => h)
      have e : entL as 3 = [some (vR 0 0), some (vI (iaI as 1)), some (vI (iaI as 2))] := by rw [hs1]; rfl
      rw [e]; exact key)
def avL (μ : Mm) (s w last z : Int) : Prop := (10 + z ≠ w ∧ 0 < μ 9 z s ∧ ((last < 10 ∨ 13 < last) ∨ (μ 11 (last - 10) s < μ 11 z s ∨ (μ 11 (last - 10) s = μ 11 z s ∧ last - 10 < z))))
def bsI (μ : Mm) (s w last : Int) (k : Nat) (best : Int) : Prop := (-1 ≤ best ∧ best < (k : Int)) ∧ (best = -1 → ∀ z : Int, 0 ≤ z → z < k → ¬ avL μ s w last z) ∧ (best ≠ -1 → avL μ s w last best ∧ ∀ z : Int, 0 ≤ z → z < k → avL μ s w last z → z = best ∨ (μ 11 best s < μ 11 z s ∨ (μ 11 best s = μ 11 z s ∧ best < z)))
theorem bsI_no {μ : Mm} {s w last : Int} {k : Nat} {best : Int} (h : bsI μ s w last k best) (hn : ¬ avL μ s w last k ∨ (best ≠ -1 ∧ μ 11 best s ≤ μ 11 (k : Int) s)) : bsI μ s w last (k + 1) best := by
  obtain ⟨h0, h1, h2⟩ := h
  refine ⟨by omega, fun e z z0 z1 => ?_, fun e => ⟨(h2 e).1, fun z z0 z1 hz => ?_⟩⟩
  · by_cases q : z = k
    · rcases hn with hn | hn
      · rw [q]; exact hn
      · exact absurd e hn.1
    · exact h1 e z z0 (by omega)
  · by_cases q : z = k
    · rcases hn with hn | hn
      · rw [q] at hz; exact absurd hz hn
      · rw [q]; omega
    · exact (h2 e).2 z z0 (by omega) hz
theorem bsI_mv {μ : Mm} {s w last : Int} {k : Nat} {best : Int} (h : bsI μ s w last k best) (hn : avL μ s w last k ∧ (best = -1 ∨ μ 11 (k : Int) s < μ 11 best s)) : bsI μ s w last (k + 1) k := by
  obtain ⟨h0, h1, h2⟩ := h
  refine ⟨by omega, fun e => by omega, fun _ => ⟨hn.1, fun z z0 z1 hz => ?_⟩⟩
  by_cases q : z = k
  · exact Or.inl q
  · by_cases e : best = -1
    · exact absurd hz (h1 e z z0 (by omega))
    · have := (h2 e).2 z z0 (by omega) hz
      rcases hn.2 with r | r
      · exact absurd r e
      · right; rcases this with t | t
        · rw [t]; omega
        · omega
theorem aft_l {μ : Mm} {s last z : Int} (hs : 0 ≤ s ∧ s ≤ 3) (hz : 0 ≤ z ∧ z ≤ 3) (hl : last = -1 ∨ srcR last) : aftR (al μ) s last (10 + z) ↔ ((last < 10 ∨ 13 < last) ∨ (μ 11 (last - 10) s < μ 11 z s ∨ (μ 11 (last - 10) s = μ 11 z s ∧ last - 10 < z))) := by
  unfold aftR befR
  rw [show 10 + z - 10 = z by omega, al_46 hs, al_46 hs]
  unfold srcR at hl
  omega
theorem ns_c {μ : Mm} (hK : KI μ) {s b w last c : Int} (hs : 0 ≤ s ∧ s ≤ 3) (hc : 0 ≤ c ∧ c ≤ 5) (hl : last = -1 ∨ srcR last) (hlc : last < c) (hh : 0 < hasF (al μ) c b s w) (hp : ∀ z : Int, 0 ≤ z → last < z → z < c → ¬ 0 < hasF (al μ) z b s w) : NS (al μ) s b w last c := by
  refine Or.inr ⟨⟨Or.inl hc, ?_, hh⟩, fun z hz ha h0 => ?_⟩
  · unfold aftR befR; unfold srcR at hl; omega
  · by_cases q : z < c
    · have := hp z
      unfold aftR befR at ha
      unfold srcR at hl hz
      exact absurd h0 (this (by omega) (by omega) q)
    · unfold befR; unfold srcR at hz; omega
theorem ns_l {μ : Mm} (hK : KI μ) {s b w last y : Int} (hs : 0 ≤ s ∧ s ≤ 3) (hb : 0 ≤ b ∧ b ≤ 5) (hl : last = -1 ∨ srcR last) (hp : ∀ z : Int, 0 ≤ z → last < z → z ≤ 5 → ¬ 0 < hasF (al μ) z b s w) (h : bsI μ s w last 4 y) : NS (al μ) s b w last (if y = -1 then -1 else 10 + y) := by
  obtain ⟨h0, h1, h2⟩ := h
  have ka : ∀ z : Int, 0 ≤ z → z ≤ 3 → (avL μ s w last z ↔ 0 < hasF (al μ) (10 + z) b s w ∧ aftR (al μ) s last (10 + z)) := fun z z0 z1 => by
    rw [has_le ⟨z0, z1⟩ hs hb w, aft_l hs ⟨z0, z1⟩ hl]
    unfold avL
    omega
  have kz : ∀ z, srcR z → aftR (al μ) s last z → 0 < hasF (al μ) z b s w → ∃ u : Int, z = 10 + u ∧ 0 ≤ u ∧ u ≤ 3 ∧ avL μ s w last u := fun z hz ha hh => by
    by_cases q : z ≤ 5
    · exfalso
      have := hp z
      unfold aftR befR at ha
      unfold srcR at hl hz
      exact this (by omega) (by omega) q hh
    · refine ⟨z - 10, by omega, by unfold srcR at hz; omega, by unfold srcR at hz; omega, ?_⟩
      rw [ka _ (by unfold srcR at hz; omega) (by unfold srcR at hz; omega), show 10 + (z - 10) = z by omega]
      exact ⟨hh, ha⟩
  by_cases e : y = -1
  · rw [if_pos e]
    refine Or.inl ⟨rfl, fun z hz ha hh => ?_⟩
    obtain ⟨u, -, u0, u1, hu⟩ := kz z hz ha hh
    exact h1 e u u0 (by omega) hu
  · rw [if_neg e]
    have h3 := h2 e
    have h4 := (ka y (by omega) (by omega)).mp h3.1
    refine Or.inr ⟨⟨by unfold srcR; omega, h4.2, h4.1⟩, fun z hz ha hh => ?_⟩
    obtain ⟨u, rfl, u0, u1, hu⟩ := kz z hz ha hh
    rcases h3.2 u u0 (by omega) hu with q | q
    · left; rw [q]
    · right
      unfold befR
      rw [show 10 + u - 10 = u by omega, show 10 + y - 10 = y by omega, al_46 hs, al_46 hs]
      omega
/-! ### Primeborrow.nextSource -/
def cl_X4_nextSource : Cl := (5, 0, fun σ as μ => as = [vR 0 0, vI (iaI as 1), vI (iaI as 2), vI (iaI as 3), vI (iaI as 4)] ∧ (KI μ ∧ (0 ≤ (iaI as 1) ∧ (iaI as 1) ≤ 3) ∧ (0 ≤ (iaI as 2) ∧ (iaI as 2) ≤ 5) ∧ ((iaI as 4) = -1 ∨ srcR (iaI as 4))), fun σ as μ ov μ' => ∃ y, ov = some (vI y) ∧ μ' = μ ∧ NS (al μ) (iaI as 1) (iaI as 2) (iaI as 3) (iaI as 4) y, fun σ as μ k => False)
def cd_X4_nextSource : Cd := mkcd k_X4_nextSource co_X4 fl_X4 [(173, cl_X4_inBox), (280, cl_X4_comesBehind)] [(253, cl_J9_max_7cf53)] [] [] 7 1 0
set_option maxHeartbeats 4000000 in
set_option maxRecDepth 20000 in
theorem run_X4_nextSource {ER : Option AV → Mm → Prop} {ET : Nat → Mm → Prop} (σ μ : Mm) (s b w last : Int) (hM : MR fam0 μ) (h_s : in32 s) (h_b : in32 b) (h_w : in32 w) (h_last : in32 last) (hP : KI μ ∧ (0 ≤ s ∧ s ≤ 3) ∧ (0 ≤ b ∧ b ≤ 5) ∧ (last = -1 ∨ srcR last)) (hER : ∀ ov μ', (∃ y, ov = some (vI y) ∧ μ' = μ ∧ NS (al μ) s b w last y) → ER ov μ') : Run fam0 none cd_X4_nextSource ER ET 0 0 [some (vR 0 0), some (vI s), some (vI b), some (vI w), some (vI last), none, none] [] μ := by
  obtain ⟨hK, hs, hb, hla⟩ := hP
  have hla2 := hla
  unfold srcR at hla2
  have hmx := maxI_le 0 (last + 1)
  refine run_k 5 ?_
  show ∃ σ : Mm, cl_J9_max_7cf53.2.2.1 σ [vI 0, vI (w32 (last + 1))] μ ∧ (∀ ov μ', cl_J9_max_7cf53.2.2.2.1 σ [vI 0, vI (w32 (last + 1))] μ ov μ' → Run fam0 none cd_X4_nextSource ER ET 8 0 [some (vR 0 0), some (vI s), some (vI b), some (vI w), some (vI last), none, none] (ov.toList ++ []) μ') ∧ ∀ kx, cl_J9_max_7cf53.2.2.2.2 σ [vI 0, vI (w32 (last + 1))] μ kx → thr cd_X4_nextSource ET (Run fam0 none cd_X4_nextSource ER ET) 5 0 [some (vR 0 0), some (vI s), some (vI b), some (vI w), some (vI last), none, none] μ kx
  rw [show w32 (last + 1) = last + 1 from w32_id (by simp only [in32]; omega)]
  refine ⟨μ, ⟨rfl, show True from True.intro⟩, fun ov μ' hq => ?_, fun k hk => hk.elim⟩
  obtain ⟨hov, hmu⟩ : ov = some (vI (maxI 0 (last + 1))) ∧ μ' = μ := hq
  rw [hov, hmu]
  show Run fam0 none cd_X4_nextSource ER ET 8 0 [some (vR 0 0), some (vI s), some (vI b), some (vI w), some (vI last), none, none] [vI (maxI 0 (last + 1))] μ
  refine run_k 1 ?_
  show Run fam0 none cd_X4_nextSource ER ET 10 0 [some (vR 0 0), some (vI s), some (vI b), some (vI w), some (vI last), some (vI (maxI 0 (last + 1))), none] [] μ
  have lp10 : ∀ (fz : Nat) (c : Int), (7 - c).toNat < fz → (0 ≤ c ∧ last < c ∧ (c ≤ 6 ∨ 10 ≤ last) ∧ c ≤ 100 ∧ ∀ z : Int, 0 ≤ z → last < z → z < c → ¬ 0 < hasF (al μ) z b s w) → Run fam0 none cd_X4_nextSource ER ET 10 0 [some (vR 0 0), some (vI s), some (vI b), some (vI w), some (vI last), some (vI c), none] [] μ := by
    intro fz
    induction fz with
    | zero => intro c hf; omega
    | succ fz ih10 =>
      intro c hf hI
      obtain ⟨hc0, hlc, hc6, hc9, hpv⟩ := hI
      refine run_k 3 ?_
      show (6 ≤ c → Run fam0 none cd_X4_nextSource ER ET 58 0 [some (vR 0 0), some (vI s), some (vI b), some (vI w), some (vI last), some (vI c), none] [] μ) ∧ (c < 6 → Run fam0 none cd_X4_nextSource ER ET 17 0 [some (vR 0 0), some (vI s), some (vI b), some (vI w), some (vI last), some (vI c), none] [] μ)
      refine ⟨fun c3 => ?_, fun c3 => ?_⟩
      · refine run_k 4 ?_
        show Run fam0 none cd_X4_nextSource ER ET 64 0 [some (vR 0 0), some (vI s), some (vI b), some (vI w), some (vI last), some (vI (-1)), some (vI 0)] [] μ
        have lp64 : ∀ (fz : Nat) (k : Nat) (y : Int), (4 - k) < fz → (k ≤ 4 ∧ bsI μ s w last k y) → Run fam0 none cd_X4_nextSource ER ET 64 0 [some (vR 0 0), some (vI s), some (vI b), some (vI w), some (vI last), some (vI y), some (vI (k : Int))] [] μ := by
          intro fz
          induction fz with
          | zero => intro k y hf; omega
          | succ fz ih64 =>
            intro k y hf hI
            obtain ⟨hk1, hbs⟩ := hI
            have hb0 := hbs.1
            refine run_k 3 ?_
            show (4 ≤ (k : Int) → Run fam0 none cd_X4_nextSource ER ET 140 0 [some (vR 0 0), some (vI s), some (vI b), some (vI w), some (vI last), some (vI y), some (vI (k : Int))] [] μ) ∧ ((k : Int) < 4 → Run fam0 none cd_X4_nextSource ER ET 70 0 [some (vR 0 0), some (vI s), some (vI b), some (vI w), some (vI last), some (vI y), some (vI (k : Int))] [] μ)
            refine ⟨fun c5 => ?_, fun c5 => ?_⟩
            · refine run_k 3 ?_
              show (y ≠ (-1) → Run fam0 none cd_X4_nextSource ER ET 150 0 [some (vR 0 0), some (vI s), some (vI b), some (vI w), some (vI last), some (vI y), some (vI (k : Int))] [] μ) ∧ (y = (-1) → Run fam0 none cd_X4_nextSource ER ET 146 0 [some (vR 0 0), some (vI s), some (vI b), some (vI w), some (vI last), some (vI y), some (vI (k : Int))] [] μ)
              refine ⟨fun c6 => ?_, fun c6 => ?_⟩
              · refine run_k 4 ?_
                show ER (some (vI (w32 (10 + y)))) μ
                rw [show w32 (10 + y) = 10 + y from w32_id (by simp only [in32]; omega)]
                have hns := ns_l (y := y) hK hs hb hla (fun z z0 z1 z2 => hpv z z0 z1 (by omega)) (by rw [show 4 = k by omega]; exact hbs)
                rw [if_neg (by omega)] at hns
                exact hER _ _ ⟨_, rfl, rfl, hns⟩
              · refine run_k 3 ?_
                show ER (some (vI (-1))) μ
                have hns := ns_l (y := y) hK hs hb hla (fun z z0 z1 z2 => hpv z z0 z1 (by omega)) (by rw [show 4 = k by omega]; exact hbs)
                rw [if_pos (by omega)] at hns
                exact hER _ _ ⟨_, rfl, rfl, hns⟩
            · refine run_k 5 ?_
              show ((w32 (10 + (k : Int))) = w → Run fam0 none cd_X4_nextSource ER ET 134 0 [some (vR 0 0), some (vI s), some (vI b), some (vI w), some (vI last), some (vI y), some (vI (k : Int))] [] μ) ∧ ((w32 (10 + (k : Int))) ≠ w → Run fam0 none cd_X4_nextSource ER ET 79 0 [some (vR 0 0), some (vI s), some (vI b), some (vI w), some (vI last), some (vI y), some (vI (k : Int))] [] μ)
              rw [show w32 (10 + (k : Int)) = 10 + (k : Int) from w32_id (by simp only [in32]; omega)]
              refine ⟨fun c9 => ?_, fun c9 => ?_⟩
              · refine run_k 2 ?_
                show Run fam0 none cd_X4_nextSource ER ET 64 0 [some (vR 0 0), some (vI s), some (vI b), some (vI w), some (vI last), some (vI y), some (vI (w32 ((k : Int) + 1)))] [] μ
                rw [show w32 ((k : Int) + 1) = (k : Int) + 1 from w32_id (by simp only [in32]; omega)]
                exact ih64 (k + 1) y (by omega) (⟨by omega, bsI_no hbs (by first | exact Or.inl (by unfold avL; omega) | exact Or.inr ⟨by omega, by omega⟩)⟩)
              · refine run_k 7 ?_
                show (0 ≤ (k : Int) ∧ (k : Int) < 4) ∧ ((0 ≤ s ∧ s < 4) ∧ (((μ 9 (k : Int) s) ≤ 0 → Run fam0 none cd_X4_nextSource ER ET 134 0 [some (vR 0 0), some (vI s), some (vI b), some (vI w), some (vI last), some (vI y), some (vI (k : Int))] [] μ) ∧ (0 < (μ 9 (k : Int) s) → Run fam0 none cd_X4_nextSource ER ET 91 0 [some (vR 0 0), some (vI s), some (vI b), some (vI w), some (vI last), some (vI y), some (vI (k : Int))] [] μ)))
                refine ⟨by omega, ?_⟩
                refine ⟨by omega, ?_⟩
                refine ⟨fun c11 => ?_, fun c11 => ?_⟩
                · refine run_k 2 ?_
                  show Run fam0 none cd_X4_nextSource ER ET 64 0 [some (vR 0 0), some (vI s), some (vI b), some (vI w), some (vI last), some (vI y), some (vI (w32 ((k : Int) + 1)))] [] μ
                  rw [show w32 ((k : Int) + 1) = (k : Int) + 1 from w32_id (by simp only [in32]; omega)]
                  exact ih64 (k + 1) y (by omega) (⟨by omega, bsI_no hbs (by first | exact Or.inl (by unfold avL; omega) | exact Or.inr ⟨by omega, by omega⟩)⟩)
                · refine run_k 5 ?_
                  show ∃ σ : Mm, cl_X4_comesBehind.2.2.1 σ [vR 0 0, vI (k : Int), vI last, vI s] μ ∧ (∀ ov μ', cl_X4_comesBehind.2.2.2.1 σ [vR 0 0, vI (k : Int), vI last, vI s] μ ov μ' → Run fam0 none cd_X4_nextSource ER ET 100 0 [some (vR 0 0), some (vI s), some (vI b), some (vI w), some (vI last), some (vI y), some (vI (k : Int))] (ov.toList ++ []) μ') ∧ ∀ kx, cl_X4_comesBehind.2.2.2.2 σ [vR 0 0, vI (k : Int), vI last, vI s] μ kx → thr cd_X4_nextSource ET (Run fam0 none cd_X4_nextSource ER ET) 97 0 [some (vR 0 0), some (vI s), some (vI b), some (vI w), some (vI last), some (vI y), some (vI (k : Int))] μ kx
                  refine ⟨μ, ⟨rfl, show KI μ ∧ (0 ≤ ((k : Int)) ∧ ((k : Int)) ≤ 3) ∧ (0 ≤ s ∧ s ≤ 3) ∧ (-1 ≤ last ∧ last ≤ 100) from ⟨by assumption, by omega, by omega, by omega⟩⟩, fun ov μ' hq => ?_, fun k hk => hk.elim⟩
                  obtain ⟨hov, hmu⟩ : ov = some (vI (bi ((last < 10 ∨ 13 < last) ∨ (μ 11 (last - 10) s < μ 11 ((k : Int)) s ∨ (μ 11 (last - 10) s = μ 11 ((k : Int)) s ∧ last - 10 < ((k : Int))))))) ∧ μ' = μ := hq
                  rw [hov, hmu]
                  show Run fam0 none cd_X4_nextSource ER ET 100 0 [some (vR 0 0), some (vI s), some (vI b), some (vI w), some (vI last), some (vI y), some (vI (k : Int))] [vI (bi ((last < 10 ∨ 13 < last) ∨ (μ 11 (last - 10) s < μ 11 ((k : Int)) s ∨ (μ 11 (last - 10) s = μ 11 ((k : Int)) s ∧ last - 10 < ((k : Int))))))] μ
                  refine run_k 1 ?_
                  show ((bi ((last < 10 ∨ 13 < last) ∨ (μ 11 (last - 10) s < μ 11 ((k : Int)) s ∨ (μ 11 (last - 10) s = μ 11 ((k : Int)) s ∧ last - 10 < ((k : Int)))))) = 0 → Run fam0 none cd_X4_nextSource ER ET 134 0 [some (vR 0 0), some (vI s), some (vI b), some (vI w), some (vI last), some (vI y), some (vI (k : Int))] [] μ) ∧ ((bi ((last < 10 ∨ 13 < last) ∨ (μ 11 (last - 10) s < μ 11 ((k : Int)) s ∨ (μ 11 (last - 10) s = μ 11 ((k : Int)) s ∧ last - 10 < ((k : Int)))))) ≠ 0 → Run fam0 none cd_X4_nextSource ER ET 103 0 [some (vR 0 0), some (vI s), some (vI b), some (vI w), some (vI last), some (vI y), some (vI (k : Int))] [] μ)
                  refine ⟨fun c14 => ?_, fun c14 => ?_⟩
                  · replace c14 := (bi_e0.mp c14)
                    refine run_k 2 ?_
                    show Run fam0 none cd_X4_nextSource ER ET 64 0 [some (vR 0 0), some (vI s), some (vI b), some (vI w), some (vI last), some (vI y), some (vI (w32 ((k : Int) + 1)))] [] μ
                    rw [show w32 ((k : Int) + 1) = (k : Int) + 1 from w32_id (by simp only [in32]; omega)]
                    exact ih64 (k + 1) y (by omega) (⟨by omega, bsI_no hbs (by first | exact Or.inl (by unfold avL; omega) | exact Or.inr ⟨by omega, by omega⟩)⟩)
                  · replace c14 := (bi_n0.mp c14)
                    refine run_k 3 ?_
                    show (y = (-1) → Run fam0 none cd_X4_nextSource ER ET 130 0 [some (vR 0 0), some (vI s), some (vI b), some (vI w), some (vI last), some (vI y), some (vI (k : Int))] [] μ) ∧ (y ≠ (-1) → Run fam0 none cd_X4_nextSource ER ET 109 0 [some (vR 0 0), some (vI s), some (vI b), some (vI w), some (vI last), some (vI y), some (vI (k : Int))] [] μ)
                    refine ⟨fun c16 => ?_, fun c16 => ?_⟩
                    · refine run_k 4 ?_
                      show Run fam0 none cd_X4_nextSource ER ET 64 0 [some (vR 0 0), some (vI s), some (vI b), some (vI w), some (vI last), some (vI (k : Int)), some (vI (w32 ((k : Int) + 1)))] [] μ
                      rw [show w32 ((k : Int) + 1) = (k : Int) + 1 from w32_id (by simp only [in32]; omega)]
                      exact ih64 (k + 1) (k : Int) (by omega) (⟨by omega, bsI_mv hbs ⟨by unfold avL; omega, by omega⟩⟩)
                    · refine run_k 13 ?_
                      show (0 ≤ (k : Int) ∧ (k : Int) < 4) ∧ ((0 ≤ s ∧ s < 4) ∧ ((0 ≤ y ∧ y < 4) ∧ ((0 ≤ s ∧ s < 4) ∧ (((μ 11 y s) ≤ (μ 11 (k : Int) s) → Run fam0 none cd_X4_nextSource ER ET 134 0 [some (vR 0 0), some (vI s), some (vI b), some (vI w), some (vI last), some (vI y), some (vI (k : Int))] [] μ) ∧ ((μ 11 (k : Int) s) < (μ 11 y s) → Run fam0 none cd_X4_nextSource ER ET 130 0 [some (vR 0 0), some (vI s), some (vI b), some (vI w), some (vI last), some (vI y), some (vI (k : Int))] [] μ)))))
                      refine ⟨by omega, ?_⟩
                      refine ⟨by omega, ?_⟩
                      refine ⟨by omega, ?_⟩
                      refine ⟨by omega, ?_⟩
                      refine ⟨fun c18 => ?_, fun c18 => ?_⟩
                      · refine run_k 2 ?_
                        show Run fam0 none cd_X4_nextSource ER ET 64 0 [some (vR 0 0), some (vI s), some (vI b), some (vI w), some (vI last), some (vI y), some (vI (w32 ((k : Int) + 1)))] [] μ
                        rw [show w32 ((k : Int) + 1) = (k : Int) + 1 from w32_id (by simp only [in32]; omega)]
                        exact ih64 (k + 1) y (by omega) (⟨by omega, bsI_no hbs (by first | exact Or.inl (by unfold avL; omega) | exact Or.inr ⟨by omega, by omega⟩)⟩)
                      · refine run_k 4 ?_
                        show Run fam0 none cd_X4_nextSource ER ET 64 0 [some (vR 0 0), some (vI s), some (vI b), some (vI w), some (vI last), some (vI (k : Int)), some (vI (w32 ((k : Int) + 1)))] [] μ
                        rw [show w32 ((k : Int) + 1) = (k : Int) + 1 from w32_id (by simp only [in32]; omega)]
                        exact ih64 (k + 1) (k : Int) (by omega) (⟨by omega, bsI_mv hbs ⟨by unfold avL; omega, by omega⟩⟩)
        exact lp64 _ 0 (-1) (Nat.lt_succ_self _) (⟨by omega, ⟨by omega, fun _ z z0 z1 => by omega, fun q => absurd rfl q⟩⟩)
      · have hkh := has_cl hK (c := c) (s := s) (by omega) hs b w
        refine run_k 3 ?_
        show (c = b → Run fam0 none cd_X4_nextSource ER ET 52 0 [some (vR 0 0), some (vI s), some (vI b), some (vI w), some (vI last), some (vI c), none] [] μ) ∧ (c ≠ b → Run fam0 none cd_X4_nextSource ER ET 23 0 [some (vR 0 0), some (vI s), some (vI b), some (vI w), some (vI last), some (vI c), none] [] μ)
        refine ⟨fun c21 => ?_, fun c21 => ?_⟩
        · refine run_k 2 ?_
          show Run fam0 none cd_X4_nextSource ER ET 10 0 [some (vR 0 0), some (vI s), some (vI b), some (vI w), some (vI last), some (vI (w32 (c + 1))), none] [] μ
          rw [show w32 (c + 1) = c + 1 from w32_id (by simp only [in32]; omega)]
          exact ih10 (c + 1) (by omega) (⟨by omega, by omega, by omega, by omega, fun z z0 z1 z2 => by
                by_cases q : z = c
                · rw [q, hkh]; omega
                · exact hpv z z0 z1 (by omega)⟩)
        · refine run_k 3 ?_
          show (c = w → Run fam0 none cd_X4_nextSource ER ET 52 0 [some (vR 0 0), some (vI s), some (vI b), some (vI w), some (vI last), some (vI c), none] [] μ) ∧ (c ≠ w → Run fam0 none cd_X4_nextSource ER ET 29 0 [some (vR 0 0), some (vI s), some (vI b), some (vI w), some (vI last), some (vI c), none] [] μ)
          refine ⟨fun c23 => ?_, fun c23 => ?_⟩
          · refine run_k 2 ?_
            show Run fam0 none cd_X4_nextSource ER ET 10 0 [some (vR 0 0), some (vI s), some (vI b), some (vI w), some (vI last), some (vI (w32 (c + 1))), none] [] μ
            rw [show w32 (c + 1) = c + 1 from w32_id (by simp only [in32]; omega)]
            exact ih10 (c + 1) (by omega) (⟨by omega, by omega, by omega, by omega, fun z z0 z1 z2 => by
                  by_cases q : z = c
                  · rw [q, hkh]; omega
                  · exact hpv z z0 z1 (by omega)⟩)
          · refine run_k 5 ?_
            show (0 ≤ c ∧ c < 6) ∧ (((μ 4 0 c) = 0 → Run fam0 none cd_X4_nextSource ER ET 52 0 [some (vR 0 0), some (vI s), some (vI b), some (vI w), some (vI last), some (vI c), none] [] μ) ∧ ((μ 4 0 c) ≠ 0 → Run fam0 none cd_X4_nextSource ER ET 39 0 [some (vR 0 0), some (vI s), some (vI b), some (vI w), some (vI last), some (vI c), none] [] μ))
            refine ⟨by omega, ?_⟩
            refine ⟨fun c25 => ?_, fun c25 => ?_⟩
            · refine run_k 2 ?_
              show Run fam0 none cd_X4_nextSource ER ET 10 0 [some (vR 0 0), some (vI s), some (vI b), some (vI w), some (vI last), some (vI (w32 (c + 1))), none] [] μ
              rw [show w32 (c + 1) = c + 1 from w32_id (by simp only [in32]; omega)]
              exact ih10 (c + 1) (by omega) (⟨by omega, by omega, by omega, by omega, fun z z0 z1 z2 => by
                    by_cases q : z = c
                    · rw [q, hkh]; omega
                    · exact hpv z z0 z1 (by omega)⟩)
            · refine run_k 4 ?_
              show ∃ σ : Mm, cl_X4_inBox.2.2.1 σ [vR 0 0, vI c, vI s] μ ∧ (∀ ov μ', cl_X4_inBox.2.2.2.1 σ [vR 0 0, vI c, vI s] μ ov μ' → Run fam0 none cd_X4_nextSource ER ET 46 0 [some (vR 0 0), some (vI s), some (vI b), some (vI w), some (vI last), some (vI c), none] (ov.toList ++ []) μ') ∧ ∀ kx, cl_X4_inBox.2.2.2.2 σ [vR 0 0, vI c, vI s] μ kx → thr cd_X4_nextSource ET (Run fam0 none cd_X4_nextSource ER ET) 43 0 [some (vR 0 0), some (vI s), some (vI b), some (vI w), some (vI last), some (vI c), none] μ kx
              refine ⟨μ, ⟨rfl, show KI μ ∧ (0 ≤ c ∧ c ≤ 5) ∧ (0 ≤ s ∧ s ≤ 3) from ⟨by assumption, by omega, by omega⟩⟩, fun ov μ' hq => ?_, fun k hk => hk.elim⟩
              obtain ⟨hov, hmu⟩ : ov = some (vI (partF (al μ) c s)) ∧ μ' = μ := hq
              rw [hov, hmu]
              show Run fam0 none cd_X4_nextSource ER ET 46 0 [some (vR 0 0), some (vI s), some (vI b), some (vI w), some (vI last), some (vI c), none] [vI (partF (al μ) c s)] μ
              refine run_k 1 ?_
              show ((partF (al μ) c s) ≤ 0 → Run fam0 none cd_X4_nextSource ER ET 52 0 [some (vR 0 0), some (vI s), some (vI b), some (vI w), some (vI last), some (vI c), none] [] μ) ∧ (0 < (partF (al μ) c s) → Run fam0 none cd_X4_nextSource ER ET 49 0 [some (vR 0 0), some (vI s), some (vI b), some (vI w), some (vI last), some (vI c), none] [] μ)
              refine ⟨fun c28 => ?_, fun c28 => ?_⟩
              · refine run_k 2 ?_
                show Run fam0 none cd_X4_nextSource ER ET 10 0 [some (vR 0 0), some (vI s), some (vI b), some (vI w), some (vI last), some (vI (w32 (c + 1))), none] [] μ
                rw [show w32 (c + 1) = c + 1 from w32_id (by simp only [in32]; omega)]
                exact ih10 (c + 1) (by omega) (⟨by omega, by omega, by omega, by omega, fun z z0 z1 z2 => by
                      by_cases q : z = c
                      · rw [q, hkh]; omega
                      · exact hpv z z0 z1 (by omega)⟩)
              · refine run_k 2 ?_
                show ER (some (vI c)) μ
                refine hER _ _ ⟨_, rfl, rfl, ?_⟩
                exact ns_c hK hs (by omega) hla (by omega) ((has_cl hK (c := c) (by omega) hs b w).mpr ⟨by omega, by omega, by omega, by omega⟩) (fun z z0 z1 z2 => hpv z z0 z1 z2)
  exact lp10 _ (maxI 0 (last + 1)) (Nat.lt_succ_self _) (⟨by omega, by omega, by omega, by omega, fun z z0 z1 z2 => by omega⟩)
theorem vw_X4_280 : ∀ w ∈ ([.methodLink RX4 280 yX4_comesBehind, .instanceMethod yX4_comesBehind, .selects RX4 yX4_comesBehind yX4_comesBehind, .initialized RX4, .code yX4_comesBehind cX4_comesBehind 6 (some .boolean)] : List Cond), w ∈ wm := wm_ps _ [472, 474, 12, 50, 475] (by decide +kernel)
set_option maxRecDepth 20000 in
theorem con_X4_nextSource (l : Launch) (htr : l.stackTraces = false) (σ : Mm) : CON fam0 63 l yX4_nextSource (Cond.code yX4_nextSource cX4_nextSource 7 (some .int) :: wm) 1 25 0 (cl_X4_nextSource.2.2.1 σ) (cl_X4_nextSource.2.2.2.1 σ) (cl_X4_nextSource.2.2.2.2 σ) :=
  con_of (cd := cd_X4_nextSource) (own := RX4) (rk := 1) (sc_of htr (by decide) k_X4_nextSource_ok (by decide +kernel) co_X4_ok fl_X4_ok (all_cons ⟨RX4, yX4_inBox, cX4_inBox, 4, (some .int), 0, 0, 2, con_X4_inBox l htr, rfl, vw_X4_173, ⟨rfl, by decide, by decide, by decide +kernel⟩, ⟨by decide, by decide⟩, fun σ as μ h => ⟨0, 0, _, h.1, rfl, TX4, 17, rfl⟩⟩ (all_cons ⟨RX4, yX4_comesBehind, cX4_comesBehind, 6, (some .boolean), 0, 0, 3, con_X4_comesBehind l htr, rfl, vw_X4_280, ⟨rfl, by decide, by decide, by decide +kernel⟩, ⟨by decide, by decide⟩, fun σ as μ h => ⟨0, 0, _, h.1, rfl, TX4, 17, rfl⟩⟩ all_nil)) (all_cons ⟨yJ9_max_7cf53, cJ9_max_7cf53, 2, (some .int), 0, 0, con_J9_max_7cf53 l htr, vw_X4_253, ⟨by decide, by decide, by decide +kernel⟩, ⟨by decide, by decide⟩⟩ all_nil) all_nil) rfl (by decide +kernel) rfl rfl rfl rfl (fun as μ hs => by rw [hs.1]; exact Nat.le_of_ble_eq_true rfl)
    (fun as μ hs hM hrg => by
      have hs1 := hs.1
      have hmem : ∀ v, v ∈ ([vR 0 0, vI (iaI as 1), vI (iaI as 2), vI (iaI as 3), vI (iaI as 4)] : List AV) → rg fam0 v := by rw [← hs1]; exact hrg
      have key := run_X4_nextSource (ER := cl_X4_nextSource.2.2.2.1 σ as μ) (ET := fun k μ' => cl_X4_nextSource.2.2.2.2 σ as μ k ∧ μ' = μ) σ μ (iaI as 1) (iaI as 2) (iaI as 3) (iaI as 4) hM (hmem (vI (iaI as 1)) (by simp)) (hmem (vI (iaI as 2)) (by simp)) (hmem (vI (iaI as 3)) (by simp)) (hmem (vI (iaI as 4)) (by simp)) hs.2 (fun ov μ' h => h)
      have e : entL as 7 = [some (vR 0 0), some (vI (iaI as 1)), some (vI (iaI as 2)), some (vI (iaI as 3)), some (vI (iaI as 4)), none, none] := by rw [hs1]; rfl
      rw [e]; exact key)
