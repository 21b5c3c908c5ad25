/-! ===== numbers of the machine by whole numbers ===== -/
abbrev in32 (x : Int) : Prop := -2147483648 ≤ x ∧ x ≤ 2147483647
abbrev in64 (x : Int) : Prop := -9223372036854775808 ≤ x ∧ x ≤ 9223372036854775807
theorem in32_w (x : Int) : in32 (w32 x) := by
  simp only [in32, w32, Int.bmod]
  constructor <;> split <;> omega
theorem in64_w (x : Int) : in64 (w64 x) := by
  simp only [in64, w64, Int.bmod]
  constructor <;> split <;> omega
theorem w32_id {x : Int} (h : in32 x) : w32 x = x := by
  simp only [in32] at h
  simp only [w32, Int.bmod]
  split <;> omega
theorem w64_id {x : Int} (h : in64 x) : w64 x = x := by
  simp only [in64] at h
  simp only [w64, Int.bmod]
  split <;> omega
theorem i32_T {x : Int} (h : in32 x) : (Int32.ofInt x).toInt = x := Int32.toInt_ofInt_of_le (by have := h.1; omega) (by have := h.2; omega)
theorem i64_T {x : Int} (h : in64 x) : (Int64.ofInt x).toInt = x := Int64.toInt_ofInt_of_le (by have := h.1; omega) (by have := h.2; omega)
theorem i32_w (x : Int) : Int32.ofInt (w32 x) = Int32.ofInt x := by
  apply Int32.toInt_inj.mp
  rw [i32_T (in32_w x), Int32.toInt_ofInt]
  rfl
theorem i64_w (x : Int) : Int64.ofInt (w64 x) = Int64.ofInt x := by
  apply Int64.toInt_inj.mp
  rw [i64_T (in64_w x), Int64.toInt_ofInt]
  rfl
theorem i32_eq {x y : Int} (hx : in32 x) (hy : in32 y) : Int32.ofInt x = Int32.ofInt y ↔ x = y := by
  rw [← Int32.toInt_inj, i32_T hx, i32_T hy]
theorem i32_lt {x y : Int} (hx : in32 x) (hy : in32 y) : Int32.ofInt x < Int32.ofInt y ↔ x < y := by
  rw [Int32.lt_iff_toInt_lt, i32_T hx, i32_T hy]
theorem i32_le {x y : Int} (hx : in32 x) (hy : in32 y) : Int32.ofInt x ≤ Int32.ofInt y ↔ x ≤ y := by
  rw [Int32.le_iff_toInt_le, i32_T hx, i32_T hy]
theorem i64_eq {x y : Int} (hx : in64 x) (hy : in64 y) : Int64.ofInt x = Int64.ofInt y ↔ x = y := by
  rw [← Int64.toInt_inj, i64_T hx, i64_T hy]
theorem i64_lt {x y : Int} (hx : in64 x) (hy : in64 y) : Int64.ofInt x < Int64.ofInt y ↔ x < y := by
  rw [Int64.lt_iff_toInt_lt, i64_T hx, i64_T hy]
theorem i32_nat {x : Int} (h0 : 0 ≤ x) (h : in32 x) : (Int32.ofInt x).toNatClampNeg = x.toNat := by
  rw [← Int32.toNat_toInt, i32_T h]
theorem i32_in {x : Int} {n : Nat} (h0 : 0 ≤ x) (hn : x < n) (h : in32 x) : vp_in (Int32.ofInt x) n := by
  rw [vp_in_iff, i32_T h]
  exact ⟨h0, hn⟩
theorem i32_l {x : Int} (h : in32 x) : (Int32.ofInt x).toInt64 = Int64.ofInt x := by
  apply Int64.toInt_inj.mp
  rw [Int32.toInt_toInt64, i32_T h, i64_T ⟨by have := h.1; omega, by have := h.2; omega⟩]
theorem i64_div {x y : Int} (hx : in64 x) (hy : in64 y) : Int64.ofInt x / Int64.ofInt y = Int64.ofInt (w64 (x.tdiv y)) := by
  apply Int64.toInt_inj.mp
  rw [Int64.toInt_div, i64_T hx, i64_T hy, i64_T (in64_w _)]
  rfl
theorem i64_cmp {x y : Int} (hx : in64 x) (hy : in64 y) : lg_cmp (Int64.ofInt x) (Int64.ofInt y) = Int32.ofInt (cmpL x y) := by
  unfold lg_cmp cmpL
  by_cases h1 : y < x
  · rw [if_pos ((i64_lt hy hx).mpr h1), if_pos h1]; rfl
  · rw [if_neg (fun q => h1 ((i64_lt hy hx).mp q)), if_neg h1]
    by_cases h2 : x = y
    · rw [if_pos (by rw [h2]), if_pos h2]; rfl
    · rw [if_neg (fun q => h2 ((i64_eq hx hy).mp q)), if_neg h2]; rfl
theorem in32_cmp (x y : Int) : in32 (cmpL x y) := by
  unfold cmpL in32
  split
  · omega
  · split <;> omega
theorem i32_and31 (x : Int) : Int32.ofInt x &&& Int32.ofInt 31 = Int32.ofInt (x % 32) := by
  rw [show Int32.ofInt 31 = (31 : Int32) from rfl, pk_and _ 5 (by decide)]
  unfold nI
  rw [Int32.toBitVec_ofInt, BitVec.toNat_ofInt, ← Int32.ofInt_eq_ofNat]
  congr 1
  omega
/-! ===== locals ===== -/
def cv (ad : Nat → Nat → Nat) : AV → Value
  | Sum.inl x => .int (Int32.ofInt x)
  | Sum.inr (Sum.inl x) => .long (Int64.ofInt x)
  | Sum.inr (Sum.inr (Sum.inl (f, r))) => .ref (ad f r.toNat)
  | Sum.inr (Sum.inr (Sum.inr a)) => .ref a
def rg (fam : Nat → Fam) : AV → Prop
  | Sum.inl x => in32 x
  | Sum.inr (Sum.inl x) => in64 x
  | Sum.inr (Sum.inr (Sum.inl (f, r))) => 0 ≤ r ∧ r < (fam f).2.1
  | Sum.inr (Sum.inr (Sum.inr _)) => True
def lvl (ad : Nat → Nat → Nat) : Nat → Lo → List (Nat × Value)
  | _, [] => []
  | i, none :: L => lvl ad (i + 1) L
  | i, some v :: L => (i, cv ad v) :: lvl ad (i + 1) L
theorem mem_lvl {ad : Nat → Nat → Nat} {q : Nat × Value} : ∀ {L : Lo} {i : Nat}, q ∈ lvl ad i L ↔ ∃ k v, nthO L k = some v ∧ q = (i + k, cv ad v)
  | [], i => by
    constructor
    · intro h; cases h
    · rintro ⟨k, v, h, -⟩; cases k <;> cases h
  | none :: L, i => by
    show q ∈ lvl ad (i + 1) L ↔ _
    rw [mem_lvl]
    constructor
    · rintro ⟨k, v, h, rfl⟩
      exact ⟨k + 1, v, h, by rw [show i + 1 + k = i + (k + 1) by omega]⟩
    · rintro ⟨k, v, h, rfl⟩
      cases k with
      | zero => cases h
      | succ k => exact ⟨k, v, h, by rw [show i + 1 + k = i + (k + 1) by omega]⟩
  | some w :: L, i => by
    show q ∈ (i, cv ad w) :: lvl ad (i + 1) L ↔ _
    rw [List.mem_cons, mem_lvl]
    constructor
    · rintro (rfl | ⟨k, v, h, rfl⟩)
      · exact ⟨0, w, rfl, rfl⟩
      · exact ⟨k + 1, v, h, by rw [show i + 1 + k = i + (k + 1) by omega]⟩
    · rintro ⟨k, v, h, rfl⟩
      cases k with
      | zero => cases h; exact Or.inl rfl
      | succ k => exact Or.inr ⟨k, v, h, by rw [show i + 1 + k = i + (k + 1) by omega]⟩
theorem lvl_get {ad : Nat → Nat → Nat} {ls : Array Slot} {nL : Nat} {L : Lo} (h : lv_has ls nL (lvl ad 0 L)) {k : Nat} {v : AV} (hk : nthO L k = some v) : ls[k]? = some (.val (cv ad v)) := by
  have := h.2.2 (k, cv ad v) (mem_lvl.mpr ⟨k, v, hk, by rw [Nat.zero_add]⟩)
  exact this
theorem lv_mono {ls : Array Slot} {nL : Nat} {l l' : List (Nat × Value)} (h : lv_has ls nL l) (hs : ∀ q ∈ l', q ∈ l) : lv_has ls nL l' := ⟨h.1, h.2.1, fun q hq => h.2.2 q (hs q hq)⟩
theorem nthO_set {v : AV} : ∀ {L : Lo} {k j : Nat} {o : Option AV}, nthO (setO L k o) j = some v → (j = k ∧ o = some v) ∨ (j ≠ k ∧ nthO L j = some v)
  | [], k, j, o, h => by cases j <;> cases h
  | a :: L, 0, 0, o, h => Or.inl ⟨rfl, h⟩
  | a :: L, 0, j + 1, o, h => Or.inr ⟨by omega, h⟩
  | a :: L, k + 1, 0, o, h => Or.inr ⟨by omega, h⟩
  | a :: L, k + 1, j + 1, o, h => by
    rcases nthO_set (L := L) (k := k) (j := j) (o := o) h with ⟨h1, h2⟩ | ⟨h1, h2⟩
    · exact Or.inl ⟨by omega, h2⟩
    · exact Or.inr ⟨by omega, h2⟩
theorem nthO_clr {v : AV} {L : Lo} {k j : Nat} (h : nthO (clr L k) j = some v) : nthO L j = some v ∧ ¬ (j + 1 = k ∧ isLo (some v) = true) := by
  cases k with
  | zero => exact ⟨h, fun q => by omega⟩
  | succ k =>
    have h : nthO (bif isLo (nthO L k) then setO L k none else L) j = some v := h
    cases hb : isLo (nthO L k) with
    | true =>
      rw [hb] at h
      rcases nthO_set h with ⟨-, h2⟩ | ⟨h1, h2⟩
      · cases h2
      · exact ⟨h2, fun q => by omega⟩
    | false =>
      rw [hb] at h
      have h9 : nthO L j = some v := h
      refine ⟨h9, fun q => ?_⟩
      have e : j = k := by omega
      subst e
      rw [h9, q.2] at hb
      cases hb
theorem cv_cat {ad : Nat → Nat → Nat} {v : AV} : (cv ad v).category = 2 ↔ isLo (some v) = true := by
  rcases v with x | x | ⟨f, r⟩ | a <;> simp [cv, Value.category, isLo]
theorem cv_cat1 {ad : Nat → Nat → Nat} {v : AV} (h : is1 v = true) : (cv ad v).category = 1 := by
  rcases v with x | x | ⟨f, r⟩ | a <;> first | rfl | cases h
theorem lvl_st1 {ad : Nat → Nat → Nat} {ls : Array Slot} {nL : Nat} {L : Lo} {k : Nat} {v : AV} (h : lv_has ls nL ((k, cv ad v) :: (lvl ad 0 L).filter (fun q => !(q.1 == k) && !(q.1 + 1 == k && q.2.category == 2)))) : lv_has ls nL (lvl ad 0 (st1 L k v)) := by
  refine lv_mono h fun q hq => ?_
  obtain ⟨j, w, hw, rfl⟩ := mem_lvl.mp hq
  rw [Nat.zero_add]
  rcases nthO_set hw with ⟨rfl, e⟩ | ⟨h1, h2⟩
  · cases e; exact List.mem_cons_self
  · obtain ⟨h3, h4⟩ := nthO_clr h2
    refine List.mem_cons_of_mem _ (List.mem_filter.mpr ⟨mem_lvl.mpr ⟨j, w, h3, by rw [Nat.zero_add]⟩, ?_⟩)
    rw [← cv_cat (ad := ad)] at h4
    simp only [Bool.and_eq_true, Bool.not_eq_true', beq_eq_false_iff_ne, ne_eq, Bool.and_eq_false_iff]
    refine ⟨h1, ?_⟩
    by_cases e : j + 1 = k
    · exact Or.inr (fun z => h4 ⟨e, z⟩)
    · exact Or.inl e
theorem lvl_st2 {ad : Nat → Nat → Nat} {ls : Array Slot} {nL : Nat} {L : Lo} {k : Nat} {v : AV} (h : lv_has ls nL ((k, cv ad v) :: (lvl ad 0 L).filter (fun q => !(q.1 == k) && (!(q.1 == k + 1) && !(q.1 + 1 == k && q.2.category == 2))))) : lv_has ls nL (lvl ad 0 (st2 L k v)) := by
  refine lv_mono h fun q hq => ?_
  obtain ⟨j, w, hw, rfl⟩ := mem_lvl.mp hq
  rw [Nat.zero_add]
  rcases nthO_set hw with ⟨-, e⟩ | ⟨h0, hw⟩
  · cases e
  rcases nthO_set hw with ⟨rfl, e⟩ | ⟨h1, h2⟩
  · cases e; exact List.mem_cons_self
  · obtain ⟨h3, h4⟩ := nthO_clr h2
    refine List.mem_cons_of_mem _ (List.mem_filter.mpr ⟨mem_lvl.mpr ⟨j, w, h3, by rw [Nat.zero_add]⟩, ?_⟩)
    rw [← cv_cat (ad := ad)] at h4
    simp only [Bool.and_eq_true, Bool.not_eq_true', beq_eq_false_iff_ne, ne_eq, Bool.and_eq_false_iff]
    refine ⟨h1, h0, ?_⟩
    by_cases e : j + 1 = k
    · exact Or.inr (fun z => h4 ⟨e, z⟩)
    · exact Or.inl e
theorem rgL_st1 {P : AV → Prop} {L : Lo} {k : Nat} {v : AV} (h : ∀ j w, nthO L j = some w → P w) (hv : P v) : ∀ j w, nthO (st1 L k v) j = some w → P w := by
  intro j w hw
  rcases nthO_set hw with ⟨-, e⟩ | ⟨-, h2⟩
  · cases e; exact hv
  · exact h j w (nthO_clr h2).1
theorem rgL_st2 {P : AV → Prop} {L : Lo} {k : Nat} {v : AV} (h : ∀ j w, nthO L j = some w → P w) (hv : P v) : ∀ j w, nthO (st2 L k v) j = some w → P w := by
  intro j w hw
  rcases nthO_set hw with ⟨-, e⟩ | ⟨-, h2⟩
  · cases e
  rcases nthO_set h2 with ⟨-, e⟩ | ⟨-, h2⟩
  · cases e; exact hv
  · exact h j w (nthO_clr h2).1
/-! ===== the memory as cells ===== -/
def fsv (ad : Nat → Nat → Nat) (w : Int → Int) : Nat → List (Nat × Nat) → List Value
  | _, [] => []
  | k, (t, g) :: l => (match t with
    | 0 => Value.int (Int32.ofInt (w k))
    | 1 => Value.long (Int64.ofInt (w k))
    | _ => Value.ref (ad g 0)) :: fsv ad w (k + 1) l
def elr (fam : Nat → Fam) (ad : Nat → Nat → Nat) (cy : Nat → ClassId) (f : Nat) (w : Int → Int) : va_E := match (fam f).1 with
  | 0 => .inr ((fam f).2.2.1, fsv ad w 0 (fam f).2.2.2.2)
  | 1 => .inl (cy 1, (fam f).2.2.1, .inl (fun j => Int32.ofInt (w j)))
  | 2 => .inl (cy 2, (fam f).2.2.1, .inr (.inl (fun j => Int64.ofInt (w j))))
  | 3 => .inl (cy 3, (fam f).2.2.1, .inl (fun j => Int32.ofInt (w j)))
  | _ => .inl (cy 4, (fam f).2.2.1, .inr (.inr (.inr (.inr (fun j => some (ad (fam f).2.2.2.1 j))))))
def ixs (fam : Nat → Fam) (N : Nat) : List (Nat × Nat) := (List.range N).flatMap fun f => (List.range (fam f).2.1).map fun r => (f, r)
def wl (fam : Nat → Fam) (N : Nat) (ad : Nat → Nat → Nat) (cy : Nat → ClassId) (μ : Mm) : va_W := (ixs fam N).map fun q => (ad q.1 q.2, elr fam ad cy q.1 (μ q.1 q.2))
def Inj (fam : Nat → Fam) (ad : Nat → Nat → Nat) : Prop := ∀ f r g t, r < (fam f).2.1 → t < (fam g).2.1 → ad f r = ad g t → f = g ∧ r = t
def Aad (fam : Nat → Fam) (ad : Nat → Nat → Nat) (sz : Nat) : Nat → Prop := fun q => (∃ f r, r < (fam f).2.1 ∧ q = ad f r) ∨ sz ≤ q
/-- what is always so of the families: no cell beyond N, no cell twice -/
def FamOk (fam : Nat → Fam) (N : Nat) : Prop := (∀ f, N ≤ f → (fam f).2.1 = 0) ∧ (ixs fam N).Nodup
theorem mem_ixs {fam : Nat → Fam} {N : Nat} {q : Nat × Nat} : q ∈ ixs fam N ↔ q.1 < N ∧ q.2 < (fam q.1).2.1 := by
  unfold ixs
  simp only [List.mem_flatMap, List.mem_range, List.mem_map]
  constructor
  · rintro ⟨f, hf, r, hr, rfl⟩; exact ⟨hf, hr⟩
  · rintro ⟨h1, h2⟩; exact ⟨q.1, h1, q.2, h2, rfl⟩
theorem fam_lt {fam : Nat → Fam} {N : Nat} (h : FamOk fam N) {f r : Nat} (hr : r < (fam f).2.1) : f < N := by
  rcases Nat.lt_or_ge f N with q | q
  · exact q
  · rw [h.1 f q] at hr; omega
theorem wl_at {fam : Nat → Fam} {N : Nat} {ad : Nat → Nat → Nat} {cy : Nat → ClassId} (h : FamOk fam N) (μ : Mm) {f r : Nat} (hr : r < (fam f).2.1) :
    ∃ k, (wl fam N ad cy μ)[k]? = some (ad f r, elr fam ad cy f (μ f r)) ∧ ∀ μ' : Mm, (∀ g t : Nat, ¬ (g = f ∧ t = r) → μ' g t = μ g t) → (wl fam N ad cy μ).set k (ad f r, elr fam ad cy f (μ' f r)) = wl fam N ad cy μ' := by
  obtain ⟨k, hk⟩ := List.getElem?_of_mem (mem_ixs.mpr (show ((f, r) : Nat × Nat).1 < N ∧ ((f, r) : Nat × Nat).2 < (fam (f, r).1).2.1 from ⟨fam_lt h hr, hr⟩))
  have hkl : k < (ixs fam N).length := (List.getElem?_eq_some_iff.mp hk).1
  refine ⟨k, ?_, fun μ' ho => ?_⟩
  · unfold wl
    rw [List.getElem?_map, hk]
    rfl
  · apply List.ext_getElem?
    intro j
    unfold wl
    by_cases hj : k = j
    · subst hj
      rw [List.getElem?_set_self (by rw [List.length_map]; exact hkl), List.getElem?_map, hk]
      rfl
    · rw [List.getElem?_set_ne hj, List.getElem?_map, List.getElem?_map]
      cases hq : (ixs fam N)[j]? with
      | none => rfl
      | some q =>
        have hne : ¬ (q.1 = f ∧ q.2 = r) := by
          rintro ⟨e1, e2⟩
          have : q = (f, r) := Prod.ext e1 e2
          subst this
          exact hj ((List.getElem?_inj hkl h.2).mp (hk.trans hq.symm))
        show some (ad q.1 q.2, elr fam ad cy q.1 (μ q.1 q.2)) = some (ad q.1 q.2, elr fam ad cy q.1 (μ' q.1 q.2))
        rw [ho q.1 q.2 hne]
theorem wl_D {fam : Nat → Fam} {N : Nat} {ad : Nat → Nat → Nat} {cy : Nat → ClassId} (h : FamOk fam N) (hi : Inj fam ad) {A : Nat → Prop} (hA : ∀ f r, r < (fam f).2.1 → A (ad f r)) (μ : Mm) : va_D A (wl fam N ad cy μ) := by
  have key : ∀ (i : Nat) (p : Nat × va_E), (wl fam N ad cy μ)[i]? = some p → ∃ q : Nat × Nat, (ixs fam N)[i]? = some q ∧ p.1 = ad q.1 q.2 ∧ q.2 < (fam q.1).2.1 := by
    intro i p hp
    unfold wl at hp
    rw [List.getElem?_map] at hp
    cases hq : (ixs fam N)[i]? with
    | none => rw [hq] at hp; cases hp
    | some q =>
      rw [hq] at hp
      cases hp
      exact ⟨q, rfl, rfl, (mem_ixs.mp (List.mem_of_getElem? hq)).2⟩
  refine ⟨fun i j p q hp hq he => ?_, fun k q hq => ?_⟩
  · obtain ⟨a, a1, a2, a3⟩ := key i p hp
    obtain ⟨b, b1, b2, b3⟩ := key j q hq
    rw [a2, b2] at he
    obtain ⟨e1, e2⟩ := hi _ _ _ _ a3 b3 he
    have e : a = b := Prod.ext e1 e2
    subst e
    exact (List.getElem?_inj (List.getElem?_eq_some_iff.mp a1).1 h.2).mp (a1.trans b1.symm)
  · obtain ⟨a, a1, a2, a3⟩ := key k q hq
    rw [a2]
    exact hA _ _ a3
theorem st_row (μ : Mm) (f : Nat) (r i v : Int) : st μ f r i v f r = fun j => if j = i then v else μ f r j := by
  funext j
  by_cases h : j = i
  · simp [st, h]
  · simp [st, h]
theorem st_ne (μ : Mm) {f g : Nat} {r t i v : Int} (h : ¬ (g = f ∧ t = r)) : st μ f r i v g t = μ g t := by
  funext j
  unfold st
  rw [if_neg]
  exact fun q => h ⟨q.1, q.2.1⟩
def lgF (fam : Nat → Fam) (f : Nat) (i : Int) : Bool := Nat.beq (fam f).1 2 || (Nat.beq (fam f).1 0 && Nat.beq (nthP (fam f).2.2.2.2 i.toNat).1 1)
def MR (fam : Nat → Fam) (μ : Mm) : Prop := ∀ (f : Nat) (r i : Int), in64 (μ f r i) ∧ (lgF fam f i = false → in32 (μ f r i))
theorem in64_of {x : Int} (h : in32 x) : in64 x := ⟨by have := h.1; omega, by have := h.2; omega⟩
theorem MR_st {fam : Nat → Fam} {μ : Mm} (h : MR fam μ) {f : Nat} {r i v : Int} (h1 : in64 v) (h2 : lgF fam f i = false → in32 v) : MR fam (st μ f r i v) := by
  intro g t j
  unfold st
  split
  · rename_i e
    rw [e.1, e.2.2]
    exact ⟨h1, h2⟩
  · exact h g t j
theorem nthP_get : ∀ {l : List (Nat × Nat)} {k : Nat} {t g : Nat}, nthP l k = (t, g) → t ≠ 9 → l[k]? = some (t, g)
  | [], k, t, g, h, ht => by cases k <;> (cases h; exact absurd rfl ht)
  | a :: l, 0, t, g, h, ht => by rw [List.getElem?_cons_zero]; exact congrArg some h
  | a :: l, k + 1, t, g, h, ht => by rw [List.getElem?_cons_succ]; exact nthP_get (l := l) h ht
theorem fsv_get {ad : Nat → Nat → Nat} {w : Int → Int} : ∀ {l : List (Nat × Nat)} {i k : Nat} {t g : Nat}, l[k]? = some (t, g) → (fsv ad w i l)[k]? = some (match t with
    | 0 => Value.int (Int32.ofInt (w ((i + k : Nat) : Int)))
    | 1 => Value.long (Int64.ofInt (w ((i + k : Nat) : Int)))
    | _ => Value.ref (ad g 0))
  | [], i, k, t, g, h => by simp at h
  | (t0, g0) :: l, i, 0, t, g, h => by
    rw [List.getElem?_cons_zero] at h
    cases h
    rfl
  | (t0, g0) :: l, i, k + 1, t, g, h => by
    rw [List.getElem?_cons_succ] at h
    show (fsv ad w (i + 1) l)[k]? = _
    rw [fsv_get h, show i + 1 + k = i + (k + 1) by omega]
theorem fsv_len {ad : Nat → Nat → Nat} {w : Int → Int} : ∀ {l : List (Nat × Nat)} {i : Nat}, (fsv ad w i l).length = l.length
  | [], i => rfl
  | a :: l, i => by show (fsv ad w (i + 1) l).length + 1 = _; rw [fsv_len]; rfl
theorem fsv_set {ad : Nat → Nat → Nat} {w : Int → Int} {v : Int} : ∀ {l : List (Nat × Nat)} {i k : Nat} {t g : Nat}, l[k]? = some (t, g) → (fsv ad w i l).set k (match t with
    | 0 => Value.int (Int32.ofInt v)
    | 1 => Value.long (Int64.ofInt v)
    | _ => Value.ref (ad g 0)) = fsv ad (fun j => if j = ((i + k : Nat) : Int) then v else w j) i l
  | [], i, k, t, g, h => by simp at h
  | (t0, g0) :: l, i, 0, t, g, h => by
    rw [List.getElem?_cons_zero] at h
    cases h
    have hl : ∀ (l : List (Nat × Nat)) (a : Nat), i < a → fsv ad w a l = fsv ad (fun j => if j = ((i + 0 : Nat) : Int) then v else w j) a l := by
      intro l
      induction l with
      | nil => intro a _; rfl
      | cons q l ih =>
        intro a ha
        obtain ⟨t1, g1⟩ := q
        show _ :: fsv ad w (a + 1) l = _ :: fsv ad _ (a + 1) l
        rw [ih (a + 1) (by omega)]
        have : (if (a : Int) = ((i + 0 : Nat) : Int) then v else w a) = w a := if_neg (by omega)
        dsimp only
        rw [this]
    show _ :: fsv ad w (i + 1) l = _ :: fsv ad _ (i + 1) l
    rw [hl l (i + 1) (by omega)]
    have : (if (i : Int) = ((i + 0 : Nat) : Int) then v else w i) = v := if_pos (by simp)
    dsimp only
    rw [this]
  | (t0, g0) :: l, i, k + 1, t, g, h => by
    rw [List.getElem?_cons_succ] at h
    have e : (if (i : Int) = ((i + (k + 1) : Nat) : Int) then v else w i) = w i := if_neg (by omega)
    show _ :: (fsv ad w (i + 1) l).set k _ = _ :: fsv ad _ (i + 1) l
    dsimp only
    rw [fsv_set h, e, show i + 1 + k = i + (k + 1) by omega]
