theorem jmp_t {pc : Nat} {o : Int} {f : Nat → Prop} {t : Nat} (ht : (pc : Int) + o = (t : Int)) (h : jmp pc o f) : f t := by
  obtain ⟨t', h1, h2⟩ := jmp_e h
  have : t' = t := by omega
  rw [← this]; exact h2
theorem swi_e {pc : Nat} {x : Int} {f : Nat → Prop} : ∀ {os : List Int} {lo : Int}, swi pc x f lo os → lo ≤ x → x < lo + os.length → ∃ o, os[(x - lo).toNat]? = some o ∧ jmp pc o f
  | [], lo, _, h1, h2 => by simp at h2; omega
  | o :: os, lo, h, h1, h2 => by
    by_cases e : x = lo
    · refine ⟨o, ?_, h.1 e⟩
      have : (x - lo).toNat = 0 := by omega
      rw [this]; rfl
    · obtain ⟨o', g1, g2⟩ := swi_e h.2 (by omega) (by simp only [List.length_cons] at h2; omega)
      refine ⟨o', ?_, g2⟩
      have : (x - lo).toNat = (x - (lo + 1)).toNat + 1 := by omega
      rw [this, List.getElem?_cons_succ]
      exact g1
section
variable {fam : Nat → Fam} {N : Nat} {ad : Nat → Nat → Nat} {cy : Nat → ClassId} {D : va_G} {sa : Nat → Nat} {scr : Option (Nat × Int × (Int → Int))} {cd : Cd} {ER : Option AV → Mm → Prop} {ET : Nat → Mm → Prop}
variable {p : Program} {l : Launch} {e : Env} {R : Room} {s : State} {m : MethodId} {args : Array Value} {below : List Frame} {meth : Method} {c : Code} {Q : State → Prop}
/-- what ends a body: by an int, a long, nothing, a throw of its own, one that it doesn't catch -/
def Ends (fam : Nat → Fam) (N : Nat) (ad : Nat → Nat → Nat) (cy : Nat → ClassId) (D : va_G) (cd : Cd) (ER : Option AV → Mm → Prop) (ET : Nat → Mm → Prop) (own : String) (cc : ByteArray) (p : Program) (l : Launch) (e : Env) (R : Room) (s : State) (m : MethodId) (args : Array Value) (below : List Frame) (meth : Method) (c : Code) (A : Nat → Prop) (Q : State → Prop) : Prop :=
  (∀ (x : Int) (pc n : Nat) (ls : Array Slot) (H : Heap) (locs : List Loc) (μ : Mm), in32 x → decode cc pc = .ok (.ireturn, 1) → n ≤ cd.2.2.2.2.2.2.2.2 → (cd.2.2.2.2.2.2.2.1 = 1 ∨ cd.2.2.2.2.2.2.2.1 = 3 ∧ (x = 0 ∨ x = 1)) → ER (some (vI x)) μ → va_P D vwCl (wl fam N ad cy μ) H → MR fam μ → va_S A s.heap H locs → W p l e R s m args below meth c H locs n (6 * n) Q (F0 m pc ls [.int (Int32.ofInt x)])) ∧
  (∀ (x : Int) (pc n : Nat) (ls : Array Slot) (H : Heap) (locs : List Loc) (μ : Mm), in64 x → decode cc pc = .ok (.lreturn, 1) → n ≤ cd.2.2.2.2.2.2.2.2 → cd.2.2.2.2.2.2.2.1 = 2 → ER (some (vL x)) μ → va_P D vwCl (wl fam N ad cy μ) H → MR fam μ → va_S A s.heap H locs → W p l e R s m args below meth c H locs n (6 * n) Q (F0 m pc ls [.long (Int64.ofInt x)])) ∧
  (∀ (pc n : Nat) (ls : Array Slot) (H : Heap) (locs : List Loc) (μ : Mm), decode cc pc = .ok (.return_, 1) → n ≤ cd.2.2.2.2.2.2.2.2 → cd.2.2.2.2.2.2.2.1 = 0 → ER none μ → va_P D vwCl (wl fam N ad cy μ) H → MR fam μ → va_S A s.heap H locs → W p l e R s m args below meth c H locs n (6 * n) Q (F0 m pc ls [])) ∧
  (∀ (pc k n : Nat) (ls : Array Slot) (H : Heap) (locs : List Loc) (μ : Mm), TOK own cc R s args c pc k → n < cd.2.2.2.2.2.2.2.2 → ET k μ → va_P D vwCl (wl fam N ad cy μ) H → MR fam μ → va_S A s.heap H locs → ls.size = c.maxLocals → W p l e R s m args below meth c H locs n (6 * n) Q (F0 m pc ls [])) ∧
  (∀ (pc k n : Nat) (ls : Array Slot) (rest : List Value) (H : Heap) (locs : List Loc) (μ : Mm) (ce : Cell) (q : Addr), (k = 1 ∨ k = 2 ∨ k = 3) → (∀ z ∈ c.exceptionTable.toList, pasz own s args pc k z) → n ≤ cd.2.2.2.2.2.2.2.2 → ET k μ → va_P D vwCl (wl fam N ad cy μ) H → MR fam μ → va_S A s.heap H locs → H[q]? = some ce → ce.vm = .none → s.vm.findClass (exn k) = some ce.cls → vx_W p l e R s m args below meth c H locs n (6 * n) Q (F0 m pc ls rest) q)
/-- the script, where there is one -/
def ScrOk (s : State) (A : Nat → Prop) : Option (Nat × Int × (Int → Int)) → Prop
  | none => True
  | some (b, L, xs) => ∃ (LN : Nat) (x32 : Nat → Int32), L = (LN : Int) ∧ LN < 2147483648 ∧ va_X b LN x32 s s.heap ∧ b < s.heap.size ∧ ¬ A b ∧ ∀ j : Nat, j < LN → xs (j : Int) = (x32 j).toInt
set_option maxHeartbeats 8000000 in
set_option maxRecDepth 100000 in
theorem AW_step {own : String} {cc : ByteArray} {Ts : List Cond} {A : Nat → Prop} (hC : Ctx fam N cd own cc Ts p l R s m args meth c) (hG : GF fam ad cy D sa A s s.heap) (hAe : A = Aad fam ad s.heap.size) (hE : Ends fam N ad cy D cd ER ET own cc p l e R s m args below meth c A Q) (hscr : ScrOk s A scr)
    {pc n : Nat} {L : Lo} {S : List AV} {μ : Mm} (h : stp fam scr cd ER ET (AW fam N ad cy D p l e R s m args below meth c cd.2.2.2.2.2.2.1 A Q) pc n L S μ) : AW fam N ad cy D p l e R s m args below meth c cd.2.2.2.2.2.2.1 A Q pc n L S μ := by
  obtain ⟨hx, hb, hml, hown, hts, hlocks, htr, hRc, hRs, hF, hcode, hcon, hfld, hcalV, hcalS, hH, hexc, hrt⟩ := hC
  obtain ⟨eI, eJ, eV, eT, eU⟩ := hE
  have hK := hG.1
  have hInj := hG.2.1
  have hAq : ∀ q, s.heap.size ≤ q → A q := fun q hq => by rw [hAe]; exact Or.inr hq
  have hAa : ∀ f r, r < (fam f).2.1 → A (ad f r) := fun f r hr => by rw [hAe]; exact Or.inl ⟨f, r, hr, rfl⟩
  unfold stp at h
  cases hcd : cd.1 pc with
  | none => rw [hcd] at h; exact h.elim
  | some il =>
    obtain ⟨i, len⟩ := il
    rw [hcd] at h
    obtain ⟨hd, hlen, hoff⟩ := hcode pc i len hcd
    intro H locs ls hP hM hl hL hS hV
    have hD : va_D A (wl fam N ad cy μ) := wl_D hF hInj hAa μ
    cases i
    case iload_n k =>
      obtain ⟨x, h1, h_1⟩ := gI_e h
      have e1 : len = 1 := hlen.resolve_left (fun q => by cases q)
      subst e1
      exact lv_iload_n hx hb hd rfl (lvl_get hl h1) (h_1 H locs ls hP hM hl hL (rg_cons (hL _ _ h1) hS) hV)
    case iload k =>
      obtain ⟨x, h1, h_1⟩ := gI_e h
      have e1 : len = 2 := hlen.resolve_left (fun q => by cases q)
      subst e1
      exact lv_iload hx hb hd (lvl_get hl h1) (h_1 H locs ls hP hM hl hL (rg_cons (hL _ _ h1) hS) hV)
    case lload_n k =>
      obtain ⟨x, h1, h_1⟩ := gL_e h
      have e1 : len = 1 := hlen.resolve_left (fun q => by cases q)
      subst e1
      exact lv_lload_n hx hb hd rfl (lvl_get hl h1) (h_1 H locs ls hP hM hl hL (rg_cons (hL _ _ h1) hS) hV)
    case lload k =>
      obtain ⟨x, h1, h_1⟩ := gL_e h
      have e1 : len = 2 := hlen.resolve_left (fun q => by cases q)
      subst e1
      exact lv_lload hx hb hd (lvl_get hl h1) (h_1 H locs ls hP hM hl hL (rg_cons (hL _ _ h1) hS) hV)
    case aload_n k =>
      obtain ⟨x, h1, h_1⟩ := gQ_e h
      have e1 : len = 1 := hlen.resolve_left (fun q => by cases q)
      subst e1
      rcases x with ⟨f, r⟩ | a
      · exact lv_aload_n hx hb hd rfl (lvl_get hl h1) (h_1 H locs ls hP hM hl hL (rg_cons (hL _ _ h1) hS) hV)
      · exact lv_aload_n hx hb hd rfl (lvl_get hl h1) (h_1 H locs ls hP hM hl hL (rg_cons (hL _ _ h1) hS) hV)
    case aload k =>
      obtain ⟨x, h1, h_1⟩ := gQ_e h
      have e1 : len = 2 := hlen.resolve_left (fun q => by cases q)
      subst e1
      rcases x with ⟨f, r⟩ | a
      · exact lv_aload hx hb hd (lvl_get hl h1) (h_1 H locs ls hP hM hl hL (rg_cons (hL _ _ h1) hS) hV)
      · exact lv_aload hx hb hd (lvl_get hl h1) (h_1 H locs ls hP hM hl hL (rg_cons (hL _ _ h1) hS) hV)
    case istore_n k =>
      obtain ⟨x, S1, rfl, h_1⟩ := pI_e h
      obtain ⟨h1, h_2⟩ := bT_e h_1
      have e1 : len = 1 := hlen.resolve_left (fun q => by cases q)
      subst e1
      exact lv_istore_n hx hb hd rfl hl (Nat.le_of_ble_eq_true h1) rfl (fun ls' hl' => h_2 H locs ls' hP hM (lvl_st1 hl') (rgL_st1 hL (rg_hd hS)) (rg_tl hS) hV)
    case istore k =>
      obtain ⟨x, S1, rfl, h_1⟩ := pI_e h
      obtain ⟨h1, h_2⟩ := bT_e h_1
      have e1 : len = 2 := hlen.resolve_left (fun q => by cases q)
      subst e1
      exact lv_istore hx hb hd hl (Nat.le_of_ble_eq_true h1) rfl (fun ls' hl' => h_2 H locs ls' hP hM (lvl_st1 hl') (rgL_st1 hL (rg_hd hS)) (rg_tl hS) hV)
    case lstore_n k =>
      obtain ⟨x, S1, rfl, h_1⟩ := pL_e h
      obtain ⟨h1, h_2⟩ := bT_e h_1
      have e1 : len = 1 := hlen.resolve_left (fun q => by cases q)
      subst e1
      exact lv_lstore_n hx hb hd rfl hl (Nat.le_of_ble_eq_true h1) rfl (fun ls' hl' => h_2 H locs ls' hP hM (lvl_st2 hl') (rgL_st2 hL (rg_hd hS)) (rg_tl hS) hV)
    case lstore k =>
      obtain ⟨x, S1, rfl, h_1⟩ := pL_e h
      obtain ⟨h1, h_2⟩ := bT_e h_1
      have e1 : len = 2 := hlen.resolve_left (fun q => by cases q)
      subst e1
      exact lv_lstore hx hb hd hl (Nat.le_of_ble_eq_true h1) rfl (fun ls' hl' => h_2 H locs ls' hP hM (lvl_st2 hl') (rgL_st2 hL (rg_hd hS)) (rg_tl hS) hV)
    case astore_n k =>
      obtain ⟨x, S1, rfl, h_1⟩ := pQ_e h
      obtain ⟨h1, h_2⟩ := bT_e h_1
      have e1 : len = 1 := hlen.resolve_left (fun q => by cases q)
      subst e1
      rcases x with ⟨f, r⟩ | a
      · exact lv_astore_n hx hb hd rfl hl (Nat.le_of_ble_eq_true h1) rfl (fun ls' hl' => h_2 H locs ls' hP hM (lvl_st1 hl') (rgL_st1 hL (rg_hd hS)) (rg_tl hS) hV)
      · exact lv_astore_n hx hb hd rfl hl (Nat.le_of_ble_eq_true h1) rfl (fun ls' hl' => h_2 H locs ls' hP hM (lvl_st1 (v := vX a) hl') (rgL_st1 hL (rg_hd hS)) (rg_tl hS) hV)
    case astore k =>
      obtain ⟨x, S1, rfl, h_1⟩ := pQ_e h
      obtain ⟨h1, h_2⟩ := bT_e h_1
      have e1 : len = 2 := hlen.resolve_left (fun q => by cases q)
      subst e1
      rcases x with ⟨f, r⟩ | a
      · exact lv_astore hx hb hd hl (Nat.le_of_ble_eq_true h1) rfl (fun ls' hl' => h_2 H locs ls' hP hM (lvl_st1 hl') (rgL_st1 hL (rg_hd hS)) (rg_tl hS) hV)
      · exact lv_astore hx hb hd hl (Nat.le_of_ble_eq_true h1) rfl (fun ls' hl' => h_2 H locs ls' hP hM (lvl_st1 (v := vX a) hl') (rgL_st1 hL (rg_hd hS)) (rg_tl hS) hV)
    case iinc k d =>
      obtain ⟨x, h0, h_1⟩ := gI_e h
      obtain ⟨h1, h_2⟩ := bT_e h_1
      have e1 : len = 3 := hlen.resolve_left (fun q => by cases q)
      subst e1
      obtain ⟨j, hj⟩ := List.getElem?_of_mem (mem_lvl.mpr ⟨k, _, h0, by rw [Nat.zero_add]⟩ : (k, cv ad (vI x)) ∈ lvl ad 0 L)
      refine lv_iinc (v := Int32.ofInt (w32 (x + d))) hx hb hd hl hj (by rw [i32_w, Int32.ofInt_add]) (Nat.le_of_ble_eq_true h1) rfl (fun ls' hl' => h_2 H locs ls' hP hM (lvl_st1 (v := vI (w32 (x + d))) hl') (rgL_st1 hL (in32_w _)) hS hV)
    case iconst v =>
      obtain ⟨h1, h_1⟩ := bT_e h
      have e1 : len = 1 := hlen.resolve_left (fun q => by cases q)
      subst e1
      simp only [ok32, Bool.and_eq_true, decide_eq_true_eq] at h1
      exact lv_iconst hx hb hd rfl (h_1 H locs ls hP hM hl hL (rg_cons (v := vI v) h1 hS) hV)
    case bipush v =>
      obtain ⟨h1, h_1⟩ := bT_e h
      have e1 : len = 2 := hlen.resolve_left (fun q => by cases q)
      subst e1
      simp only [Bool.and_eq_true, decide_eq_true_eq] at h1
      have ev : (Int8.ofInt v).toInt32 = Int32.ofInt v := by
        apply Int32.toInt_inj.mp
        rw [Int8.toInt_toInt32, Int8.toInt_ofInt_of_le (by omega) (by omega), i32_T ⟨by omega, by omega⟩]
      exact lv_bipush hx hb hd ev (h_1 H locs ls hP hM hl hL (rg_cons (v := vI v) ⟨by omega, by omega⟩ hS) hV)
    case sipush v =>
      obtain ⟨h1, h_1⟩ := bT_e h
      have e1 : len = 3 := hlen.resolve_left (fun q => by cases q)
      subst e1
      simp only [Bool.and_eq_true, decide_eq_true_eq] at h1
      have ev : (Int16.ofInt v).toInt32 = Int32.ofInt v := by
        apply Int32.toInt_inj.mp
        rw [Int16.toInt_toInt32, Int16.toInt_ofInt_of_le (by omega) (by omega), i32_T ⟨by omega, by omega⟩]
      exact lv_sipush hx hb hd ev (h_1 H locs ls hP hM hl hL (rg_cons (v := vI v) ⟨by omega, by omega⟩ hS) hV)
    case lconst k =>
      have e1 : len = 1 := hlen.resolve_left (fun q => by cases q)
      subst e1
      refine lv_lconst (v := Int64.ofInt (k.val : Int)) hx hb hd Int64.ofInt_eq_ofNat.symm (h H locs ls hP hM hl hL (rg_cons (v := vL k.val) ⟨by omega, by have := k.isLt; omega⟩ hS) hV)
    case ldc j =>
      have e1 : len = 2 := hlen.resolve_left (fun q => by cases q)
      subst e1
      dsimp only at h
      split at h
      · rename_i v hv
        obtain ⟨h1, h_1⟩ := bT_e h
        simp only [ok32, Bool.and_eq_true, decide_eq_true_eq] at h1
        exact lv_ldc hx hb hown (hcon j _ hv) hd (h_1 H locs ls hP hM hl hL (rg_cons (v := vI v) h1 hS) hV)
      · exact h.elim
    case ldc_w j =>
      have e1 : len = 3 := hlen.resolve_left (fun q => by cases q)
      subst e1
      dsimp only at h
      split at h
      · rename_i v hv
        obtain ⟨h1, h_1⟩ := bT_e h
        simp only [ok32, Bool.and_eq_true, decide_eq_true_eq] at h1
        exact lv_ldcw hx hb hown (hcon j _ hv) hd (h_1 H locs ls hP hM hl hL (rg_cons (v := vI v) h1 hS) hV)
      · exact h.elim
    case ldc2_w j =>
      have e1 : len = 3 := hlen.resolve_left (fun q => by cases q)
      subst e1
      dsimp only at h
      split at h
      · rename_i v hv
        obtain ⟨h1, h_1⟩ := bT_e h
        simp only [ok64, Bool.and_eq_true, decide_eq_true_eq] at h1
        exact lv_ldc2 hx hb hown (hcon j _ hv) hd (h_1 H locs ls hP hM hl hL (rg_cons (v := vL v) h1 hS) hV)
      · exact h.elim
    case iadd =>
      obtain ⟨y, S1, rfl, h_1⟩ := pI_e h
      obtain ⟨x, S2, rfl, h_2⟩ := pI_e h_1
      have e1 : len = 1 := hlen.resolve_left (fun q => by cases q)
      subst e1
      refine lv_iadd hx hb hd ?_
      have ev : Int32.ofInt x + Int32.ofInt y = Int32.ofInt (w32 (x + y)) := by rw [i32_w, Int32.ofInt_add]
      rw [ev]
      exact h_2 H locs ls hP hM hl hL (rg_cons (v := vI _) (in32_w _) (rg_tl (rg_tl hS))) hV
    case isub =>
      obtain ⟨y, S1, rfl, h_1⟩ := pI_e h
      obtain ⟨x, S2, rfl, h_2⟩ := pI_e h_1
      have e1 : len = 1 := hlen.resolve_left (fun q => by cases q)
      subst e1
      refine lv_isub hx hb hd ?_
      have ev : Int32.ofInt x - Int32.ofInt y = Int32.ofInt (w32 (x - y)) := by rw [i32_w, Int32.ofInt_sub]
      rw [ev]
      exact h_2 H locs ls hP hM hl hL (rg_cons (v := vI _) (in32_w _) (rg_tl (rg_tl hS))) hV
    case imul =>
      obtain ⟨y, S1, rfl, h_1⟩ := pI_e h
      obtain ⟨x, S2, rfl, h_2⟩ := pI_e h_1
      have e1 : len = 1 := hlen.resolve_left (fun q => by cases q)
      subst e1
      refine lv_imul hx hb hd ?_
      have ev : Int32.ofInt x * Int32.ofInt y = Int32.ofInt (w32 (x * y)) := by rw [i32_w, Int32.ofInt_mul]
      rw [ev]
      exact h_2 H locs ls hP hM hl hL (rg_cons (v := vI _) (in32_w _) (rg_tl (rg_tl hS))) hV
    case ineg =>
      obtain ⟨x, S2, rfl, h_1⟩ := pI_e h
      have e1 : len = 1 := hlen.resolve_left (fun q => by cases q)
      subst e1
      refine lv_ineg hx hb hd ?_
      have ev : -Int32.ofInt x = Int32.ofInt (w32 (-x)) := by rw [i32_w, Int32.ofInt_neg]
      rw [ev]
      exact h_1 H locs ls hP hM hl hL (rg_cons (v := vI _) (in32_w _) (rg_tl hS)) hV
    case iand =>
      obtain ⟨y, S1, rfl, h_1⟩ := pI_e h
      obtain ⟨x, S2, rfl, h_2⟩ := pI_e h_1
      obtain ⟨h1, h_3⟩ := bT_e h_2
      have e1 : len = 1 := hlen.resolve_left (fun q => by cases q)
      subst e1
      have e2 : y = 31 := of_decide_eq_true h1
      subst e2
      refine lv_iand hx hb hd ?_
      rw [i32_and31]
      exact h_3 H locs ls hP hM hl hL (rg_cons (v := vI _) ⟨by omega, by omega⟩ (rg_tl (rg_tl hS))) hV
    case i2l =>
      obtain ⟨x, S2, rfl, h_1⟩ := pI_e h
      have e1 : len = 1 := hlen.resolve_left (fun q => by cases q)
      subst e1
      have hx1 : in32 x := rg_hd hS
      exact lv_i2l hx hb hd (i32_l hx1) (h_1 H locs ls hP hM hl hL (rg_cons (v := vL _) (in64_of hx1) (rg_tl hS)) hV)
    case ladd =>
      obtain ⟨y, S1, rfl, h_1⟩ := pL_e h
      obtain ⟨x, S2, rfl, h_2⟩ := pL_e h_1
      have e1 : len = 1 := hlen.resolve_left (fun q => by cases q)
      subst e1
      refine lv_ladd hx hb hd ?_
      have ev : Int64.ofInt x + Int64.ofInt y = Int64.ofInt (w64 (x + y)) := by rw [i64_w, Int64.ofInt_add]
      rw [ev]
      exact h_2 H locs ls hP hM hl hL (rg_cons (v := vL _) (in64_w _) (rg_tl (rg_tl hS))) hV
    case lsub =>
      obtain ⟨y, S1, rfl, h_1⟩ := pL_e h
      obtain ⟨x, S2, rfl, h_2⟩ := pL_e h_1
      have e1 : len = 1 := hlen.resolve_left (fun q => by cases q)
      subst e1
      refine lv_lsub hx hb hd ?_
      have ev : Int64.ofInt x - Int64.ofInt y = Int64.ofInt (w64 (x - y)) := by rw [i64_w, Int64.ofInt_sub]
      rw [ev]
      exact h_2 H locs ls hP hM hl hL (rg_cons (v := vL _) (in64_w _) (rg_tl (rg_tl hS))) hV
    case lmul =>
      obtain ⟨y, S1, rfl, h_1⟩ := pL_e h
      obtain ⟨x, S2, rfl, h_2⟩ := pL_e h_1
      have e1 : len = 1 := hlen.resolve_left (fun q => by cases q)
      subst e1
      refine lv_lmul hx hb hd ?_
      have ev : Int64.ofInt x * Int64.ofInt y = Int64.ofInt (w64 (x * y)) := by rw [i64_w, Int64.ofInt_mul]
      rw [ev]
      exact h_2 H locs ls hP hM hl hL (rg_cons (v := vL _) (in64_w _) (rg_tl (rg_tl hS))) hV
    case ldiv =>
      obtain ⟨y, S1, rfl, h_1⟩ := pL_e h
      obtain ⟨x, S2, rfl, h_2⟩ := pL_e h_1
      obtain ⟨h0, h_3⟩ := h_2
      have e1 : len = 1 := hlen.resolve_left (fun q => by cases q)
      subst e1
      have hy1 : in64 y := rg_hd hS
      have hx1 : in64 x := rg_hd (rg_tl hS)
      refine lv_ldiv hx hb hd (fun q => h0 ((i64_eq hy1 ⟨by omega, by omega⟩).mp (q.trans rfl))) ?_
      rw [i64_div hx1 hy1]
      exact h_3 H locs ls hP hM hl hL (rg_cons (v := vL _) (in64_w _) (rg_tl (rg_tl hS))) hV
    case lneg =>
      obtain ⟨x, S2, rfl, h_1⟩ := pL_e h
      have e1 : len = 1 := hlen.resolve_left (fun q => by cases q)
      subst e1
      refine lv_lneg hx hb hd ?_
      have ev : -Int64.ofInt x = Int64.ofInt (w64 (-x)) := by rw [i64_w, Int64.ofInt_neg]
      rw [ev]
      exact h_1 H locs ls hP hM hl hL (rg_cons (v := vL _) (in64_w _) (rg_tl hS)) hV
    case lcmp =>
      obtain ⟨y, S1, rfl, h_1⟩ := pL_e h
      obtain ⟨x, S2, rfl, h_2⟩ := pL_e h_1
      have e1 : len = 1 := hlen.resolve_left (fun q => by cases q)
      subst e1
      refine W.lcmp hx hb hd ?_
      rw [i64_cmp (rg_hd (rg_tl hS)) (rg_hd hS)]
      exact h_2 H locs ls hP hM hl hL (rg_cons (v := vI _) (in32_cmp _ _) (rg_tl (rg_tl hS))) hV
    case dup =>
      obtain ⟨v, S1, rfl, h_1⟩ := pV_e h
      obtain ⟨h1, h_2⟩ := bT_e h_1
      have e1 : len = 1 := hlen.resolve_left (fun q => by cases q)
      subst e1
      exact lv_dup hx hb hd (cv_cat1 h1) (h_2 H locs ls hP hM hl hL (rg_cons (rg_hd hS) hS) hV)
    case dup2 =>
      obtain ⟨v, S1, rfl, h_1⟩ := pV_e h
      obtain ⟨w, S2, rfl, h_2⟩ := pV_e h_1
      obtain ⟨h1, h_3⟩ := bT_e h_2
      simp only [Bool.and_eq_true] at h1
      have e1 : len = 1 := hlen.resolve_left (fun q => by cases q)
      subst e1
      exact lv_dup2_11 hx hb hd (cv_cat1 h1.1) (cv_cat1 h1.2) (h_3 H locs ls hP hM hl hL (rg_cons (rg_hd hS) (rg_cons (rg_hd (rg_tl hS)) hS)) hV)
    case pop =>
      obtain ⟨v, S1, rfl, h_1⟩ := pV_e h
      obtain ⟨h1, h_2⟩ := bT_e h_1
      have e1 : len = 1 := hlen.resolve_left (fun q => by cases q)
      subst e1
      exact lv_pop hx hb hd (cv_cat1 h1) (h_2 H locs ls hP hM hl hL (rg_tl hS) hV)
    case goto off =>
      obtain ⟨t, ht, h_1⟩ := jmp_e h
      have e1 : len = 3 := hlen.resolve_left (fun q => by cases q)
      subst e1
      exact lv_goto hx hb hd ht (h_1 H locs ls hP hM hl hL hS hV)
    case ifCond cc' off =>
      obtain ⟨x, S1, rfl, h_1⟩ := pI_e h
      have e1 : len = 3 := hlen.resolve_left (fun q => by cases q)
      subst e1
      have hx1 : in32 x := rg_hd hS
      have h00 : in32 0 := ⟨by omega, by omega⟩
      obtain ⟨t0, ht0⟩ := nI_of0 hoff
      have ht0 : (pc : Int) + off = (t0 : Int) := ht0
      cases cc'
      case eq => exact lv_if_eq hx hb hd ht0 (fun z => jmp_t ht0 (h_1.1 ((i32_eq hx1 h00).mp z)) H locs ls hP hM hl hL (rg_tl hS) hV) (fun z => h_1.2 (fun q => z ((i32_eq hx1 h00).mpr q)) H locs ls hP hM hl hL (rg_tl hS) hV)
      case ne => exact lv_if_ne hx hb hd ht0 (fun z => jmp_t ht0 (h_1.1 (fun q => z ((i32_eq hx1 h00).mpr q))) H locs ls hP hM hl hL (rg_tl hS) hV) (fun z => h_1.2 ((i32_eq hx1 h00).mp z) H locs ls hP hM hl hL (rg_tl hS) hV)
      case lt => exact lv_if_lt hx hb hd ht0 (fun z => jmp_t ht0 (h_1.1 ((i32_lt hx1 h00).mp z)) H locs ls hP hM hl hL (rg_tl hS) hV) (fun z => h_1.2 (Int.not_lt.mp (fun q => z ((i32_lt hx1 h00).mpr q))) H locs ls hP hM hl hL (rg_tl hS) hV)
      case ge => exact lv_if_ge hx hb hd ht0 (fun z => jmp_t ht0 (h_1.1 ((i32_le h00 hx1).mp z)) H locs ls hP hM hl hL (rg_tl hS) hV) (fun z => h_1.2 (Int.not_le.mp (fun q => z ((i32_le h00 hx1).mpr q))) H locs ls hP hM hl hL (rg_tl hS) hV)
      case gt => exact lv_if_gt hx hb hd ht0 (fun z => jmp_t ht0 (h_1.1 ((i32_lt h00 hx1).mp z)) H locs ls hP hM hl hL (rg_tl hS) hV) (fun z => h_1.2 (Int.not_lt.mp (fun q => z ((i32_lt h00 hx1).mpr q))) H locs ls hP hM hl hL (rg_tl hS) hV)
      case le => exact lv_if_le hx hb hd ht0 (fun z => jmp_t ht0 (h_1.1 ((i32_le hx1 h00).mp z)) H locs ls hP hM hl hL (rg_tl hS) hV) (fun z => h_1.2 (Int.not_le.mp (fun q => z ((i32_le hx1 h00).mpr q))) H locs ls hP hM hl hL (rg_tl hS) hV)
    case if_icmp cc' off =>
      obtain ⟨y, S1, rfl, h_1⟩ := pI_e h
      obtain ⟨x, S2, rfl, h_2⟩ := pI_e h_1
      have e1 : len = 3 := hlen.resolve_left (fun q => by cases q)
      subst e1
      have hy1 : in32 y := rg_hd hS
      have hx1 : in32 x := rg_hd (rg_tl hS)
      obtain ⟨t0, ht0⟩ := nI_of0 hoff
      have ht0 : (pc : Int) + off = (t0 : Int) := ht0
      cases cc'
      case eq => exact lv_icmp_eq hx hb hd ht0 (fun z => jmp_t ht0 (h_2.1 ((i32_eq hx1 hy1).mp z)) H locs ls hP hM hl hL (rg_tl (rg_tl hS)) hV) (fun z => h_2.2 (fun q => z ((i32_eq hx1 hy1).mpr q)) H locs ls hP hM hl hL (rg_tl (rg_tl hS)) hV)
      case ne => exact lv_icmp_ne hx hb hd ht0 (fun z => jmp_t ht0 (h_2.1 (fun q => z ((i32_eq hx1 hy1).mpr q))) H locs ls hP hM hl hL (rg_tl (rg_tl hS)) hV) (fun z => h_2.2 ((i32_eq hx1 hy1).mp z) H locs ls hP hM hl hL (rg_tl (rg_tl hS)) hV)
      case lt => exact lv_icmp_lt hx hb hd ht0 (fun z => jmp_t ht0 (h_2.1 ((i32_lt hx1 hy1).mp z)) H locs ls hP hM hl hL (rg_tl (rg_tl hS)) hV) (fun z => h_2.2 (Int.not_lt.mp (fun q => z ((i32_lt hx1 hy1).mpr q))) H locs ls hP hM hl hL (rg_tl (rg_tl hS)) hV)
      case ge => exact lv_icmp_ge hx hb hd ht0 (fun z => jmp_t ht0 (h_2.1 ((i32_le hy1 hx1).mp z)) H locs ls hP hM hl hL (rg_tl (rg_tl hS)) hV) (fun z => h_2.2 (Int.not_le.mp (fun q => z ((i32_le hy1 hx1).mpr q))) H locs ls hP hM hl hL (rg_tl (rg_tl hS)) hV)
      case gt => exact lv_icmp_gt hx hb hd ht0 (fun z => jmp_t ht0 (h_2.1 ((i32_lt hy1 hx1).mp z)) H locs ls hP hM hl hL (rg_tl (rg_tl hS)) hV) (fun z => h_2.2 (Int.not_lt.mp (fun q => z ((i32_lt hy1 hx1).mpr q))) H locs ls hP hM hl hL (rg_tl (rg_tl hS)) hV)
      case le => exact lv_icmp_le hx hb hd ht0 (fun z => jmp_t ht0 (h_2.1 ((i32_le hx1 hy1).mp z)) H locs ls hP hM hl hL (rg_tl (rg_tl hS)) hV) (fun z => h_2.2 (Int.not_le.mp (fun q => z ((i32_le hx1 hy1).mpr q))) H locs ls hP hM hl hL (rg_tl (rg_tl hS)) hV)
    case tableswitch d lo hi offs =>
      obtain ⟨x, S1, rfl, h_1⟩ := pI_e h
      obtain ⟨h_2, h_3, h_4⟩ := h_1
      have hx1 : in32 x := rg_hd hS
      by_cases q : x < lo ∨ lo + (offs.toList.length : Int) ≤ x
      · obtain ⟨t, ht, k⟩ := jmp_e (h_3 q)
        exact lv_tableOut hx hb hd (by rw [i32_T hx1]; omega) ht (k H locs ls hP hM hl hL (rg_tl hS) hV)
      · obtain ⟨o, ho, hj⟩ := swi_e h_2 (by omega) (by omega)
        obtain ⟨t, ht, k⟩ := jmp_e hj
        exact lv_tableIn hx hb hd (by rw [i32_T hx1]; omega) (by rw [i32_T hx1]; omega) (by rw [i32_T hx1, ← Array.getElem?_toList]; exact ho) ht (k H locs ls hP hM hl hL (rg_tl hS) hV)
    case getfield j =>
      obtain ⟨f, r, S1, rfl, h_1⟩ := pR_e h
      have e1 : len = 3 := hlen.resolve_left (fun q => by cases q)
      subst e1
      cases hf : cd.2.2.1 j with
      | none => rw [hf] at h_1; exact h_1.elim
      | some q =>
        obtain ⟨ci, k⟩ := q
        rw [hf] at h_1
        obtain ⟨b1, h_2⟩ := bT_e h_1
        simp only [Bool.and_eq_true] at b1
        have kd : (fam f).1 = 0 := Nat.eq_of_beq_eq_true b1.1
        have kc : (fam f).2.2.1 = ci := Nat.eq_of_beq_eq_true b1.2
        obtain ⟨C, T, nn, ty0, q1, q2, q3, q4, q5, q6, q7⟩ := hfld j ci k hf
        have hr0 : 0 ≤ r ∧ r < (fam f).2.1 := rg_hd hS
        obtain ⟨rn, rfl⟩ := nI_of0 hr0.1
        obtain ⟨k0, hk0, hset⟩ := wl_at (ad := ad) (cy := cy) hF μ (f := f) (r := rn) (by omega)
        rw [elr_0 kd] at hk0
        rw [← kc] at q1
        cases hn : nthP (fam f).2.2.2.2 k with
        | mk t g =>
          rw [hn] at h_2
          by_cases ht9 : t = 9
          · subst ht9; exact h_2.elim
          have hv := fsv_get (ad := ad) (w := μ f rn) (i := 0) (nthP_get hn ht9)
          rw [Nat.zero_add] at hv
          match t, h_2, hv, hn with
          | 0, h_2, hv, hn => exact va_get hx hb hts q3 hown hK hP k0 hk0 q1 k q2 q6 (fun _ z => z) hv hd (h_2 H locs ls hP hM hl hL (rg_cons (v := vI _) ((hM f rn k).2 (by simp [lgF, kd, hn]; exact ⟨rfl, rfl⟩)) (rg_tl hS)) hV)
          | 1, h_2, hv, hn => exact va_get hx hb hts q3 hown hK hP k0 hk0 q1 k q2 q6 (fun _ z => z) hv hd (h_2 H locs ls hP hM hl hL (rg_cons (v := vL _) (hM f rn k).1 (rg_tl hS)) hV)
          | 3, h_2, hv, hn =>
            obtain ⟨b2, h_3⟩ := bT_e h_2
            exact va_get hx hb hts q3 hown hK hP k0 hk0 q1 k q2 q6 (fun _ z => z) hv hd (h_3 H locs ls hP hM hl hL (rg_cons (v := vR g 0) ⟨by omega, by have := Nat.le_of_ble_eq_true b2; omega⟩ (rg_tl hS)) hV)
          | 2, h_2, _, _ => exact h_2.elim
          | (_ + 4), h_2, _, _ => exact h_2.elim
    case putfield j =>
      have e1 : len = 3 := hlen.resolve_left (fun q => by cases q)
      subst e1
      dsimp only at h
      cases hf : cd.2.2.1 j with
      | none => rw [hf] at h; exact h.elim
      | some q =>
        obtain ⟨ci, k⟩ := q
        rw [hf] at h
        obtain ⟨C, T, nn, ty0, q1, q2, q3, q4, q5, q6, q7⟩ := hfld j ci k hf
        dsimp only at h
        split at h
        · rename_i v f r S1
          obtain ⟨b1, h_2⟩ := bT_e h
          simp only [Bool.and_eq_true] at b1
          have kd : (fam f).1 = 0 := Nat.eq_of_beq_eq_true b1.1.1
          have kc : (fam f).2.2.1 = ci := Nat.eq_of_beq_eq_true b1.1.2
          have kt : (nthP (fam f).2.2.2.2 k).1 = 0 := Nat.eq_of_beq_eq_true b1.2
          obtain ⟨ty1, ty2⟩ := (q7 f kd kc).1 kt
          have hv1 : in32 v := rg_hd hS
          have hr0 : 0 ≤ r ∧ r < (fam f).2.1 := rg_hd (rg_tl hS)
          obtain ⟨rn, rfl⟩ := nI_of0 hr0.1
          obtain ⟨k0, hk0, hset⟩ := wl_at (ad := ad) (cy := cy) hF μ (f := f) (r := rn) (by omega)
          rw [elr_0 kd] at hk0
          rw [← kc] at q1
          cases hn : nthP (fam f).2.2.2.2 k with
          | mk t g =>
            rw [hn] at kt
            have kt : t = 0 := kt
            subst kt
            have hg := nthP_get hn (by decide)
            have hkl : k < (fsv ad (μ f rn) 0 (fam f).2.2.2.2).length := by rw [fsv_len]; exact (List.getElem?_eq_some_iff.mp hg).1
            refine va_put (v := .int (Int32.ofInt v)) (ty := .int) hx hb hts q3 ty0 q4 q5 hown hK hP hD hV k0 hk0 q1 k q2 q6 (fun _ z => z) ty2 (by rw [q4 k q2, ty1]) rfl rfl hkl hd (fun H1 locs1 hP1 hD1 hS1 => ?_)
            have hs2 := hset (st μ f rn k v) (fun g t q => st_ne μ (fun z => q ⟨z.1, by omega⟩))
            rw [elr_0 kd, st_row] at hs2
            have hs3 := fsv_set (ad := ad) (w := μ f rn) (v := v) (i := 0) hg
            rw [Nat.zero_add] at hs3
            rw [← hs3] at hs2
            have hP2 : va_P D vwCl (wl fam N ad cy (st μ f rn k v)) H1 := by rw [← hs2]; exact hP1
            exact h_2 H1 locs1 ls hP2 (MR_st hM (in64_of hv1) (fun _ => hv1)) hl hL (rg_tl (rg_tl hS)) hS1
        · rename_i v f r S1
          obtain ⟨b1, h_2⟩ := bT_e h
          simp only [Bool.and_eq_true] at b1
          have kd : (fam f).1 = 0 := Nat.eq_of_beq_eq_true b1.1.1
          have kc : (fam f).2.2.1 = ci := Nat.eq_of_beq_eq_true b1.1.2
          have kt : (nthP (fam f).2.2.2.2 k).1 = 1 := Nat.eq_of_beq_eq_true b1.2
          obtain ⟨ty1, ty2⟩ := (q7 f kd kc).2 kt
          have hv1 : in64 v := rg_hd hS
          have hr0 : 0 ≤ r ∧ r < (fam f).2.1 := rg_hd (rg_tl hS)
          obtain ⟨rn, rfl⟩ := nI_of0 hr0.1
          obtain ⟨k0, hk0, hset⟩ := wl_at (ad := ad) (cy := cy) hF μ (f := f) (r := rn) (by omega)
          rw [elr_0 kd] at hk0
          rw [← kc] at q1
          cases hn : nthP (fam f).2.2.2.2 k with
          | mk t g =>
            rw [hn] at kt
            have kt : t = 1 := kt
            subst kt
            have hg := nthP_get hn (by decide)
            have hkl : k < (fsv ad (μ f rn) 0 (fam f).2.2.2.2).length := by rw [fsv_len]; exact (List.getElem?_eq_some_iff.mp hg).1
            refine va_put (v := .long (Int64.ofInt v)) (ty := .long) hx hb hts q3 ty0 q4 q5 hown hK hP hD hV k0 hk0 q1 k q2 q6 (fun _ z => z) ty2 (by rw [q4 k q2, ty1]) rfl rfl hkl hd (fun H1 locs1 hP1 hD1 hS1 => ?_)
            have hs2 := hset (st μ f rn k v) (fun g t q => st_ne μ (fun z => q ⟨z.1, by omega⟩))
            rw [elr_0 kd, st_row] at hs2
            have hs3 := fsv_set (ad := ad) (w := μ f rn) (v := v) (i := 0) hg
            rw [Nat.zero_add] at hs3
            rw [← hs3] at hs2
            have hP2 : va_P D vwCl (wl fam N ad cy (st μ f rn k v)) H1 := by rw [← hs2]; exact hP1
            exact h_2 H1 locs1 ls hP2 (MR_st hM hv1 (fun z => by simp [lgF, kd, hn] at z)) hl hL (rg_tl (rg_tl hS)) hS1
        · exact h.elim
    case iaload =>
      have e1 : len = 1 := hlen.resolve_left (fun q => by cases q)
      subst e1
      obtain ⟨i, S1, rfl, h_1⟩ := pI_e h
      obtain ⟨z, S2, rfl, h_2⟩ := pQ_e h_1
      have hi1 : in32 i := rg_hd hS
      rcases z with ⟨f, r⟩ | a
      · obtain ⟨b1, ⟨hi0, hin⟩, h_3⟩ := bT_e h_2
        have kd : (fam f).1 = 1 := Nat.eq_of_beq_eq_true b1
        have hr0 : 0 ≤ r ∧ r < (fam f).2.1 := rg_hd (rg_tl hS)
        obtain ⟨rn, rfl⟩ := nI_of0 hr0.1
        obtain ⟨jn, rfl⟩ := nI_of0 hi0
        obtain ⟨k0, hk0, hset⟩ := wl_at (ad := ad) (cy := cy) hF μ (f := f) (r := rn) (by omega)
        rw [elr_1 kd] at hk0
        refine va_iald hx hb hK hP k0 0 hk0 rfl (i32_in hi0 hin hi1) hd ?_
        rw [i32_nat hi0 hi1, Int.toNat_natCast]
        exact h_3 H locs ls hP hM hl hL (rg_cons (v := vI _) ((hM f rn jn).2 (by simp [lgF, kd]; exact rfl)) (rg_tl (rg_tl hS))) hV
      · cases scr with
        | none => exact h_2.elim
        | some q =>
          obtain ⟨b, LL, xs⟩ := q
          obtain ⟨hab, ⟨hi0, hin⟩, h_3⟩ := h_2
          subst hab
          obtain ⟨LN, x32, rfl, hL31, hX, hbl, hbA, hxs⟩ := hscr
          obtain ⟨jn, rfl⟩ := nI_of0 hi0
          refine va_sld hx hb hX hbl hbA hV (i32_in hi0 hin hi1) hd ?_
          rw [i32_nat hi0 hi1, Int.toNat_natCast]
          have ex : x32 jn = Int32.ofInt (xs jn) := by rw [hxs jn (by omega), Int32.ofInt_toInt]
          rw [ex]
          exact h_3 H locs ls hP hM hl hL (rg_cons (v := vI _) (by rw [hxs jn (by omega)]; exact ⟨by have := (x32 jn).le_toInt; omega, by have := (x32 jn).toInt_lt; omega⟩) (rg_tl (rg_tl hS))) hV
    case baload =>
      have e1 : len = 1 := hlen.resolve_left (fun q => by cases q)
      subst e1
      obtain ⟨i, f, r, S2, rfl, kd, ⟨hi0, hin⟩, h_3⟩ := ald_e h
      have hi1 : in32 i := rg_hd hS
      have hr0 : 0 ≤ r ∧ r < (fam f).2.1 := rg_hd (rg_tl hS)
      obtain ⟨rn, rfl⟩ := nI_of0 hr0.1
      obtain ⟨jn, rfl⟩ := nI_of0 hi0
      obtain ⟨k0, hk0, hset⟩ := wl_at (ad := ad) (cy := cy) hF μ (f := f) (r := rn) (by omega)
      rw [elr_3 kd] at hk0
      refine va_zald hx hb hK hP k0 2 hk0 rfl (i32_in hi0 hin hi1) hd ?_
      rw [i32_nat hi0 hi1, Int.toNat_natCast]
      exact h_3 H locs ls hP hM hl hL (rg_cons (v := vI _) ((hM f rn jn).2 (by simp [lgF, kd]; exact rfl)) (rg_tl (rg_tl hS))) hV
    case laload =>
      have e1 : len = 1 := hlen.resolve_left (fun q => by cases q)
      subst e1
      obtain ⟨i, f, r, S2, rfl, kd, ⟨hi0, hin⟩, h_3⟩ := ald_e h
      have hi1 : in32 i := rg_hd hS
      have hr0 : 0 ≤ r ∧ r < (fam f).2.1 := rg_hd (rg_tl hS)
      obtain ⟨rn, rfl⟩ := nI_of0 hr0.1
      obtain ⟨jn, rfl⟩ := nI_of0 hi0
      obtain ⟨k0, hk0, hset⟩ := wl_at (ad := ad) (cy := cy) hF μ (f := f) (r := rn) (by omega)
      rw [elr_2 kd] at hk0
      refine va_lald hx hb hK hP k0 1 hk0 rfl (i32_in hi0 hin hi1) hd ?_
      rw [i32_nat hi0 hi1, Int.toNat_natCast]
      exact h_3 H locs ls hP hM hl hL (rg_cons (v := vL _) (hM f rn jn).1 (rg_tl (rg_tl hS))) hV
    case aaload =>
      have e1 : len = 1 := hlen.resolve_left (fun q => by cases q)
      subst e1
      obtain ⟨i, f, r, S2, rfl, kd, ⟨hi0, hin⟩, h_3⟩ := ald_e h
      obtain ⟨b1, h_4⟩ := bT_e h_3
      have hi1 : in32 i := rg_hd hS
      have hr0 : 0 ≤ r ∧ r < (fam f).2.1 := rg_hd (rg_tl hS)
      obtain ⟨rn, rfl⟩ := nI_of0 hr0.1
      obtain ⟨jn, rfl⟩ := nI_of0 hi0
      obtain ⟨k0, hk0, hset⟩ := wl_at (ad := ad) (cy := cy) hF μ (f := f) (r := rn) (by omega)
      rw [elr_4 kd] at hk0
      have hle := Nat.le_of_ble_eq_true b1
      have hlt : (Int32.ofInt (jn : Int)).toNatClampNeg < (fam f).2.2.1 := by rw [i32_nat hi0 hi1, Int.toNat_natCast]; omega
      refine W.aald (v := .ref (ad (fam f).2.2.2.1 jn)) (ty := .array .int) hx hb (hP k0 _ hk0) ((hK.2 3 _ rfl).1 (fam f).2.2.1 (fun j => va_rf (some (ad (fam f).2.2.2.1 j)))) rfl (fun q => by cases q) (by show ¬ (_ < 0 ∨ (arrV _ _ _).slots.size ≤ _); rw [arrV_size]; exact i32_in hi0 hin hi1) (by show (arrV _ _ _).slots[_]? = _; rw [arrV_read _ _ hlt, i32_nat hi0 hi1, Int.toNat_natCast]; rfl) rfl rfl hd ?_
      exact h_4 H locs ls hP hM hl hL (rg_cons (v := vR _ _) ⟨hi0, by omega⟩ (rg_tl (rg_tl hS))) hV
    case iastore =>
      have e1 : len = 1 := hlen.resolve_left (fun q => by cases q)
      subst e1
      obtain ⟨v, S1, rfl, h_1⟩ := pI_e h
      obtain ⟨i, f, r, S2, rfl, kd, ⟨hi0, hin⟩, h_3⟩ := ald_e h_1
      have hv1 : in32 v := rg_hd hS
      have hi1 : in32 i := rg_hd (rg_tl hS)
      have hr0 : 0 ≤ r ∧ r < (fam f).2.1 := rg_hd (rg_tl (rg_tl hS))
      obtain ⟨rn, rfl⟩ := nI_of0 hr0.1
      obtain ⟨jn, rfl⟩ := nI_of0 hi0
      obtain ⟨k0, hk0, hset⟩ := wl_at (ad := ad) (cy := cy) hF μ (f := f) (r := rn) (by omega)
      rw [elr_1 kd] at hk0
      refine va_iast hx hb hK hP hD hV k0 0 hk0 rfl (i32_in hi0 hin hi1) hd (fun H1 locs1 hP1 hD1 hS1 => ?_)
      have hs2 := hset (st μ f rn jn v) (fun g t q => st_ne μ (fun z => q ⟨z.1, by omega⟩))
      rw [elr_1 kd, st_row] at hs2
      rw [i32_nat hi0 hi1, Int.toNat_natCast, upd_of (μ f rn) jn v, hs2] at hP1
      exact h_3 H1 locs1 ls hP1 (MR_st hM (in64_of hv1) (fun _ => hv1)) hl hL (rg_tl (rg_tl (rg_tl hS))) hS1
    case bastore =>
      have e1 : len = 1 := hlen.resolve_left (fun q => by cases q)
      subst e1
      obtain ⟨v, S1, rfl, h_1⟩ := pI_e h
      obtain ⟨i, f, r, S2, rfl, kd, ⟨hi0, hin⟩, h01, h_3⟩ := ald_e h_1
      have hv1 : in32 v := rg_hd hS
      have hi1 : in32 i := rg_hd (rg_tl hS)
      have hr0 : 0 ≤ r ∧ r < (fam f).2.1 := rg_hd (rg_tl (rg_tl hS))
      obtain ⟨rn, rfl⟩ := nI_of0 hr0.1
      obtain ⟨jn, rfl⟩ := nI_of0 hi0
      obtain ⟨k0, hk0, hset⟩ := wl_at (ad := ad) (cy := cy) hF μ (f := f) (r := rn) (by omega)
      rw [elr_3 kd] at hk0
      refine va_zast hx hb hK hP hD hV k0 2 hk0 rfl (i32_in hi0 hin hi1) hd (fun H1 locs1 hP1 hD1 hS1 => ?_)
      have hs2 := hset (st μ f rn jn v) (fun g t q => st_ne μ (fun z => q ⟨z.1, by omega⟩))
      rw [elr_3 kd, st_row] at hs2
      have hz : vp_nar .boolean (Int32.ofInt v) = Int32.ofInt v := by rcases h01 with rfl | rfl <;> decide
      rw [hz, i32_nat hi0 hi1, Int.toNat_natCast, upd_of (μ f rn) jn v, hs2] at hP1
      exact h_3 H1 locs1 ls hP1 (MR_st hM (in64_of hv1) (fun _ => hv1)) hl hL (rg_tl (rg_tl (rg_tl hS))) hS1
    case lastore =>
      have e1 : len = 1 := hlen.resolve_left (fun q => by cases q)
      subst e1
      obtain ⟨v, S1, rfl, h_1⟩ := pL_e h
      obtain ⟨i, f, r, S2, rfl, kd, ⟨hi0, hin⟩, h_3⟩ := ald_e h_1
      have hv1 : in64 v := rg_hd hS
      have hi1 : in32 i := rg_hd (rg_tl hS)
      have hr0 : 0 ≤ r ∧ r < (fam f).2.1 := rg_hd (rg_tl (rg_tl hS))
      obtain ⟨rn, rfl⟩ := nI_of0 hr0.1
      obtain ⟨jn, rfl⟩ := nI_of0 hi0
      obtain ⟨k0, hk0, hset⟩ := wl_at (ad := ad) (cy := cy) hF μ (f := f) (r := rn) (by omega)
      rw [elr_2 kd] at hk0
      refine va_last hx hb hK hP hD hV k0 1 hk0 rfl (i32_in hi0 hin hi1) hd (fun H1 locs1 hP1 hD1 hS1 => ?_)
      have hs2 := hset (st μ f rn jn v) (fun g t q => st_ne μ (fun z => q ⟨z.1, by omega⟩))
      rw [elr_2 kd, st_row] at hs2
      rw [i32_nat hi0 hi1, Int.toNat_natCast, updL_of (μ f rn) jn v, hs2] at hP1
      exact h_3 H1 locs1 ls hP1 (MR_st hM hv1 (fun z => by simp [lgF, kd] at z)) hl hL (rg_tl (rg_tl (rg_tl hS))) hS1
    case arraylength =>
      have e1 : len = 1 := hlen.resolve_left (fun q => by cases q)
      subst e1
      obtain ⟨z, S2, rfl, h_2⟩ := pQ_e h
      split at h_2
      · rename_i a b LL xs
        obtain ⟨hab, h_3⟩ := h_2
        subst hab
        obtain ⟨LN, x32, rfl, hL31, hX, hbl, hbA, hxs⟩ := hscr
        refine va_slen hx hb hX hbl hbA hV hd ?_
        rw [← Int32.ofInt_eq_ofNat]
        exact h_3 H locs ls hP hM hl hL (rg_cons (v := vI _) ⟨by omega, by omega⟩ (rg_tl hS)) hV
      · exact h_2.elim
    case ireturn =>
      obtain ⟨x, S1, rfl, h_1⟩ := pI_e h
      obtain ⟨rfl, h_2⟩ := pE_e h_1
      obtain ⟨b1, h_3⟩ := bT_e h_2
      have e1 : len = 1 := hlen.resolve_left (fun q => by cases q)
      subst e1
      have hx1 : in32 x := rg_hd hS
      split at h_3
      · rename_i e; exact eI x pc n ls H locs μ hx1 hd (Nat.le_of_ble_eq_true b1) (Or.inl e) h_3 hP hM hV
      · rename_i e; exact eI x pc n ls H locs μ hx1 hd (Nat.le_of_ble_eq_true b1) (Or.inr ⟨e, h_3.1⟩) h_3.2 hP hM hV
      · exact h_3.elim
    case lreturn =>
      obtain ⟨x, S1, rfl, h_1⟩ := pL_e h
      obtain ⟨rfl, h_2⟩ := pE_e h_1
      obtain ⟨b1, h_3⟩ := bT_e h_2
      simp only [Bool.and_eq_true] at b1
      have e1 : len = 1 := hlen.resolve_left (fun q => by cases q)
      subst e1
      have hx1 : in64 x := rg_hd hS
      exact eJ x pc n ls H locs μ hx1 hd (Nat.le_of_ble_eq_true b1.1) (Nat.eq_of_beq_eq_true b1.2) h_3 hP hM hV
    case return_ =>
      obtain ⟨rfl, h_2⟩ := pE_e h
      obtain ⟨b1, h_3⟩ := bT_e h_2
      simp only [Bool.and_eq_true] at b1
      have e1 : len = 1 := hlen.resolve_left (fun q => by cases q)
      subst e1
      exact eV pc n ls H locs μ hd (Nat.le_of_ble_eq_true b1.1) (Nat.eq_of_beq_eq_true b1.2) h_3 hP hM hV
    case new j =>
      obtain ⟨rfl, h_2⟩ := pE_e h
      split at h_2
      · rename_i k hk
        obtain ⟨b1, h_3⟩ := bT_e h_2
        exact eT pc k n ls H locs μ (hexc pc k hk) (Nat.le_of_ble_eq_true b1) h_3 hP hM hV (by rw [hml]; exact hl.1)
      · exact h_2.elim
    case invokevirtual j =>
      have e1 : len = 3 := hlen.resolve_left (fun q => by cases q)
      subst e1
      have hAA : ∀ q, Aad fam ad H.size q → A q := fun q hq => by
        rcases hq with ⟨f, r, hr, rfl⟩ | hq
        · exact hAa f r hr
        · exact hAq q (Nat.le_trans hV.1 hq)
      have h9 : ivk cd ET (AW fam N ad cy D p l e R s m args below meth c cd.2.2.2.2.2.2.1 A Q) j pc 3 n L S μ := h
      clear h
      unfold ivk at h9
      cases hcal : cd.2.2.2.1 j with
      | none => rw [hcal] at h9; exact h9.elim
      | some q =>
        obtain ⟨na, u, pre, post, pT⟩ := q
        rw [hcal] at h9
        obtain ⟨b1, σ, hpre, hpost, hthr⟩ := bT_e h9
        simp only [Bool.and_eq_true] at b1
        have b11 := Nat.le_of_ble_eq_true b1.1.1
        have b12 := Nat.le_of_ble_eq_true b1.1.2
        have b13 := Nat.le_of_ble_eq_true b1.2
        have hsp : S = (S.take na) ++ (S.drop na) := (List.take_append_drop na S).symm
        have hrga : ∀ v ∈ (S.take na).reverse, rg fam v := fun v hv => hS v (List.mem_of_mem_take (List.mem_reverse.mp hv))
        have hrgd : ∀ v ∈ S.drop na, rg fam v := fun v hv => hS v (List.mem_of_mem_drop hv)
        have hcells : n + u ≤ R.cells ∧ 6 * n + 6 * u ≤ R.slots := ⟨by omega, by omega⟩
        have hsum : (((S.drop na).map (cv ad)).map fun v => v.category).sum ≤ 8 := by rw [catS_sum]; exact b12
        have e6 : 6 * n + 6 * u = 6 * (n + u) := by omega
        have hPcU : ∀ U : State, U.heap = H → s.WarmedH U.vm → PcA fam N ad cy D sa (S.take na).reverse μ H.size ((S.take na).reverse.map (cv ad)).toArray U := fun U hU hW =>
          ⟨rfl, by rw [hU], by rw [hU]; exact hP, hM, by rw [hU]; exact GF.warm hW hG (fun a h1 h2 => hV.2.1 a h1 h2) hAA⟩
        have hkk : ∀ (ov : Option AV) (μ' : Mm) (H1 : Heap) (locs1 : List Loc), post σ (S.take na).reverse μ ov μ' → (∀ v, ov = some v → rg fam v) → va_P D vwCl (wl fam N ad cy μ') H1 → MR fam μ' → va_S A s.heap H1 locs1 → W p l e R s m args below meth c H1 locs1 (n + u) (6 * n + 6 * u) Q (F0 m (pc + 3) ls ((ov.toList ++ S.drop na).map (cv ad))) := fun ov μ' H1 locs1 hp hrg1 hP1 hM1 hS1 =>
          W.cs rfl e6 (hpost ov μ' hp H1 locs1 ls hP1 hM1 hl hL (fun v hv => (List.mem_append.mp hv).elim (fun q => by
            cases ov with
            | none => cases q
            | some w => rw [List.mem_singleton.mp q]; exact hrg1 w rfl) (hrgd v)) hS1)
        have hkx : ∀ (k : Nat) (ce : Cell) (q9 : Addr) (μ' : Mm) (H1 : Heap) (locs1 : List Loc), (k = 1 ∨ k = 2 ∨ k = 3) → (pT σ (S.take na).reverse μ k ∧ μ' = μ) → va_P D vwCl (wl fam N ad cy μ') H1 → MR fam μ' → va_S A s.heap H1 locs1 → H1[q9]? = some ce → ce.vm = .none → s.vm.findClass (exn k) = some ce.cls → vx_W p l e R s m args below meth c H1 locs1 (n + u) (6 * n + 6 * u) Q (F0 m pc ls ((S.drop na).map (cv ad))) q9 := by
          intro k ce q9 μ' H1 locs1 hk hp hP1 hM1 hS1 hce hcv hcl
          obtain ⟨hpT, rfl⟩ := hp
          have ht := hthr k hpT
          unfold thr at ht
          have hrel := hrel_of (pc := pc) (k := k) hk (fun j k q => hG.2.2.2.1 j k q) cd.2.2.2.2.1 c.exceptionTable.toList [] hH (fun z hz => by cases hz)
          rw [e6]
          cases hfh : fH pc k cd.2.2.2.2.1 with
          | none =>
            rw [hfh] at ht hrel
            exact eU pc k (n + u) ls _ H1 locs1 μ' ce q9 hk hrel b13 ht hP1 hM1 hS1 hce hcv hcl
          | some hpc =>
            rw [hfh] at ht hrel
            obtain ⟨pre', x, suf, r1, r2, r3, r4, r5, r6⟩ := hrel
            refine vx_catch hown pre' x suf r1 r2 r3 r4 r5 (va_Nw.use rfl (hG.2.2.1.1 k)) hce hcv hcl ?_
            rw [r6]
            exact ht q9 H1 locs1 ls hP1 hM1 hl hL (fun v hv => by rw [List.mem_singleton.mp hv]; exact True.intro) hS1
        obtain ⟨C, y, bytes, maxL, ret, ws, fr, lo, nn, hCON, hna, hCW, hrecv⟩ := hcalV pc j 3 hcd na u pre post pT hcal
        obtain ⟨f, r, as', has, kd, T, kk, hclT⟩ := hrecv σ _ _ hpre
        have hr0 : 0 ≤ r ∧ r < (fam f).2.1 := hrga (vR f r) (by rw [has]; exact List.mem_cons_self)
        obtain ⟨k0, hk0, -⟩ := wl_at (ad := ad) (cy := cy) hF μ (f := f) (r := r.toNat) (by omega)
        rw [elr_0 kd] at hk0
        have hlenas : as'.length = nn := by
          have := congrArg List.length has
          rw [List.length_reverse, List.length_take, List.length_cons] at this
          omega
        have hst : S.map (cv ad) = (as'.map (cv ad)).reverse ++ .ref (ad f r.toNat) :: (S.drop na).map (cv ad) := by
          have e2 : S.take na = as'.reverse ++ [vR f r] := by
            have := congrArg List.reverse has
            rw [List.reverse_reverse, List.reverse_cons] at this
            exact this
          have e3 : S.map (cv ad) = ((S.take na) ++ (S.drop na)).map (cv ad) := by rw [← hsp]
          rw [e3, List.map_append, e2, List.map_append, List.map_reverse, List.append_assoc]
          rfl
        rw [has] at hPcU
        refine callA (rest := S.drop na) (vx_runV (As := as'.map (cv ad)) (b := ad f r.toNat) ⟨hx, hb, hml, hown, hts⟩ (hCON σ ad cy D sa _ μ H.size hpre hrga) hCW ⟨pcA_blind, va_recv hK hP hclT hk0, fun U hU hW => by rw [has]; exact hPcU U hU hW⟩ rfl (by rw [List.length_map]; exact hlenas) hl.1 hst (lv_room hsum) hd hcells) hV (fun q _ hq => hAA q hq) hAA hkx hkk
    case invokestatic j =>
      have e1 : len = 3 := hlen.resolve_left (fun q => by cases q)
      subst e1
      have hAA : ∀ q, Aad fam ad H.size q → A q := fun q hq => by
        rcases hq with ⟨f, r, hr, rfl⟩ | hq
        · exact hAa f r hr
        · exact hAq q (Nat.le_trans hV.1 hq)
      have h9 : ivk cd ET (AW fam N ad cy D p l e R s m args below meth c cd.2.2.2.2.2.2.1 A Q) j pc 3 n L S μ := h
      clear h
      unfold ivk at h9
      cases hcal : cd.2.2.2.1 j with
      | none => rw [hcal] at h9; exact h9.elim
      | some q =>
        obtain ⟨na, u, pre, post, pT⟩ := q
        rw [hcal] at h9
        obtain ⟨b1, σ, hpre, hpost, hthr⟩ := bT_e h9
        simp only [Bool.and_eq_true] at b1
        have b11 := Nat.le_of_ble_eq_true b1.1.1
        have b12 := Nat.le_of_ble_eq_true b1.1.2
        have b13 := Nat.le_of_ble_eq_true b1.2
        have hsp : S = (S.take na) ++ (S.drop na) := (List.take_append_drop na S).symm
        have hrga : ∀ v ∈ (S.take na).reverse, rg fam v := fun v hv => hS v (List.mem_of_mem_take (List.mem_reverse.mp hv))
        have hrgd : ∀ v ∈ S.drop na, rg fam v := fun v hv => hS v (List.mem_of_mem_drop hv)
        have hcells : n + u ≤ R.cells ∧ 6 * n + 6 * u ≤ R.slots := ⟨by omega, by omega⟩
        have hsum : (((S.drop na).map (cv ad)).map fun v => v.category).sum ≤ 8 := by rw [catS_sum]; exact b12
        have e6 : 6 * n + 6 * u = 6 * (n + u) := by omega
        have hPcU : ∀ U : State, U.heap = H → s.WarmedH U.vm → PcA fam N ad cy D sa (S.take na).reverse μ H.size ((S.take na).reverse.map (cv ad)).toArray U := fun U hU hW =>
          ⟨rfl, by rw [hU], by rw [hU]; exact hP, hM, by rw [hU]; exact GF.warm hW hG (fun a h1 h2 => hV.2.1 a h1 h2) hAA⟩
        have hkk : ∀ (ov : Option AV) (μ' : Mm) (H1 : Heap) (locs1 : List Loc), post σ (S.take na).reverse μ ov μ' → (∀ v, ov = some v → rg fam v) → va_P D vwCl (wl fam N ad cy μ') H1 → MR fam μ' → va_S A s.heap H1 locs1 → W p l e R s m args below meth c H1 locs1 (n + u) (6 * n + 6 * u) Q (F0 m (pc + 3) ls ((ov.toList ++ S.drop na).map (cv ad))) := fun ov μ' H1 locs1 hp hrg1 hP1 hM1 hS1 =>
          W.cs rfl e6 (hpost ov μ' hp H1 locs1 ls hP1 hM1 hl hL (fun v hv => (List.mem_append.mp hv).elim (fun q => by
            cases ov with
            | none => cases q
            | some w => rw [List.mem_singleton.mp q]; exact hrg1 w rfl) (hrgd v)) hS1)
        have hkx : ∀ (k : Nat) (ce : Cell) (q9 : Addr) (μ' : Mm) (H1 : Heap) (locs1 : List Loc), (k = 1 ∨ k = 2 ∨ k = 3) → (pT σ (S.take na).reverse μ k ∧ μ' = μ) → va_P D vwCl (wl fam N ad cy μ') H1 → MR fam μ' → va_S A s.heap H1 locs1 → H1[q9]? = some ce → ce.vm = .none → s.vm.findClass (exn k) = some ce.cls → vx_W p l e R s m args below meth c H1 locs1 (n + u) (6 * n + 6 * u) Q (F0 m pc ls ((S.drop na).map (cv ad))) q9 := by
          intro k ce q9 μ' H1 locs1 hk hp hP1 hM1 hS1 hce hcv hcl
          obtain ⟨hpT, rfl⟩ := hp
          have ht := hthr k hpT
          unfold thr at ht
          have hrel := hrel_of (pc := pc) (k := k) hk (fun j k q => hG.2.2.2.1 j k q) cd.2.2.2.2.1 c.exceptionTable.toList [] hH (fun z hz => by cases hz)
          rw [e6]
          cases hfh : fH pc k cd.2.2.2.2.1 with
          | none =>
            rw [hfh] at ht hrel
            exact eU pc k (n + u) ls _ H1 locs1 μ' ce q9 hk hrel b13 ht hP1 hM1 hS1 hce hcv hcl
          | some hpc =>
            rw [hfh] at ht hrel
            obtain ⟨pre', x, suf, r1, r2, r3, r4, r5, r6⟩ := hrel
            refine vx_catch hown pre' x suf r1 r2 r3 r4 r5 (va_Nw.use rfl (hG.2.2.1.1 k)) hce hcv hcl ?_
            rw [r6]
            exact ht q9 H1 locs1 ls hP1 hM1 hl hL (fun v hv => by rw [List.mem_singleton.mp hv]; exact True.intro) hS1
        obtain ⟨y, bytes, maxL, ret, ws, fr, lo, hCON, hCB⟩ := hcalS pc j 3 hcd na u pre post pT hcal
        have hlenas : ((S.take na).reverse.map (cv ad)).length = na := by
          rw [List.length_map, List.length_reverse, List.length_take]
          omega
        have hst : S.map (cv ad) = ((S.take na).reverse.map (cv ad)).reverse ++ (S.drop na).map (cv ad) := by
          have e3 : S.map (cv ad) = ((S.take na) ++ (S.drop na)).map (cv ad) := by rw [← hsp]
          rw [e3, List.map_append, List.map_reverse, List.reverse_reverse]
        rcases hCB with hCB | ⟨hh, hCB⟩
        · exact callA (rest := S.drop na) (vx_runS (As := (S.take na).reverse.map (cv ad)) ⟨hx, hb, hml, hown, hts⟩ (hCON σ ad cy D sa _ μ H.size hpre hrga) hCB ⟨pcA_blind, hPcU⟩ rfl hlenas hl.1 hst (lv_room hsum) hd hcells) hV (fun q _ hq => hAA q hq) hAA hkx hkk
        · exact callA (rest := S.drop na) (vx_runSX (As := (S.take na).reverse.map (cv ad)) ⟨hx, hb, hml, hown, hts⟩ (hCON σ ad cy D sa _ μ H.size hpre hrga) hCB ⟨pcA_blind, hPcU⟩ rfl hlenas hl.1 hst (lv_room hsum) hd hcells) hV (fun q _ hq => hAA q hq) hAA hkx hkk
    all_goals exact h.elim
end
