/-! ===== constructors: what they stand on ===== -/
def TY (cy : Nat → ClassId) : List (ClassId × FieldType) := [(cy 1, .int), (cy 2, .long), (cy 3, .boolean), (cy 4, .array .int)]
theorem va_AOA.moved {t : FieldType} {s U : State} (hW : s.WarmedH U.vm) (h : va_AOA t s) : va_AOA t U := by
  have h1 : (Cond.arrayOver (.array t)).before #[] (s.setVm U.vm) = true := by rw [Cond.arrayOver_setVmC hW.alike]; exact h
  exact h1
/-- the words of the constructors that are on no table -/
def IW (U : State) : Prop := va_AOA .int U ∧ va_Nw (.methodLinkNest RX4 46 yX1_init RX4) U ∧ va_Nw (.methodLinkNest RX4 53 yX2_init RX4) U ∧ va_Nw (.methodLinkNest RX4 60 yX3_init RX4) U ∧ va_Nw (.methodLinkNest RX4 67 yX0_init RX4) U
theorem IW.moved {s U : State} (hW : s.WarmedH U.vm) (h : IW s) : IW U := ⟨va_AOA.moved hW h.1, va_Nw.warmM hW h.2.1, va_Nw.warmM hW h.2.2.1, va_Nw.warmM hW h.2.2.2.1, va_Nw.warmM hW h.2.2.2.2⟩
theorem IW.call {U : State} {g : JFrame} {mk : MethodId} {a : Array Value} (h : IW U) : IW (U.calling g mk a) := IW.moved (s := U) (U := U.calling g mk a) (State.WarmedH.refl U) h
theorem g_in {c c' : Cond} (h : c' ∈ wm) : GoodIn (c :: wm) (c' :: wm) := goodIn_cons wm_good (fun w hw => (List.mem_cons.mp hw).elim (fun e => by rw [e]; exact h) id)
/-- cells that are told alike -/
def ceq (p p' : Nat × va_E) : Prop := p.1 = p'.1 ∧ (p.2 = p'.2 ∨ ∃ c z z', p.2 = .inl (c, z) ∧ p'.2 = .inl (c, z') ∧ vp_cell c z = vp_cell c z')
theorem ceq.rf {p : Nat × va_E} : ceq p p := ⟨rfl, Or.inl rfl⟩
theorem arrV_congr {c : ClassId} {N : Nat} {f g : Nat → Value} (h : ∀ j, j < N → f j = g j) : arrV c N f = arrV c N g := by
  unfold arrV
  congr 1
  congr 1
  funext j
  exact h j j.2
theorem ceq.o {a : Nat} {c : ClassId} {N : Nat} {f g : Nat → Option Nat} (h : ∀ j, j < N → f j = g j) : ceq (a, .inl (c, N, .inr (.inr (.inr (.inr f))))) (a, .inl (c, N, .inr (.inr (.inr (.inr g))))) :=
  ⟨rfl, Or.inr ⟨c, _, _, rfl, rfl, by show arrV c N (fun j => va_rf (f j)) = arrV c N (fun j => va_rf (g j)); exact arrV_congr (fun j hj => by rw [h j hj])⟩⟩
theorem ceq.i {a : Nat} {c : ClassId} {N : Nat} {f g : Nat → Int32} (h : ∀ j, j < N → f j = g j) : ceq (a, .inl (c, N, .inl f)) (a, .inl (c, N, .inl g)) :=
  ⟨rfl, Or.inr ⟨c, _, _, rfl, rfl, by show arrV c N (fun j => Value.int (f j)) = arrV c N (fun j => Value.int (g j)); exact arrV_congr (fun j hj => by rw [h j hj])⟩⟩
theorem ceq.l {a : Nat} {c : ClassId} {N : Nat} {f g : Nat → Int64} (h : ∀ j, j < N → f j = g j) : ceq (a, .inl (c, N, .inr (.inl f))) (a, .inl (c, N, .inr (.inl g))) :=
  ⟨rfl, Or.inr ⟨c, _, _, rfl, rfl, by show arrV c N (fun j => Value.long (f j)) = arrV c N (fun j => Value.long (g j)); exact arrV_congr (fun j hj => by rw [h j hj])⟩⟩
def crel : va_W → va_W → Prop
  | [], [] => True
  | a :: l, b :: l' => ceq a b ∧ crel l l'
  | _, _ => False
theorem crel.at : ∀ {ws ws' : va_W}, crel ws ws' → ∀ (k : Nat) (q : Nat × va_E), ws'[k]? = some q → ∃ p, ws[k]? = some p ∧ ceq p q
  | [], [], _, k, q, h => by simp at h
  | a :: l, b :: l', hr, 0, q, h => by
    rw [List.getElem?_cons_zero] at h
    cases h
    exact ⟨a, rfl, hr.1⟩
  | a :: l, b :: l', hr, k + 1, q, h => by
    rw [List.getElem?_cons_succ] at h ⊢
    exact crel.at hr.2 k q h
theorem va_P_rel {D : va_G} {cl : List vw_C} {ws ws' : va_W} {H : Heap} (hr : crel ws ws') (h : va_P D cl ws H) : va_P D cl ws' H := fun k q hq => by
  obtain ⟨p, hp, e1, e2⟩ := crel.at hr k q hq
  have hp' := h k p hp
  obtain ⟨pa, pe⟩ := p
  obtain ⟨qa, qe⟩ := q
  dsimp only at e1 e2
  subst e1
  rcases e2 with rfl | ⟨c, z, z', rfl, rfl, e⟩
  · exact hp'
  · show H[pa]? = some (vp_cell c z')
    rw [← e]
    exact hp'
theorem va_D_rel {A : Nat → Prop} {ws ws' : va_W} (hr : crel ws ws') (h : va_D A ws) : va_D A ws' := by
  refine ⟨fun i j p q hp hq e => ?_, fun k q hq => ?_⟩
  · obtain ⟨a, ha, e1, -⟩ := crel.at hr i p hp
    obtain ⟨b, hb, e2, -⟩ := crel.at hr j q hq
    exact h.1 i j a b ha hb (by rw [e1, e2]; exact e)
  · obtain ⟨a, ha, e1, -⟩ := crel.at hr k q hq
    rw [← e1]
    exact h.2 k a ha
section
variable {p : Program} {l : Launch} {e : Env} {R : Room} {s : State} {m : MethodId} {args : Array Value} {below : List Frame} {meth : Method} {c : Code} {H : Heap} {locs : List Loc} {cells slots : Nat} {Q : State → Prop}
variable {cc : ByteArray} {pc : Nat} {ls : Array Slot} {rest : List Value} {D : va_G} {cl : List vw_C} {A : Nat → Prop} {a : Nat} {cy : Nat → ClassId} {ws : va_W} {H0 : Heap}
/-- newarray; the class is the one that is known -/
theorem ini_new (hexec : p.tables.exec = Jvm.exec) (hb : c.code = cc) {atype : ArrayType} {ty : FieldType} (c4 : ClassId) (N' : Nat) (a0 : vp_A) (hty : newarray.typeOf atype = ty) (harr : (Cond.arrayClass (newarray.typeOf atype)).before args s = true) (nm : String) (hnm : ∀ cA : ClassId, va_RA s cA ty → s.vm.findClass nm = some cA) (h4 : s.vm.findClass nm = some c4)
    (hK : va_K D cl (TY cy) s) (hP : va_P D cl ws H) (hD : va_D A ws) (hS : va_S A H0 H locs) (hA : ∀ q, H0.size ≤ q → A q)
    {n : Int32} (ha : ∀ cA : ClassId, vp_cell cA a0 = arrV cA N' (fun _ => defaultValue ty)) (hn : ¬ n < 0) (hN : n.toNatClampNeg = N') (hbytes : N' * componentBytes ty ≤ 536870912) (hcells : cells + 1 ≤ R.cells) (hslots : slots + N' ≤ R.slots) (hdg : decode cc pc = .ok (.newarray atype, 2))
    (kk : ∀ (q : Nat) (H1 : Heap), va_P D cl (ws ++ [(q, .inl (c4, a0))]) H1 → va_D A (ws ++ [(q, .inl (c4, a0))]) → va_S A H0 H1 locs →
      W p l e R s m args below meth c H1 locs (cells + 1) (slots + N') Q (F0 m (pc + 2) ls (.ref q :: rest))) : W p l e R s m args below meth c H locs cells slots Q (F0 m pc ls (.int n :: rest)) := by
  refine va_newa (a0 := a0) (N' := N') hexec hb harr hty hK hP hD hS hA ha hn hN hbytes hcells hslots hdg (fun q cA H1 hK1 hP1 hD1 hS1 => ?_)
  have e : cA = c4 := Option.some.inj ((hnm cA (hK1.2 4 _ rfl).2).symm.trans h4)
  subst e
  exact kk q H1 hP1 hD1 hS1
/-- multianewarray of ints; the classes are the ones that are known -/
theorem ini_mna (hexec : p.tables.exec = Jvm.exec) (hb : c.code = cc) {own : String} {index : Nat} (N' K' : Nat) (hown : s.vm.findClass own = some m.cls) (hclink : (Cond.classLink own index "[[I").before args s = true) (hover : va_AOA .int s) (harr : (Cond.arrayClass .int).before args s = true)
    (hK : va_K D cl (TY cy) s) (hP : va_P D cl ws H) (hD : va_D A ws) (hS : va_S A H0 H locs) (hA : ∀ q, H0.size ≤ q → A q) {n k : Int32} (hn : ¬ n < 0) (hk : ¬ k < 0) (hN : n.toNatClampNeg = N') (hM : k.toNatClampNeg = K')
    (hb1 : N' * 4 ≤ 536870912) (hb2 : K' * 4 ≤ 536870912) (hb3 : K' ≤ 536870912) (hcells : cells + (1 + N') ≤ R.cells) (hslots : slots + (N' + N' * K') ≤ R.slots) (hdg : decode cc pc = .ok (.multianewarray index 2, 4))
    (kk : ∀ (q : Nat) (r : Nat → Nat) (H1 : Heap),
      va_P D cl (ws ++ (q, .inl (cy 4, N', .inr (.inr (.inr (.inr (fun i => if i < N' then some (r i) else none)))))) :: (List.range N').map (fun i => (r i, .inl (cy 1, K', .inl (fun _ => 0))))) H1 →
      va_D A (ws ++ (q, .inl (cy 4, N', .inr (.inr (.inr (.inr (fun i => if i < N' then some (r i) else none)))))) :: (List.range N').map (fun i => (r i, .inl (cy 1, K', .inl (fun _ => 0))))) → va_S A H0 H1 locs →
      W p l e R s m args below meth c H1 locs (cells + (1 + N')) (slots + (N' + N' * K')) Q (F0 m (pc + 4) ls (.ref q :: rest))) : W p l e R s m args below meth c H locs cells slots Q (F0 m pc ls (.int k :: .int n :: rest)) := by
  refine va_mna (X := ws) (L := []) (f := fun _ => .inl (cy 1, K', .inl (fun _ => 0))) (N' := N') (K' := K') (z := (K', .inl (fun _ => 0))) (cy := cy 1) (ty := .int) hexec hb hown hclink hover harr (va_nm_int (hK.2 0 _ rfl).2) hK (by show va_P D cl (ws ++ []) H; rw [List.append_nil]; exact hP) (by show va_D A (ws ++ []); rw [List.append_nil]; exact hD) hS hA hn hk hN hM hb1 hb2 hb3 rfl rfl hcells hslots (fun c => ?_) hdg (fun q r cA H1 hinj hout hK1 hP1 hD1 hS1 => ?_)
  · unfold Jvm.Free.Multi.innerC
    exact (arrV_new c K' _).trans rfl
  · have e : cA = cy 4 := Option.some.inj (((hK1.2 4 _ rfl).2 : s.vm.findClass _ = some cA).symm.trans (hK.2 3 _ rfl).2)
    subst e
    have hv := vr_rows (L := []) (l := (List.range N').map r) (f := fun _ => (.inl (cy 1, K', .inl (fun _ => 0)) : va_E)) (e := .inl (cy 1, K', .inl (fun _ => 0))) (fun a _ h => by cases h)
    rw [← hv] at hP1 hD1
    rw [List.append_assoc, List.map_map] at hP1 hD1
    have h9 := kk q r H1 hP1 hD1 hS1
    rw [show cells + (1 + N') = cells + 1 + N' by omega, show slots + (N' + N' * K') = slots + N' + N' * K' by omega] at h9
    exact h9
/-- the three kinds -/
theorem ini_i (hexec : p.tables.exec = Jvm.exec) (hb : c.code = cc) (N' : Nat) (harr : (Cond.arrayClass .int).before args s = true) (hK : va_K D cl (TY cy) s) (hP : va_P D cl ws H) (hD : va_D A ws) (hS : va_S A H0 H locs) (hA : ∀ q, H0.size ≤ q → A q)
    {n : Int32} (hn : ¬ n < 0) (hN : n.toNatClampNeg = N') (hbytes : N' * 4 ≤ 536870912) (hcells : cells + 1 ≤ R.cells) (hslots : slots + N' ≤ R.slots) (hdg : decode cc pc = .ok (.newarray .int, 2))
    (kk : ∀ (q : Nat) (H1 : Heap), va_P D cl (ws ++ [(q, .inl (cy 1, N', .inl fun _ => 0))]) H1 → va_D A (ws ++ [(q, .inl (cy 1, N', .inl fun _ => 0))]) → va_S A H0 H1 locs →
      W p l e R s m args below meth c H1 locs (cells + 1) (slots + N') Q (F0 m (pc + 2) ls (.ref q :: rest))) : W p l e R s m args below meth c H locs cells slots Q (F0 m pc ls (.int n :: rest)) :=
  ini_new (cy := cy) (ty := .int) (atype := .int) hexec hb (cy 1) N' (N', .inl fun _ => 0) rfl harr "[I" (fun cA h => va_nm_int h) (va_nm_int (hK.2 0 _ rfl).2) hK hP hD hS hA (fun cA => rfl) hn hN hbytes hcells hslots hdg kk
theorem ini_l (hexec : p.tables.exec = Jvm.exec) (hb : c.code = cc) (N' : Nat) (harr : (Cond.arrayClass .long).before args s = true) (hK : va_K D cl (TY cy) s) (hP : va_P D cl ws H) (hD : va_D A ws) (hS : va_S A H0 H locs) (hA : ∀ q, H0.size ≤ q → A q)
    {n : Int32} (hn : ¬ n < 0) (hN : n.toNatClampNeg = N') (hbytes : N' * 8 ≤ 536870912) (hcells : cells + 1 ≤ R.cells) (hslots : slots + N' ≤ R.slots) (hdg : decode cc pc = .ok (.newarray .long, 2))
    (kk : ∀ (q : Nat) (H1 : Heap), va_P D cl (ws ++ [(q, .inl (cy 2, N', .inr (.inl fun _ => 0)))]) H1 → va_D A (ws ++ [(q, .inl (cy 2, N', .inr (.inl fun _ => 0)))]) → va_S A H0 H1 locs →
      W p l e R s m args below meth c H1 locs (cells + 1) (slots + N') Q (F0 m (pc + 2) ls (.ref q :: rest))) : W p l e R s m args below meth c H locs cells slots Q (F0 m pc ls (.int n :: rest)) :=
  ini_new (cy := cy) (ty := .long) (atype := .long) hexec hb (cy 2) N' (N', .inr (.inl fun _ => 0)) rfl harr "[J" (fun cA h => va_nm_long h) (va_nm_long (hK.2 1 _ rfl).2) hK hP hD hS hA (fun cA => rfl) hn hN hbytes hcells hslots hdg kk
theorem ini_z (hexec : p.tables.exec = Jvm.exec) (hb : c.code = cc) (N' : Nat) (harr : (Cond.arrayClass .boolean).before args s = true) (hK : va_K D cl (TY cy) s) (hP : va_P D cl ws H) (hD : va_D A ws) (hS : va_S A H0 H locs) (hA : ∀ q, H0.size ≤ q → A q)
    {n : Int32} (hn : ¬ n < 0) (hN : n.toNatClampNeg = N') (hbytes : N' * 1 ≤ 536870912) (hcells : cells + 1 ≤ R.cells) (hslots : slots + N' ≤ R.slots) (hdg : decode cc pc = .ok (.newarray .boolean, 2))
    (kk : ∀ (q : Nat) (H1 : Heap), va_P D cl (ws ++ [(q, .inl (cy 3, N', .inl fun _ => 0))]) H1 → va_D A (ws ++ [(q, .inl (cy 3, N', .inl fun _ => 0))]) → va_S A H0 H1 locs →
      W p l e R s m args below meth c H1 locs (cells + 1) (slots + N') Q (F0 m (pc + 2) ls (.ref q :: rest))) : W p l e R s m args below meth c H locs cells slots Q (F0 m pc ls (.int n :: rest)) :=
  ini_new (cy := cy) (ty := .boolean) (atype := .boolean) hexec hb (cy 3) N' (N', .inl fun _ => 0) rfl harr "[Z" (fun cA h => va_nm_boolean h) (va_nm_boolean (hK.2 2 _ rfl).2) hK hP hD hS hA (fun cA => rfl) hn hN hbytes hcells hslots hdg kk
end
theorem vin_0 : vp_in 0 4 := by unfold vp_in; decide +kernel
theorem vin_1 : vp_in 1 4 := by unfold vp_in; decide +kernel
theorem vin_2 : vp_in 2 4 := by unfold vp_in; decide +kernel
theorem vin_3 : vp_in 3 4 := by unfold vp_in; decide +kernel
theorem n_1 : ¬ (1 : Int32) < 0 ∧ (1 : Int32).toNatClampNeg = 1 := by decide +kernel
theorem n_4 : ¬ (4 : Int32) < 0 ∧ (4 : Int32).toNatClampNeg = 4 := by decide +kernel
theorem n_6 : ¬ (6 : Int32) < 0 ∧ (6 : Int32).toNatClampNeg = 6 := by decide +kernel
theorem n_14 : ¬ (14 : Int32) < 0 ∧ (14 : Int32).toNatClampNeg = 14 := by decide +kernel
theorem n_16 : ¬ (16 : Int32) < 0 ∧ (16 : Int32).toNatClampNeg = 16 := by decide +kernel
theorem n_24 : ¬ (24 : Int32) < 0 ∧ (24 : Int32).toNatClampNeg = 24 := by decide +kernel
theorem n_40 : ¬ (40 : Int32) < 0 ∧ (40 : Int32).toNatClampNeg = 40 := by decide +kernel
theorem n_60 : ¬ (60 : Int32) < 0 ∧ (60 : Int32).toNatClampNeg = 60 := by decide +kernel
theorem n_1000 : ¬ (1000 : Int32) < 0 ∧ (1000 : Int32).toNatClampNeg = 1000 := by decide +kernel
theorem n_3000 : ¬ (3000 : Int32) < 0 ∧ (3000 : Int32).toNatClampNeg = 3000 := by decide +kernel
theorem pc_blind {D : va_G} {cy : Nat → ClassId} {w : va_W} {av : List Value} {sz : Nat} : FrameBlind (va_Pc av (fun U => U.heap.size = sz ∧ va_P D vwCl w U.heap ∧ va_K D vwCl (TY cy) U ∧ va_D (fun _ => True) w ∧ IW U)) := fun a U g mk q => by
  obtain ⟨q0, q1, qP, qK, qD, qI⟩ := q
  exact ⟨q0, q1, qP, va_K.moved (u := U) (U := U.calling g mk a) (Vm.Alike.refl U.vm) qK, qD, IW.call qI⟩
def wsX1u (cy : Nat → ClassId) (h0 : Nat) (u : Nat → Nat) : va_W := [(h0, .inr (1, [.ref (u 0), .ref (u 1), .ref (u 2), .ref (u 3), .ref (u 4), .int 0])), (u 0, .inl (cy 1, 1000, .inl fun _ => 0)), (u 1, .inl (cy 1, 1000, .inl fun _ => 0)), (u 2, .inl (cy 1, 1000, .inl fun _ => 0)), (u 3, .inl (cy 1, 1000, .inl fun _ => 0)), (u 4, .inl (cy 1, 1000, .inl fun _ => 0))]
set_option maxHeartbeats 8000000 in
set_option maxRecDepth 100000 in
theorem c_X1_init (l : Launch) (D : va_G) (cy : Nat → ClassId) (h0 sz : Nat) : Met l yX1_init (Cond.code yX1_init cX1_init 1 none :: wm) ({ frames := 1, cells := 5, slots := 5000, locals := 12 }) (va_Pc [.ref h0] (fun U => U.heap.size = sz ∧ va_P D vwCl [(h0, .inr (1, [.null, .null, .null, .null, .null, .int 0]))] U.heap ∧ va_K D vwCl (TY cy) U ∧ va_D (fun _ => True) [(h0, .inr (1, [.null, .null, .null, .null, .null, .int 0]))] ∧ IW U)) (va_Qv (fun _ : Nat → Nat => True) (fun u t => va_P D vwCl (wsX1u cy h0 u) t.heap ∧ va_D (va_A [(h0, .inr (1, [.null, .null, .null, .null, .null, .int 0]))] sz) (wsX1u cy h0 u)) (va_A [(h0, .inr (1, [.null, .null, .null, .null, .null, .int 0]))] sz)) 5 5000 (va_A [(h0, .inr (1, [.null, .null, .null, .null, .null, .int 0]))] sz) := by
  refine Met.ofW (cc := cX1_init) (maxL := 1) (ret := none) (by decide) rfl ?_
  intro p e s m args below meth c s₁ B hml hv
  obtain ⟨rfl, hsz, hP, hK, hD0, hI⟩ := hv
  have hx := B.exec
  have hb := B.bytes
  have hr := B.returns
  have hts := atoms_spec (ws := Cond.code yX1_init cX1_init 1 none :: wm) B.pre
  have hw : ∀ (w : Cond) (i : Nat), (lw_tbl[i]? = some w ∧ goodWord w = true) → w.before #[Value.ref h0] s = true := fun w i h => hts w (List.mem_cons_of_mem _ (wm_p1 w i h))
  have hown : s.vm.findClass RX1 = some m.cls := findClass_of_methodNamed B.named
  have hin : meth.name = "<init>" := (name_of_methodNamed B.named B.method).1
  subst hsz
  have hD := hD0.self (sz := s.heap.size)
  generalize hAe : va_A [(h0, .inr (1, [.null, .null, .null, .null, .null, .int 0]))] s.heap.size = A at hD ⊢
  have hA : ∀ q : Nat, s.heap.size ≤ q → A q := fun q h => by rw [← hAe]; exact Or.inr h
  have hS : va_S A s.heap s.heap [] := va_S.rf
  have hP : va_P D vwCl [(h0, .inr (1, [.null, .null, .null, .null, .null, .int 0]))] s.heap := hP
  have hl := lv_entry ([.ref h0]) (n := 1) (Nat.le_of_ble_eq_true rfl)
  rw [lg_entry_eq]
  generalize (lg_sl ([.ref h0]) ++ List.replicate (1 - (lg_sl ([.ref h0])).length) Slot.unset).toArray = ls at hl ⊢
  generalize hHe : s.heap = H at hP hS ⊢
  have hS : va_S A s.heap H [] := by rw [hHe]; exact hS
  have hl : lv_has ls 1 [(0, .ref h0)] := hl
  refine lv_aload_n hx hb (show decode cX1_init 0 = .ok (.aload_n 0, 1) by decide +kernel) rfl (lv_at hl 0 rfl) ?_
  refine W.objInit hx hb hown (hw (.methodLink RX1 3 Lib.objectInit) 78 (by decide +kernel)) (hw (.instanceMethod Lib.objectInit) 69 (by decide +kernel)) (hw (.code Lib.objectInit ⟨#[177]⟩ 1 none) 70 (by decide +kernel)) rfl (by rw [hml]; exact hl.1) rfl (show decode cX1_init 1 = .ok (.invokespecial 3, 3) by decide +kernel) (Nat.le_of_ble_eq_true rfl) (Nat.le_of_ble_eq_true rfl) ?_
  refine W.eq (g2 := F0 m 4 ls []) rfl ?_
  refine lv_aload_n hx hb (show decode cX1_init 4 = .ok (.aload_n 0, 1) by decide +kernel) rfl (lv_at hl 0 rfl) ?_
  refine lv_sipush (v := 1000) hx hb (show decode cX1_init 5 = .ok (.sipush 1000, 3) by decide +kernel) (by decide +kernel) ?_
  refine ini_i (cy := cy) hx hb 1000 (hw (.arrayClass .int) 104 (by decide +kernel)) hK hP hD hS hA n_1000.1 n_1000.2 (Nat.le_of_ble_eq_true rfl) (Nat.le_of_ble_eq_true rfl) (Nat.le_of_ble_eq_true rfl) (show decode cX1_init 8 = .ok (.newarray .int, 2) by decide +kernel) (fun q1 H hP hD hS => ?_)
  refine W.widen (k := 1) (n := 1000) (Nat.le_of_ble_eq_true rfl) (Nat.le_of_ble_eq_true rfl) ?_
  have hP : va_P D vwCl [(h0, .inr (1, [.null, .null, .null, .null, .null, .int 0])), (q1, .inl (cy 1, 1000, .inl fun _ => 0))] H := hP
  have hD : va_D A [(h0, .inr (1, [.null, .null, .null, .null, .null, .int 0])), (q1, .inl (cy 1, 1000, .inl fun _ => 0))] := hD
  refine va_putF (D := D) (ci := 1) (v := .ref q1) (ty := .array .int) (C := RX1) (T := TX1) (N := 6) hx hb hts (fun w h => List.mem_cons_of_mem _ (inwX1 w h)) tyX1 tyX1_ok nmX1 hown hK hP hD hS 0 rfl rfl 0 (by decide) (hw (.fieldLink RX1 9 "Primeborrow$Loans" "stock" "[I") 79 (by decide +kernel)) (fun _ h9 => h9) rfl hin rfl (by decide +kernel) rfl rfl (Nat.le_of_ble_eq_true rfl) (show decode cX1_init 10 = .ok (.putfield 9, 3) by decide +kernel) (fun H locs hP hD hS => ?_)
  have hP : va_P D vwCl [(h0, .inr (1, [.ref q1, .null, .null, .null, .null, .int 0])), (q1, .inl (cy 1, 1000, .inl fun _ => 0))] H := hP
  have hD : va_D A [(h0, .inr (1, [.ref q1, .null, .null, .null, .null, .int 0])), (q1, .inl (cy 1, 1000, .inl fun _ => 0))] := hD
  refine lv_aload_n hx hb (show decode cX1_init 13 = .ok (.aload_n 0, 1) by decide +kernel) rfl (lv_at hl 0 rfl) ?_
  refine lv_sipush (v := 1000) hx hb (show decode cX1_init 14 = .ok (.sipush 1000, 3) by decide +kernel) (by decide +kernel) ?_
  refine ini_i (cy := cy) hx hb 1000 (hw (.arrayClass .int) 104 (by decide +kernel)) hK hP hD hS hA n_1000.1 n_1000.2 (Nat.le_of_ble_eq_true rfl) (Nat.le_of_ble_eq_true rfl) (Nat.le_of_ble_eq_true rfl) (show decode cX1_init 17 = .ok (.newarray .int, 2) by decide +kernel) (fun q2 H hP hD hS => ?_)
  refine W.widen (k := 2) (n := 2000) (Nat.le_of_ble_eq_true rfl) (Nat.le_of_ble_eq_true rfl) ?_
  have hP : va_P D vwCl [(h0, .inr (1, [.ref q1, .null, .null, .null, .null, .int 0])), (q1, .inl (cy 1, 1000, .inl fun _ => 0)), (q2, .inl (cy 1, 1000, .inl fun _ => 0))] H := hP
  have hD : va_D A [(h0, .inr (1, [.ref q1, .null, .null, .null, .null, .int 0])), (q1, .inl (cy 1, 1000, .inl fun _ => 0)), (q2, .inl (cy 1, 1000, .inl fun _ => 0))] := hD
  refine va_putF (D := D) (ci := 1) (v := .ref q2) (ty := .array .int) (C := RX1) (T := TX1) (N := 6) hx hb hts (fun w h => List.mem_cons_of_mem _ (inwX1 w h)) tyX1 tyX1_ok nmX1 hown hK hP hD hS 0 rfl rfl 1 (by decide) (hw (.fieldLink RX1 15 "Primeborrow$Loans" "from" "[I") 81 (by decide +kernel)) (fun _ h9 => h9) rfl hin rfl (by decide +kernel) rfl rfl (Nat.le_of_ble_eq_true rfl) (show decode cX1_init 19 = .ok (.putfield 15, 3) by decide +kernel) (fun H locs hP hD hS => ?_)
  have hP : va_P D vwCl [(h0, .inr (1, [.ref q1, .ref q2, .null, .null, .null, .int 0])), (q1, .inl (cy 1, 1000, .inl fun _ => 0)), (q2, .inl (cy 1, 1000, .inl fun _ => 0))] H := hP
  have hD : va_D A [(h0, .inr (1, [.ref q1, .ref q2, .null, .null, .null, .int 0])), (q1, .inl (cy 1, 1000, .inl fun _ => 0)), (q2, .inl (cy 1, 1000, .inl fun _ => 0))] := hD
  refine lv_aload_n hx hb (show decode cX1_init 22 = .ok (.aload_n 0, 1) by decide +kernel) rfl (lv_at hl 0 rfl) ?_
  refine lv_sipush (v := 1000) hx hb (show decode cX1_init 23 = .ok (.sipush 1000, 3) by decide +kernel) (by decide +kernel) ?_
  refine ini_i (cy := cy) hx hb 1000 (hw (.arrayClass .int) 104 (by decide +kernel)) hK hP hD hS hA n_1000.1 n_1000.2 (Nat.le_of_ble_eq_true rfl) (Nat.le_of_ble_eq_true rfl) (Nat.le_of_ble_eq_true rfl) (show decode cX1_init 26 = .ok (.newarray .int, 2) by decide +kernel) (fun q3 H hP hD hS => ?_)
  refine W.widen (k := 3) (n := 3000) (Nat.le_of_ble_eq_true rfl) (Nat.le_of_ble_eq_true rfl) ?_
  have hP : va_P D vwCl [(h0, .inr (1, [.ref q1, .ref q2, .null, .null, .null, .int 0])), (q1, .inl (cy 1, 1000, .inl fun _ => 0)), (q2, .inl (cy 1, 1000, .inl fun _ => 0)), (q3, .inl (cy 1, 1000, .inl fun _ => 0))] H := hP
  have hD : va_D A [(h0, .inr (1, [.ref q1, .ref q2, .null, .null, .null, .int 0])), (q1, .inl (cy 1, 1000, .inl fun _ => 0)), (q2, .inl (cy 1, 1000, .inl fun _ => 0)), (q3, .inl (cy 1, 1000, .inl fun _ => 0))] := hD
  refine va_putF (D := D) (ci := 1) (v := .ref q3) (ty := .array .int) (C := RX1) (T := TX1) (N := 6) hx hb hts (fun w h => List.mem_cons_of_mem _ (inwX1 w h)) tyX1 tyX1_ok nmX1 hown hK hP hD hS 0 rfl rfl 2 (by decide) (hw (.fieldLink RX1 18 "Primeborrow$Loans" "to" "[I") 83 (by decide +kernel)) (fun _ h9 => h9) rfl hin rfl (by decide +kernel) rfl rfl (Nat.le_of_ble_eq_true rfl) (show decode cX1_init 28 = .ok (.putfield 18, 3) by decide +kernel) (fun H locs hP hD hS => ?_)
  have hP : va_P D vwCl [(h0, .inr (1, [.ref q1, .ref q2, .ref q3, .null, .null, .int 0])), (q1, .inl (cy 1, 1000, .inl fun _ => 0)), (q2, .inl (cy 1, 1000, .inl fun _ => 0)), (q3, .inl (cy 1, 1000, .inl fun _ => 0))] H := hP
  have hD : va_D A [(h0, .inr (1, [.ref q1, .ref q2, .ref q3, .null, .null, .int 0])), (q1, .inl (cy 1, 1000, .inl fun _ => 0)), (q2, .inl (cy 1, 1000, .inl fun _ => 0)), (q3, .inl (cy 1, 1000, .inl fun _ => 0))] := hD
  refine lv_aload_n hx hb (show decode cX1_init 31 = .ok (.aload_n 0, 1) by decide +kernel) rfl (lv_at hl 0 rfl) ?_
  refine lv_sipush (v := 1000) hx hb (show decode cX1_init 32 = .ok (.sipush 1000, 3) by decide +kernel) (by decide +kernel) ?_
  refine ini_i (cy := cy) hx hb 1000 (hw (.arrayClass .int) 104 (by decide +kernel)) hK hP hD hS hA n_1000.1 n_1000.2 (Nat.le_of_ble_eq_true rfl) (Nat.le_of_ble_eq_true rfl) (Nat.le_of_ble_eq_true rfl) (show decode cX1_init 35 = .ok (.newarray .int, 2) by decide +kernel) (fun q4 H hP hD hS => ?_)
  refine W.widen (k := 4) (n := 4000) (Nat.le_of_ble_eq_true rfl) (Nat.le_of_ble_eq_true rfl) ?_
  have hP : va_P D vwCl [(h0, .inr (1, [.ref q1, .ref q2, .ref q3, .null, .null, .int 0])), (q1, .inl (cy 1, 1000, .inl fun _ => 0)), (q2, .inl (cy 1, 1000, .inl fun _ => 0)), (q3, .inl (cy 1, 1000, .inl fun _ => 0)), (q4, .inl (cy 1, 1000, .inl fun _ => 0))] H := hP
  have hD : va_D A [(h0, .inr (1, [.ref q1, .ref q2, .ref q3, .null, .null, .int 0])), (q1, .inl (cy 1, 1000, .inl fun _ => 0)), (q2, .inl (cy 1, 1000, .inl fun _ => 0)), (q3, .inl (cy 1, 1000, .inl fun _ => 0)), (q4, .inl (cy 1, 1000, .inl fun _ => 0))] := hD
  refine va_putF (D := D) (ci := 1) (v := .ref q4) (ty := .array .int) (C := RX1) (T := TX1) (N := 6) hx hb hts (fun w h => List.mem_cons_of_mem _ (inwX1 w h)) tyX1 tyX1_ok nmX1 hown hK hP hD hS 0 rfl rfl 3 (by decide) (hw (.fieldLink RX1 21 "Primeborrow$Loans" "shares" "[I") 85 (by decide +kernel)) (fun _ h9 => h9) rfl hin rfl (by decide +kernel) rfl rfl (Nat.le_of_ble_eq_true rfl) (show decode cX1_init 37 = .ok (.putfield 21, 3) by decide +kernel) (fun H locs hP hD hS => ?_)
  have hP : va_P D vwCl [(h0, .inr (1, [.ref q1, .ref q2, .ref q3, .ref q4, .null, .int 0])), (q1, .inl (cy 1, 1000, .inl fun _ => 0)), (q2, .inl (cy 1, 1000, .inl fun _ => 0)), (q3, .inl (cy 1, 1000, .inl fun _ => 0)), (q4, .inl (cy 1, 1000, .inl fun _ => 0))] H := hP
  have hD : va_D A [(h0, .inr (1, [.ref q1, .ref q2, .ref q3, .ref q4, .null, .int 0])), (q1, .inl (cy 1, 1000, .inl fun _ => 0)), (q2, .inl (cy 1, 1000, .inl fun _ => 0)), (q3, .inl (cy 1, 1000, .inl fun _ => 0)), (q4, .inl (cy 1, 1000, .inl fun _ => 0))] := hD
  refine lv_aload_n hx hb (show decode cX1_init 40 = .ok (.aload_n 0, 1) by decide +kernel) rfl (lv_at hl 0 rfl) ?_
  refine lv_sipush (v := 1000) hx hb (show decode cX1_init 41 = .ok (.sipush 1000, 3) by decide +kernel) (by decide +kernel) ?_
  refine ini_i (cy := cy) hx hb 1000 (hw (.arrayClass .int) 104 (by decide +kernel)) hK hP hD hS hA n_1000.1 n_1000.2 (Nat.le_of_ble_eq_true rfl) (Nat.le_of_ble_eq_true rfl) (Nat.le_of_ble_eq_true rfl) (show decode cX1_init 44 = .ok (.newarray .int, 2) by decide +kernel) (fun q5 H hP hD hS => ?_)
  refine W.widen (k := 5) (n := 5000) (Nat.le_of_ble_eq_true rfl) (Nat.le_of_ble_eq_true rfl) ?_
  have hP : va_P D vwCl [(h0, .inr (1, [.ref q1, .ref q2, .ref q3, .ref q4, .null, .int 0])), (q1, .inl (cy 1, 1000, .inl fun _ => 0)), (q2, .inl (cy 1, 1000, .inl fun _ => 0)), (q3, .inl (cy 1, 1000, .inl fun _ => 0)), (q4, .inl (cy 1, 1000, .inl fun _ => 0)), (q5, .inl (cy 1, 1000, .inl fun _ => 0))] H := hP
  have hD : va_D A [(h0, .inr (1, [.ref q1, .ref q2, .ref q3, .ref q4, .null, .int 0])), (q1, .inl (cy 1, 1000, .inl fun _ => 0)), (q2, .inl (cy 1, 1000, .inl fun _ => 0)), (q3, .inl (cy 1, 1000, .inl fun _ => 0)), (q4, .inl (cy 1, 1000, .inl fun _ => 0)), (q5, .inl (cy 1, 1000, .inl fun _ => 0))] := hD
  refine va_putF (D := D) (ci := 1) (v := .ref q5) (ty := .array .int) (C := RX1) (T := TX1) (N := 6) hx hb hts (fun w h => List.mem_cons_of_mem _ (inwX1 w h)) tyX1 tyX1_ok nmX1 hown hK hP hD hS 0 rfl rfl 4 (by decide) (hw (.fieldLink RX1 24 "Primeborrow$Loans" "fee" "[I") 87 (by decide +kernel)) (fun _ h9 => h9) rfl hin rfl (by decide +kernel) rfl rfl (Nat.le_of_ble_eq_true rfl) (show decode cX1_init 46 = .ok (.putfield 24, 3) by decide +kernel) (fun H locs hP hD hS => ?_)
  have hP : va_P D vwCl [(h0, .inr (1, [.ref q1, .ref q2, .ref q3, .ref q4, .ref q5, .int 0])), (q1, .inl (cy 1, 1000, .inl fun _ => 0)), (q2, .inl (cy 1, 1000, .inl fun _ => 0)), (q3, .inl (cy 1, 1000, .inl fun _ => 0)), (q4, .inl (cy 1, 1000, .inl fun _ => 0)), (q5, .inl (cy 1, 1000, .inl fun _ => 0))] H := hP
  have hD : va_D A [(h0, .inr (1, [.ref q1, .ref q2, .ref q3, .ref q4, .ref q5, .int 0])), (q1, .inl (cy 1, 1000, .inl fun _ => 0)), (q2, .inl (cy 1, 1000, .inl fun _ => 0)), (q3, .inl (cy 1, 1000, .inl fun _ => 0)), (q4, .inl (cy 1, 1000, .inl fun _ => 0)), (q5, .inl (cy 1, 1000, .inl fun _ => 0))] := hD
  have hrel : crel [(h0, .inr (1, [.ref q1, .ref q2, .ref q3, .ref q4, .ref q5, .int 0])), (q1, .inl (cy 1, 1000, .inl fun _ => 0)), (q2, .inl (cy 1, 1000, .inl fun _ => 0)), (q3, .inl (cy 1, 1000, .inl fun _ => 0)), (q4, .inl (cy 1, 1000, .inl fun _ => 0)), (q5, .inl (cy 1, 1000, .inl fun _ => 0))] (wsX1u cy h0 (fun k => ([q1, q2, q3, q4, q5] : List Nat).getD k 0)) := ⟨ceq.rf, ceq.rf, ceq.rf, ceq.rf, ceq.rf, ceq.rf, trivial⟩
  exact W.vret hx hb hr (fun t ht hW => ⟨⟨(fun k => ([q1, q2, q3, q4, q5] : List Nat).getD k 0), rfl, trivial, by rw [ht]; exact va_P_rel hrel hP, va_D_rel hrel hD⟩, hS.F ht⟩) hS.2.2 (show decode cX1_init 49 = .ok (.return_, 1) by decide +kernel)
