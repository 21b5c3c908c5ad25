/-! ===== the law from its entry ===== -/
theorem exn3 (k : Nat) : exn k = "java/lang/IndexOutOfBoundsException" ∨ exn k = "java/lang/IllegalArgumentException" ∨ exn k = "java/lang/IllegalStateException" := by
  match k with
  | 0 => exact Or.inr (Or.inr rfl)
  | 1 => exact Or.inl rfl
  | 2 => exact Or.inr (Or.inl rfl)
  | k + 3 => exact Or.inr (Or.inr rfl)
theorem gf_0 {s : State} {args : Array Value} {ad : Nat → Nat → Nat} {cy : Nat → ClassId} {D : va_G} (hts : ∀ w ∈ lw_tbl, w.before args s = true) (hgv : (Jvm.Cond.and given_1 narrow_1).before args s = true) (hK : va_K D vwCl (TY cy) s) (hI : Inj fam0 ad) (hA : ∀ f r, r < (fam0 f).2.1 → s.heap.size ≤ ad f r) : ∃ sa, GF fam0 ad cy D sa (Aad fam0 ad s.heap.size) s s.heap := by
  have hw : ∀ (w : Cond) (i : Nat), lw_tbl[i]? = some w → w.before args s = true := fun w i h => hts w (List.mem_of_getElem? h)
  have hs := flat_of_before _ hgv
  have hfc : s.vm.findClass RX4 = some (D.1 4) := (hK.1 4 _ rfl).2.1
  have hstr : ∀ (k : Nat) (tx : String), (Cond.stringRef RX4 k tx).before args s = true → ∃ a, vk_R RX4 k tx a s := fun k tx h => by
    obtain ⟨_, _, _, a, _, _, _, _, _, he⟩ := Cond.stringRef_spec hfc h
    exact ⟨a, vk_R.of h he⟩
  obtain ⟨a0, h0⟩ := hstr 216 "no such stock" (hw _ 292 (by decide +kernel))
  obtain ⟨a1, h1⟩ := hstr 221 "no such client" (hw _ 357 (by decide +kernel))
  obtain ⟨a2, h2⟩ := hstr 223 "no such lender" (hw _ 414 (by decide +kernel))
  obtain ⟨a3, h3⟩ := hstr 225 "no such loan" (hw _ 668 (by decide +kernel))
  obtain ⟨a4, h4⟩ := hstr 227 "no such locate" (hw _ 550 (by decide +kernel))
  obtain ⟨a5, h5⟩ := hstr 231 "out of range" (hw _ 332 (by decide +kernel))
  obtain ⟨a6, h6⟩ := hstr 236 "not as things are" (hw _ 372 (by decide +kernel))
  have hn : ∀ a : Nat, a < s.heap.size → ¬ Aad fam0 ad s.heap.size a := fun a ha h => by
    rcases h with ⟨f, r, hr, rfl⟩ | h
    · have := hA f r hr
      omega
    · omega
  refine ⟨fun k => [a0, a1, a2, a3, a4, a5, a6].getD k 0, hK, hI, ⟨fun k => ?_, ?_⟩, fun j k n => ?_, ⟨h0, h1, h2, h3, h4, h5, h6⟩, ?_, ?_⟩
  · rcases exn3 k with e | e | e <;> rw [e]
    · exact va_Nw.of rfl (hw _ 253 (by decide +kernel))
    · exact va_Nw.of rfl (hw _ 325 (by decide +kernel))
    · exact va_Nw.of rfl (hw _ 365 (by decide +kernel))
  · intro x hx
    have h1 : (Cond.declares (Bundle.initS "java/lang/RuntimeException")).before args s = true := hw _ 255 (by decide +kernel)
    have h2 : (Cond.declares (Bundle.initS "java/lang/Exception")).before args s = true := hw _ 257 (by decide +kernel)
    have h3 : (Cond.declares (Bundle.initS Bundle.tN)).before args s = true := hw _ 259 (by decide +kernel)
    rcases List.mem_cons.mp hx with rfl | hx
    · exact va_Nw.of rfl h1
    rcases List.mem_cons.mp hx with rfl | hx
    · exact va_Nw.of rfl h2
    rcases List.mem_cons.mp hx with rfl | hx
    · exact va_Nw.of rfl h3
    · cases hx
  · rcases exn3 j with e | e | e <;> rcases exn3 k with e' | e' | e'
    · exact absurd (e.trans e'.symm) n
    · rw [e, e']; exact va_Nc.of (args := args) (hs _ (by decide +kernel))
    · rw [e, e']; exact va_Nc.of (args := args) (hs _ (by decide +kernel))
    · rw [e, e']; exact va_Nc.of (args := args) (hs _ (by decide +kernel))
    · exact absurd (e.trans e'.symm) n
    · rw [e, e']; exact va_Nc.of (args := args) (hs _ (by decide +kernel))
    · rw [e, e']; exact va_Nc.of (args := args) (hs _ (by decide +kernel))
    · rw [e, e']; exact va_Nc.of (args := args) (hs _ (by decide +kernel))
    · exact absurd (e.trans e'.symm) n
  · exact vx_Zqof (hw _ 278 (by decide +kernel)) (hw _ 56 (by decide +kernel)) (hs _ (by decide +kernel)) hn
  · exact vx_Zqof (hw _ 280 (by decide +kernel)) (hw _ 56 (by decide +kernel)) (hs _ (by decide +kernel)) hn
theorem k_ar {s : State} {args : Array Value} {ty : FieldType} (h : (Cond.arrayClass ty).before args s = true) : ∃ cA : ClassId, ArrOfT s cA ty ∧ s.vm.findClass ("[" ++ ty.toString) = some cA := by
  obtain ⟨c, k, comp, h1, h2, h3⟩ := Cond.arrayClass_spec h
  exact ⟨c, fun n z => ⟨(fun q hq => by cases hq), k, h2, comp, h3⟩, h1⟩
theorem k_aoa {s : State} (h : va_AOA .int s) : ∃ cA : ClassId, ArrOfT s cA (.array .int) ∧ va_RA s cA (.array .int) := by
  unfold va_AOA Cond.before Cond.holds at h
  simp only [Cond.value] at h
  generalize he : (s.vm.findClass (FieldType.array FieldType.int).toString) = o1 at h
  cases o1 with
  | none => simp at h
  | some comp =>
    rw [Option.bind_some] at h
    generalize hi : (s.vm.classes.findIdx? fun (x : Class) => match x.kind with | .array component _ => component == comp | _ => false) = o2 at h
    cases o2 with
    | none => simp at h
    | some cA =>
      rw [Option.bind_some] at h
      cases hk : s.vm.classes[cA]? with
      | none => rw [hk] at h; simp at h
      | some k =>
        rw [hk] at h
        cases hkk : k.kind with
        | ordinary => simp [hkk] at h
        | primitive ch => simp [hkk] at h
        | array cm ty =>
          simp [hkk] at h
          obtain ⟨rfl, h2⟩ := h
          exact ⟨cA, fun n z => ⟨(fun q hq => by cases hq), k, hk, cm, hkk⟩, h2⟩
/-- what holds at the law's entry -/
def lw_At (p : Program) (s : State) (m : MethodId) (meth : Method) (c : Code) (b L : Nat) (xs : Nat → Int32) : Prop :=
  p.tables.exec = Jvm.exec ∧ c.code = code ∧ meth.sig.returnType = ret ∧ c.maxLocals = 8 ∧ s.vm.findClass RL = some m.cls ∧ (∀ w ∈ lw_tbl, w.before #[Value.ref b] s = true) ∧ va_X b L xs s s.heap ∧ b < s.heap.size ∧ meth.locks = false ∧ (Jvm.Cond.and given_1 narrow_1).before #[Value.ref b] s = true ∧ c.exceptionTable.toList = []
def lw_P (b : Addr) (xs : List Int32) (args : Array Value) (s : State) : Prop := args = #[.ref b] ∧ s.IntsAt b xs ∧ xs.length ≤ 2560 ∧ (Jvm.Cond.and given_1 narrow_1).before args s = true
def lw_Q (_ : Array Value) (s : State) (o : Outcome) (t : State) : Prop := o = .returned (some (.int 1)) ∧ Framed s o t [] 601024 7293034
def lw_Z (below : List Frame) (a : Array Value) (s : State) : State → Prop := fun t => ∃ o, t.status = .running ∧ Ended t below o ∧ lw_Q a s o t
/-- the law's own end -/
theorem lw_ret {p : Program} {l : Launch} {e : Env} {s : State} {m : MethodId} {below : List Frame} {meth : Method} {c : Code} {b : Nat} (hx : p.tables.exec = Jvm.exec) (hb : c.code = code) (hr : meth.sig.returnType = ret) (hlocks : meth.locks = false) {pc : Nat} {H : Heap} {ls : Array Slot} (hdg : decode code pc = .ok (.ireturn, 1)) : W p l e room_1 s m #[Value.ref b] below meth c H [] 601024 7293034 (lw_Z below #[Value.ref b] s) (F0 m pc ls [.int 1]) := by
  intro T hT X
  obtain ⟨fs, hret, hrun, hended, hW, hframe⟩ := X.leave (v := some (.int 1)) (hlocks := hlocks) (fun h => by rw [hr] at h; cases h)
  have hmeth' : T.vm.method? m = some meth := X.method'
  refine ⟨T.setFrames fs, ?_, .returned (some (.int 1)), hrun, hended, rfl, ⟨_, rfl⟩, hW, hframe⟩
  jvm_step X.here [X.here.top, hx, hb, hdg, hmeth', hr, ret, narrow_b1]
  (try refine ⟨rfl, ?_⟩); (try refine ⟨rfl, ?_⟩)
  first | (intro acts; rw [hret _ acts rfl rfl rfl]) | rw [hret _ _ rfl rfl rfl]
  exact Steps.refl _
set_option maxHeartbeats 4000000 in
set_option maxRecDepth 100000 in
/-- from the loop's head on -/
theorem law_go {p : Program} {l : Launch} {e : Env} {s : State} {m : MethodId} {below : List Frame} {meth : Method} {c : Code} {b LN : Nat} {xs : Nat → Int32} (htr : l.stackTraces = false) (hL : LN ≤ 2560) (C0 : lw_At p s m meth c b LN xs) {D : va_G} {cy : Nat → ClassId} {q0 q5 qo : Nat} {u v : Nat → Nat} {H : Heap} {locs : List Loc} {ls : Array Slot} (hK : va_K D vwCl (TY cy) s) (hP : va_P D vwCl (FW cy q0 q5 qo u v) H) (hD : va_D (fun q : Nat => s.heap.size ≤ q) (FW cy q0 q5 qo u v)) (hS : va_S (fun q : Nat => s.heap.size ≤ q) s.heap H locs)
    (hl : lv_has ls 8 [(0, .ref b), (1, .ref q0), (2, .ref q5), (3, .ref qo), (4, .int (Int32.ofInt 0))]) : W p l e room_1 s m #[Value.ref b] below meth c H locs 6000 (6 * 6000) (lw_Z below #[Value.ref b] s) (F0 m 23 ls []) := by
  obtain ⟨hx, hb, hr, hml, hown, hts, hX, hbl, hlocks, hgv, hex⟩ := id C0
  have hwm : ∀ w ∈ wm, w.before #[Value.ref b] s = true := fun w h => hts w (List.mem_filter.mp h).1
  have hrel := fw_rel cy q0 q5 qo u v
  have hPw := va_P_rel hrel hP
  have hDw := va_D_rel hrel hD
  have hInj := inj_of famOk0 hDw
  have hAa : ∀ f r, r < (fam0 f).2.1 → s.heap.size ≤ adA q0 q5 qo u v f r := fun f r h => in_of famOk0 hDw h
  generalize had : adA q0 q5 qo u v = ad at hPw hInj hAa
  obtain ⟨sa, hG⟩ := gf_0 hts hgv hK hInj hAa
  have hC := ctx_law htr hx hb hml hown hwm hlocks hr hex
  have hge : ∀ q : Nat, Aad fam0 ad s.heap.size q → s.heap.size ≤ q := fun q h => by
    rcases h with ⟨f, r, hr, rfl⟩ | h
    · exact hAa f r hr
    · exact h
  have hE : Ends fam0 63 ad cy D cd_L_law (fun ov _ => ov = some (vI 1)) (fun _ _ => False) RL code p l e room_1 s m #[Value.ref b] below meth c (Aad fam0 ad s.heap.size) (lw_Z below #[Value.ref b] s) := by
    refine ⟨?_, ?_, ?_, ?_, ?_⟩
    · intro x pc n ls H locs μ hx1 hd hn hk hER hP hM hV
      have hx9 : x = 1 := by cases hER; rfl
      subst hx9
      have hn9 : n ≤ 20000 := hn
      refine va_forget (fun q hq => hge _ (hV.2.2 q hq)) ?_
      refine W.widen (k := 601024) (n := 7293034) (by omega) (by omega) ?_
      exact lw_ret hx hb hr hlocks hd
    · intro x pc n ls H locs μ hx1 hd hn hk
      exact absurd (show (3 : Nat) = 2 from hk) (by decide)
    · intro pc n ls H locs μ hd hn hk
      exact absurd (show (3 : Nat) = 0 from hk) (by decide)
    · intro pc k n ls H locs μ hT hn hET
      exact hET.elim
    · intro pc k n ls rest H locs μ ce q hk hz hn hET
      exact hET.elim
  have hscr : ScrOk s (Aad fam0 ad s.heap.size) (some (b, (LN : Int), fun j => (xs j.toNat).toInt)) := ⟨LN, xs, rfl, by omega, hX, hbl, fun h => by have := hge b h; omega, fun j hj => rfl⟩
  have hR := law_loop (b := b) (L := (LN : Int)) (xs := fun j => (xs j.toNat).toInt) (ER := fun ov _ => ov = some (vI 1)) (ET := fun _ _ => False) (fun _ => rfl) ⟨by omega, by omega⟩ (((LN : Int) - 0).toNat + 1) 0 0 6000 μ0 (by omega) (by omega) (by omega) J_0 (by omega) (by omega) (by omega)
  have hAW := hR (AW fam0 63 ad cy D p l e room_1 s m #[Value.ref b] below meth c 8 (Aad fam0 ad s.heap.size) (lw_Z below #[Value.ref b] s))
    (fun pc n L S μ h => AW_step (cd := cd_L_law) hC hG rfl hE hscr h)
    (fun pc n L L' S μ hs h H locs ls h1 h2 h3 h4 h5 h6 => h H locs ls h1 h2 (lvl_sub hs h3) (fun j v q => h4 j v (subL_get hs q)) h5 h6)
  have hl9 : lv_has ls 8 (lvl ad 0 [some (vX b), some (vR 0 0), some (vR 38 0), some (vR 62 0), some (vI 0), none, none, none]) := by
    rw [← had]
    exact hl
  refine hAW H locs ls hPw m0_r hl9 ?_ (fun v hv => by cases hv) ⟨hS.1, fun q h1 h2 => hS.2.1 q h1 (fun h => h2 (Or.inr h)), fun z hz => Or.inr (hS.2.2 z hz)⟩
  intro j v h
  match j, h with
  | 0, h => cases (show some (vX b) = some v from h); exact True.intro
  | 1, h => cases (show some (vR 0 0) = some v from h); exact ⟨by decide, by decide⟩
  | 2, h => cases (show some (vR 38 0) = some v from h); exact ⟨by decide, by decide⟩
  | 3, h => cases (show some (vR 62 0) = some v from h); exact ⟨by decide, by decide⟩
  | 4, h => cases (show some (vI 0) = some v from h); exact ⟨by decide, by decide⟩
  | 5, h => cases h
  | 6, h => cases h
  | 7, h => cases h
  | j + 8, h => cases h
set_option maxHeartbeats 8000000 in
set_option maxRecDepth 100000 in
/-- THE LAW, from its entry -/
theorem whole_start {p : Program} {e : Env} {s : State} {m : MethodId} {below : List Frame} {meth : Method} {c : Code} (l : Launch) (hflags : l.flags = flags0) {b L : Nat} {xs : Nat → Int32} (hL : L ≤ 2560) (C0 : lw_At p s m meth c b L xs) : W p l e room_1 s m #[Value.ref b] below meth c s.heap [] 0 0 (lw_Z below #[Value.ref b] s) (entryFrame m ([Value.ref b] : List Value).toArray 8) := by
  obtain ⟨hx, hb, hr, hml, hown, hts, hX, hbl, hlocks, hgv, hex⟩ := id C0
  have htr : l.stackTraces = false := by
    unfold Launch.stackTraces
    rw [hflags]
    decide +kernel
  have hwm : ∀ w ∈ wm, w.before #[Value.ref b] s = true := fun w h => hts w (List.mem_filter.mp h).1
  have hw : ∀ (w : Cond) (i : Nat), lw_tbl[i]? = some w → w.before #[Value.ref b] s = true := fun w i h => hts w (List.mem_of_getElem? h)
  have hA : ∀ q : Nat, s.heap.size ≤ q → (fun q : Nat => s.heap.size ≤ q) q := fun _ h => h
  obtain ⟨c0, i0, hk0⟩ := u_known (C := RX0) (T := TX0) (N := 2) (n := 2) hwm inwX0 (hw (.instantiable RX0 2) 170 (by decide +kernel))
  obtain ⟨c1, i1, hk1⟩ := u_known (C := RX1) (T := TX1) (N := 6) (n := 6) hwm inwX1 (hw (.instantiable RX1 6) 74 (by decide +kernel))
  obtain ⟨c2, i2, hk2⟩ := u_known (C := RX2) (T := TX2) (N := 6) (n := 6) hwm inwX2 (hw (.instantiable RX2 6) 108 (by decide +kernel))
  obtain ⟨c3, i3, hk3⟩ := u_known (C := RX3) (T := TX3) (N := 6) (n := 6) hwm inwX3 (hw (.instantiable RX3 6) 139 (by decide +kernel))
  obtain ⟨c4, i4, hk4⟩ := u_known (C := RX4) (T := TX4) (N := 17) (n := 17) hwm inwX4 (hw (.instantiable RX4 17) 64 (by decide +kernel))
  obtain ⟨c5, i5, hk5⟩ := u_known (C := RX5) (T := TX5) (N := 31) (n := 31) hwm inwX5 (hw (.instantiable RX5 31) 692 (by decide +kernel))
  have hK1 : ∀ (k : Nat) (q : vw_C), vwCl[k]? = some q → u_Kn s q.1 q.2.1 q.2.2 (([c0, c1, c2, c3, c4, c5] : List ClassId).getD k c0) (([i0, i1, i2, i3, i4, i5] : List (Nat → Nat)).getD k i0) := by
    intro k q hq
    match k, hq with
    | 0, hq => cases hq; exact hk0
    | 1, hq => cases hq; exact hk1
    | 2, hq => cases hq; exact hk2
    | 3, hq => cases hq; exact hk3
    | 4, hq => cases hq; exact hk4
    | 5, hq => cases hq; exact hk5
    | k + 6, hq => simp [vwCl] at hq
  obtain ⟨D, hK2⟩ : ∃ D : va_G, ∀ (k : Nat) (q : vw_C), vwCl[k]? = some q → u_Kn s q.1 q.2.1 q.2.2 (D.1 k) (D.2 k) := ⟨(fun k => ([c0, c1, c2, c3, c4, c5] : List ClassId).getD k c0, fun k => ([i0, i1, i2, i3, i4, i5] : List (Nat → Nat)).getD k i0), hK1⟩
  obtain ⟨y1, g1, e1⟩ := k_ar (hw (.arrayClass .int) 104 (by decide +kernel))
  obtain ⟨y2, g2, e2⟩ := k_ar (hw (.arrayClass .long) 105 (by decide +kernel))
  obtain ⟨y3, g3, e3⟩ := k_ar (hw (.arrayClass .boolean) 106 (by decide +kernel))
  have hao : va_AOA .int s := va_AOA.of (hw (.arrayOver (.array .int)) 72 (by decide +kernel))
  obtain ⟨y4, g4, e4⟩ := k_aoa hao
  obtain ⟨cy, hcy⟩ : ∃ cy : Nat → ClassId, cy 1 = y1 ∧ cy 2 = y2 ∧ cy 3 = y3 ∧ cy 4 = y4 := ⟨fun k => ([y1, y1, y2, y3, y4] : List ClassId).getD k y1, rfl, rfl, rfl, rfl⟩
  obtain ⟨rfl, rfl, rfl, rfl⟩ := hcy
  have hK : va_K D vwCl (TY cy) s := ⟨hK2, fun k q hq => by
    match k, hq with
    | 0, hq => cases hq; exact ⟨g1, e1⟩
    | 1, hq => cases hq; exact ⟨g2, e2⟩
    | 2, hq => cases hq; exact ⟨g3, e3⟩
    | 3, hq => cases hq; exact ⟨g4, e4⟩
    | k + 4, hq => simp [TY] at hq⟩
  have hI : IW s := ⟨hao, va_Nw.of rfl (hw (.methodLinkNest RX4 46 yX1_init RX4) 75 (by decide +kernel)), va_Nw.of rfl (hw (.methodLinkNest RX4 53 yX2_init RX4) 109 (by decide +kernel)), va_Nw.of rfl (hw (.methodLinkNest RX4 60 yX3_init RX4) 140 (by decide +kernel)), va_Nw.of rfl (hw (.methodLinkNest RX4 67 yX0_init RX4) 171 (by decide +kernel))⟩
  have hS : va_S (fun q : Nat => s.heap.size ≤ q) s.heap s.heap [] := va_S.rf
  have hP : va_P D vwCl [] s.heap := fun k q h => by simp at h
  have hD : va_D (fun q : Nat => s.heap.size ≤ q) [] := ⟨fun i j p q h => by simp at h, fun k q h => by simp at h⟩
  have hl := lv_entry ([.ref b]) (n := 8) (Nat.le_of_ble_eq_true rfl)
  rw [lg_entry_eq]
  generalize (lg_sl ([.ref b]) ++ List.replicate (8 - (lg_sl ([.ref b])).length) Slot.unset).toArray = ls at hl ⊢
  have hl : lv_has ls 8 [(0, .ref b)] := hl
  refine va_new (ci := 4) (fs := [.null, .null, .null, .null, .null, .null, .null, .null, .null, .null, .null, .null, .null, .null, .int 0, .long 0, .long 0]) (C := RX4) (T := TX4) (N := 17) hx hb hwm inwX4 tyX4 tyX4_ok hown (hw (.classLink RL 8 RX4) 63 (by decide +kernel)) (hw (.instantiable RX4 17) 64 (by decide +kernel)) (hw (.initialized RX4) 50 (by decide +kernel)) hK hP hD hS hA rfl (fun j hj => by rcases (show j = 0 ∨ j = 1 ∨ j = 2 ∨ j = 3 ∨ j = 4 ∨ j = 5 ∨ j = 6 ∨ j = 7 ∨ j = 8 ∨ j = 9 ∨ j = 10 ∨ j = 11 ∨ j = 12 ∨ j = 13 ∨ j = 14 ∨ j = 15 ∨ j = 16 by omega) with rfl | rfl | rfl | rfl | rfl | rfl | rfl | rfl | rfl | rfl | rfl | rfl | rfl | rfl | rfl | rfl | rfl <;> rfl) (Nat.le_of_ble_eq_true rfl) (Nat.le_of_ble_eq_true rfl) (show decode code 0 = .ok (.new 8, 3) by decide +kernel) (fun q0 H hP hD hS => ?_)
  have hP : va_P D vwCl [(q0, .inr (4, [.null, .null, .null, .null, .null, .null, .null, .null, .null, .null, .null, .null, .null, .null, .int 0, .long 0, .long 0]))] H := hP
  have hD : va_D (fun q : Nat => s.heap.size ≤ q) [(q0, .inr (4, [.null, .null, .null, .null, .null, .null, .null, .null, .null, .null, .null, .null, .null, .null, .int 0, .long 0, .long 0]))] := hD
  refine W.widen (k := 1) (n := 17) (by omega) (by omega) ?_
  refine lv_dup hx hb (show decode code 3 = .ok (.dup, 1) by decide +kernel) rfl ?_
  have hFc := va_free (wc := [(q0, .inr (4, [.null, .null, .null, .null, .null, .null, .null, .null, .null, .null, .null, .null, .null, .null, .int 0, .long 0, .long 0]))]) hD hS hA [0] rfl
  refine va_callv (va_runI (As := []) (rest := [.ref q0]) ⟨hx, hb, hml, hown, hwm⟩ (c_X4_init l D cy q0 H.size) (cwI 0 hwm (g_wm (fun w h => (List.mem_cons.mp h).elim (fun e9 => by rw [e9]; exact wm_p1 _ 67 (by decide +kernel)) id)) rfl rfl rfl (hw (.initialized RX4) 50 (by decide +kernel)) (hw (.methodLink RL 92 yX4_init) 65 (by decide +kernel)) (hw (.instanceMethod yX4_init) 66 (by decide +kernel)) rfl (by decide +kernel) ⟨Nat.le_of_ble_eq_true rfl, Nat.le_of_ble_eq_true rfl⟩) ⟨pc_blind, fun U hU hW => ⟨rfl, by rw [hU], by rw [hU]; exact hP, va_K.moved hW.alike hK, hD.weaken (fun _ _ _ _ => trivial), IW.moved hW hI⟩⟩ rfl rfl hl.1 rfl (lv_room (Nat.le_of_ble_eq_true rfl)) (show decode code 4 = .ok (.invokespecial 92, 3) by decide +kernel) ⟨Nat.le_of_ble_eq_true rfl, Nat.le_of_ble_eq_true rfl⟩) hS (fun q _ h => hFc q h) hFc (fun u t H1 locs ht hvm hw9 hB hz1 hk1 hS => ?_)
  obtain ⟨hP1, hD1⟩ := hB
  rw [ht] at hP1
  obtain ⟨hP, hD⟩ := va_join (wr := []) (w1 := wsX4u cy q0 u) hP hD [0] [] rfl rfl (by decide) (by decide) hk1 hFc hP1 hD1
  generalize H1 = H at hP hS ⊢
  have hP : va_P D vwCl (wsX4u cy q0 u) H := hP
  have hD : va_D (fun q : Nat => s.heap.size ≤ q) (wsX4u cy q0 u) := hD
  refine W.widen (k := 68) (n := 29715) (by omega) (by omega) ?_
  refine lv_astore_n (lv' := [(1, .ref q0), (0, .ref b)]) hx hb (show decode code 7 = .ok (.astore_n 1, 1) by decide +kernel) rfl hl (by decide) rfl (fun ls hl => ?_)
  refine va_new (ci := 5) (fs := [.int 0, .int 0, .null, .null, .null, .null, .null, .null, .null, .null, .null, .int 0, .null, .null, .null, .null, .null, .int 0, .null, .null, .null, .null, .null, .int 0, .null, .null, .null, .null, .long 0, .long 0, .int 0]) (C := RX5) (T := TX5) (N := 31) hx hb hwm inwX5 tyX5 tyX5_ok hown (hw (.classLink RL 93 RX5) 691 (by decide +kernel)) (hw (.instantiable RX5 31) 692 (by decide +kernel)) (hw (.initialized RX5) 55 (by decide +kernel)) hK hP hD hS hA rfl (fun j hj => by rcases (show j = 0 ∨ j = 1 ∨ j = 2 ∨ j = 3 ∨ j = 4 ∨ j = 5 ∨ j = 6 ∨ j = 7 ∨ j = 8 ∨ j = 9 ∨ j = 10 ∨ j = 11 ∨ j = 12 ∨ j = 13 ∨ j = 14 ∨ j = 15 ∨ j = 16 ∨ j = 17 ∨ j = 18 ∨ j = 19 ∨ j = 20 ∨ j = 21 ∨ j = 22 ∨ j = 23 ∨ j = 24 ∨ j = 25 ∨ j = 26 ∨ j = 27 ∨ j = 28 ∨ j = 29 ∨ j = 30 by omega) with rfl | rfl | rfl | rfl | rfl | rfl | rfl | rfl | rfl | rfl | rfl | rfl | rfl | rfl | rfl | rfl | rfl | rfl | rfl | rfl | rfl | rfl | rfl | rfl | rfl | rfl | rfl | rfl | rfl | rfl | rfl <;> rfl) (Nat.le_of_ble_eq_true rfl) (Nat.le_of_ble_eq_true rfl) (show decode code 8 = .ok (.new 93, 3) by decide +kernel) (fun q5 H hP hD hS => ?_)
  refine W.widen (k := 69) (n := 29746) (by omega) (by omega) ?_
  refine lv_dup hx hb (show decode code 11 = .ok (.dup, 1) by decide +kernel) rfl ?_
  have hPc := hP.sub (ws' := [(q5, .inr (5, [.int 0, .int 0, .null, .null, .null, .null, .null, .null, .null, .null, .null, .int 0, .null, .null, .null, .null, .null, .int 0, .null, .null, .null, .null, .null, .int 0, .null, .null, .null, .null, .long 0, .long 0, .int 0]))]) [68] rfl
  have hDc := hD.sub (ws' := [(q5, .inr (5, [.int 0, .int 0, .null, .null, .null, .null, .null, .null, .null, .null, .null, .int 0, .null, .null, .null, .null, .null, .int 0, .null, .null, .null, .null, .null, .int 0, .null, .null, .null, .null, .long 0, .long 0, .int 0]))]) [68] (by decide) rfl
  have hFc := va_free (wc := [(q5, .inr (5, [.int 0, .int 0, .null, .null, .null, .null, .null, .null, .null, .null, .null, .int 0, .null, .null, .null, .null, .null, .int 0, .null, .null, .null, .null, .null, .int 0, .null, .null, .null, .null, .long 0, .long 0, .int 0]))]) hD hS hA [68] rfl
  refine va_callv (va_runI (As := []) (rest := [.ref q5]) ⟨hx, hb, hml, hown, hwm⟩ (c_X5_init l D cy q5 H.size) (cwI 0 hwm (g_wm (fun w h => (List.mem_cons.mp h).elim (fun e9 => by rw [e9]; exact wm_p1 _ 695 (by decide +kernel)) id)) rfl rfl rfl (hw (.initialized RX5) 55 (by decide +kernel)) (hw (.methodLink RL 95 yX5_init) 693 (by decide +kernel)) (hw (.instanceMethod yX5_init) 694 (by decide +kernel)) rfl (by decide +kernel) ⟨Nat.le_of_ble_eq_true rfl, Nat.le_of_ble_eq_true rfl⟩) ⟨pc_blind, fun U hU hW => ⟨rfl, by rw [hU], by rw [hU]; exact hPc, va_K.moved hW.alike hK, hDc.weaken (fun _ _ _ _ => trivial), IW.moved hW hI⟩⟩ rfl rfl hl.1 rfl (lv_room (Nat.le_of_ble_eq_true rfl)) (show decode code 12 = .ok (.invokespecial 95, 3) by decide +kernel) ⟨Nat.le_of_ble_eq_true rfl, Nat.le_of_ble_eq_true rfl⟩) hS (fun q _ h => hFc q h) hFc (fun v t H1 locs ht hvm hw9 hB hz1 hk1 hS => ?_)
  obtain ⟨hP1, hD1⟩ := hB
  rw [ht] at hP1
  obtain ⟨hP, hD⟩ := va_join (wr := wsX4u cy q0 u) (w1 := wsX5u cy q5 v) hP hD [68] [0, 1, 2, 3, 4, 5, 6, 7, 8, 9, 10, 11, 12, 13, 14, 15, 16, 17, 18, 19, 20, 21, 22, 23, 24, 25, 26, 27, 28, 29, 30, 31, 32, 33, 34, 35, 36, 37, 38, 39, 40, 41, 42, 43, 44, 45, 46, 47, 48, 49, 50, 51, 52, 53, 54, 55, 56, 57, 58, 59, 60, 61, 62, 63, 64, 65, 66, 67] rfl rfl (by decide +kernel) (by decide +kernel) hk1 hFc hP1 hD1
  generalize H1 = H at hP hS ⊢
  refine W.widen (k := 92) (n := 35292) (by omega) (by omega) ?_
  refine lv_astore_n (lv' := [(2, .ref q5), (1, .ref q0), (0, .ref b)]) hx hb (show decode code 15 = .ok (.astore_n 2, 1) by decide +kernel) rfl hl (by decide) rfl (fun ls hl => ?_)
  refine lv_iconst (v := 1) hx hb (show decode code 16 = .ok (.iconst 1, 1) by decide +kernel) (by decide +kernel) ?_
  refine ini_l (cy := cy) hx hb 1 (hw (.arrayClass .long) 105 (by decide +kernel)) hK hP hD hS hA n_1.1 n_1.2 (Nat.le_of_ble_eq_true rfl) (Nat.le_of_ble_eq_true rfl) (Nat.le_of_ble_eq_true rfl) (show decode code 17 = .ok (.newarray .long, 2) by decide +kernel) (fun qo H hP hD hS => ?_)
  refine lv_astore_n (lv' := [(3, .ref qo), (2, .ref q5), (1, .ref q0), (0, .ref b)]) hx hb (show decode code 19 = .ok (.astore_n 3, 1) by decide +kernel) rfl hl (by decide) rfl (fun ls hl => ?_)
  refine lv_iconst (v := Int32.ofInt 0) hx hb (show decode code 20 = .ok (.iconst 0, 1) by decide +kernel) rfl ?_
  refine lv_istore (lv' := [(4, .int (Int32.ofInt 0)), (3, .ref qo), (2, .ref q5), (1, .ref q0), (0, .ref b)]) hx hb (show decode code 21 = .ok (.istore 4, 2) by decide +kernel) hl (by decide) rfl (fun ls hl => ?_)
  refine W.widen (k := 6000) (n := 6 * 6000) (by omega) (by omega) ?_
  exact law_go htr hL C0 hK hP hD hS (lv_sub hl [4, 3, 2, 1, 0] rfl)
