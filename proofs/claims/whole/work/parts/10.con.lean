/-! ===== contracts out of runs of the abstract machine ===== -/
def ent : List AV → Lo
  | [] => []
  | v :: l => bif isLo (some v) then some v :: none :: ent l else some v :: ent l
def entL (as : List AV) (n : Nat) : Lo := ent as ++ List.replicate (n - (ent as).length) none
theorem lvl_none {ad : Nat → Nat → Nat} : ∀ (k i : Nat), lvl ad i (List.replicate k none) = []
  | 0, _ => rfl
  | k + 1, i => by
    rw [List.replicate_succ]
    exact lvl_none k (i + 1)
theorem lvl_ent {ad : Nat → Nat → Nat} {k : Nat} : ∀ (as : List AV) (i : Nat), lvl ad i (ent as ++ List.replicate k none) = lv_args i (as.map (cv ad))
  | [], i => by
    show lvl ad i (List.replicate k none) = []
    exact lvl_none k i
  | v :: l, i => by
    show lvl ad i ((bif isLo (some v) then some v :: none :: ent l else some v :: ent l) ++ List.replicate k none) = (i, cv ad v) :: lv_args (if (cv ad v).category = 2 then i + 2 else i + 1) (l.map (cv ad))
    cases hb : isLo (some v) with
    | true =>
      rw [if_pos (cv_cat.mpr hb)]
      show (i, cv ad v) :: lvl ad (i + 1 + 1) (ent l ++ List.replicate k none) = _
      rw [lvl_ent l]
    | false =>
      rw [if_neg (fun z => by rw [cv_cat.mp z] at hb; cases hb)]
      show (i, cv ad v) :: lvl ad (i + 1) (ent l ++ List.replicate k none) = _
      rw [lvl_ent l]
theorem nthO_ent {P : AV → Prop} {k : Nat} : ∀ (as : List AV), (∀ v ∈ as, P v) → ∀ j v, nthO (ent as ++ List.replicate k none) j = some v → P v
  | [], _, j, v, h => by
    have : ∀ (k j : Nat), nthO (List.replicate k none) j = none := by
      intro k
      induction k with
      | zero => intro j; cases j <;> rfl
      | succ k ih => intro j; cases j with
        | zero => rfl
        | succ j => exact ih j
    rw [show ent [] ++ List.replicate k none = List.replicate k (none : Option AV) from rfl, this] at h
    cases h
  | w :: l, hp, j, v, h => by
    have ih := nthO_ent (k := k) l (fun v hv => hp v (List.mem_cons_of_mem _ hv))
    have hw := hp w List.mem_cons_self
    cases hb : isLo (some w) with
    | true =>
      have h : nthO ((bif isLo (some w) then some w :: none :: ent l else some w :: ent l) ++ List.replicate k none) j = some v := h
      rw [hb] at h
      match j, h with
      | 0, h => cases h; exact hw
      | 1, h => cases h
      | j + 2, h => exact ih j v h
    | false =>
      have h : nthO ((bif isLo (some w) then some w :: none :: ent l else some w :: ent l) ++ List.replicate k none) j = some v := h
      rw [hb] at h
      match j, h with
      | 0, h => cases h; exact hw
      | j + 1, h => exact ih j v h
theorem ent_len {ad : Nat → Nat → Nat} : ∀ (as : List AV), (ent as).length = (lg_sl (as.map (cv ad))).length
  | [] => rfl
  | v :: l => by
    show ((bif isLo (some v) then some v :: none :: ent l else some v :: ent l)).length = ((if (cv ad v).category = 2 then [Slot.val (cv ad v), Slot.second] else [Slot.val (cv ad v)]) ++ lg_sl (l.map (cv ad))).length
    cases hb : isLo (some v) with
    | true => rw [if_pos (cv_cat.mpr hb)]; simp [ent_len (ad := ad) l]
    | false => rw [if_neg (fun z => by rw [cv_cat.mp z] at hb; cases hb)]; simp [ent_len (ad := ad) l]
theorem lvl_sub {ad : Nat → Nat → Nat} {ls : Array Slot} {nL : Nat} {L L' : Lo} (hs : subL L' L) (h : lv_has ls nL (lvl ad 0 L)) : lv_has ls nL (lvl ad 0 L') := lv_mono h fun q hq => by
  obtain ⟨k, v, h1, h2⟩ := mem_lvl.mp hq
  exact mem_lvl.mpr ⟨k, v, subL_get hs h1, h2⟩
section
variable {fam : Nat → Fam} {N : Nat} {ad : Nat → Nat → Nat} {cy : Nat → ClassId} {D : va_G} {sa : Nat → Nat} {cd : Cd} {ER : Option AV → Mm → Prop} {ET : Nat → Mm → Prop}
variable {p : Program} {l : Launch} {e : Env} {R : Room} {s : State} {m : MethodId} {args : Array Value} {below : List Frame} {meth : Method} {c : Code}
theorem ends_of {own : String} {cc : ByteArray} {Ts : List Cond} {A : Nat → Prop} (hC : Ctx fam N cd own cc Ts p l R s m args meth c) (hG : GF fam ad cy D sa A s s.heap) :
    Ends fam N ad cy D cd ER ET own cc p l e R s m args below meth c A (vx_MQ below (QcA fam N ad cy D ER A) (XcA fam N ad cy D ET A) args s cd.2.2.2.2.2.2.2.2 (6 * cd.2.2.2.2.2.2.2.2) A) := by
  obtain ⟨hx, hb, hml, hown, hts, hlocks, htr, hRc, hRs, hF, hcode, hcon, hfld, hcalV, hcalS, hH, hexc, hrt⟩ := hC
  obtain ⟨g1, g2, g3, g4, g5, g6, g7⟩ := hG
  refine ⟨?_, ?_, ?_, ?_, ?_⟩
  · intro x pc n ls H locs μ hx1 hd hn hk hER hP hM hV
    refine W.widen (k := cd.2.2.2.2.2.2.2.2) (n := 6 * cd.2.2.2.2.2.2.2.2) hn (by omega) (vx_ret ?_)
    rcases hk with hk | ⟨hk, h01⟩
    · rw [hk] at hrt
      exact W.iret hx hb hrt (fun t ht hW => ⟨⟨some (vI x), μ, rfl, hER, fun v hv => by cases hv; exact hx1, by rw [ht]; exact hP, hM⟩, hV.F ht⟩) hV.2.2 hd hlocks
    · rw [hk] at hrt
      exact W.zret hx hb hrt (by rcases h01 with rfl | rfl <;> rfl) (fun t ht hW => ⟨⟨some (vI x), μ, rfl, hER, fun v hv => by cases hv; exact hx1, by rw [ht]; exact hP, hM⟩, hV.F ht⟩) hV.2.2 hd hlocks
  · intro x pc n ls H locs μ hx1 hd hn hk hER hP hM hV
    refine W.widen (k := cd.2.2.2.2.2.2.2.2) (n := 6 * cd.2.2.2.2.2.2.2.2) hn (by omega) (vx_ret ?_)
    rw [hk] at hrt
    exact W.lret hx hb hrt (fun t ht hW => ⟨⟨some (vL x), μ, rfl, hER, fun v hv => by cases hv; exact hx1, by rw [ht]; exact hP, hM⟩, hV.F ht⟩) hV.2.2 hd hlocks
  · intro pc n ls H locs μ hd hn hk hER hP hM hV
    refine W.widen (k := cd.2.2.2.2.2.2.2.2) (n := 6 * cd.2.2.2.2.2.2.2.2) hn (by omega) (vx_ret ?_)
    rw [hk] at hrt
    exact W.vret hx hb hrt (fun t ht hW => ⟨⟨none, μ, rfl, hER, fun v hv => (nomatch hv), by rw [ht]; exact hP, hM⟩, hV.F ht⟩) hV.2.2 hd hlocks
  · intro pc k n ls H locs μ hT hn hET hP hM hV hsize
    obtain ⟨ik, is, ic, sx, text, d0, d3, d4, d6, d9, hfit, hcl, hini, hstr, hat, hgood, hout, hf5, hl82, hk⟩ := hT
    refine vx_throwS (mc := cd.2.2.2.2.2.2.2.2) (ms := 6 * cd.2.2.2.2.2.2.2.2) hx hb htr (names := ["java/lang/RuntimeException", "java/lang/Exception"]) hown hfit (by decide +kernel) hcl hini hstr hat hgood g6 g7 hV hsize d0 d3 d4 d6 d9 hout hf5 (by simp only [List.map_nil, List.sum_nil, List.length_cons, List.length_nil]; omega) (by omega) (by omega) hlocks
      (fun t hA1 hsz hkeep => ⟨⟨k, μ, rfl, hk, hET, hP.kept (fun j q hq => hkeep q.1 (hP j q hq).lt), hM⟩, Nat.le_trans hV.1 hsz, fun q h1 h2 => by rw [hkeep q (Nat.lt_of_lt_of_le h1 hV.1)]; exact hV.2.1 q h1 h2⟩) hV.2.2 (by omega) (by omega)
  · intro pc k n ls rest H locs μ ce q hk hp hn hET hP hM hV hce hcv hcl
    exact vx_outP hown hlocks hp hce hcv hcl (fun t ht hA1 => ⟨⟨k, μ, rfl, hk, hET, by rw [ht]; exact hP, hM⟩, hV.F ht⟩) hV.2.2 hn (by omega)
end
/-! ===== what a method's texts say of themselves, once for all states: by the words of one list wm ===== -/
def Str (sa : Nat → Nat) (U : State) : Prop := vk_R RX4 216 "no such stock" (sa 0) U ∧ vk_R RX4 221 "no such client" (sa 1) U ∧ vk_R RX4 223 "no such lender" (sa 2) U ∧ vk_R RX4 225 "no such loan" (sa 3) U ∧ vk_R RX4 227 "no such locate" (sa 4) U ∧ vk_R RX4 231 "out of range" (sa 5) U ∧ vk_R RX4 236 "not as things are" (sa 6) U
def FOKw (fam : Nat → Fam) (own : String) (wm : List Cond) (j ci k : Nat) : Prop :=
  ∃ (C : String) (T : u_T) (n : Nat) (ty0 : Nat → FieldType), vwCl[ci]? = some (C, T, n) ∧ k < n ∧ (∀ w ∈ u_ws C T n, w ∈ wm) ∧ (∀ k, k < n → parseFieldDescriptor (T k).2.2.1 = some (ty0 k)) ∧ (∀ a, a < n → ∀ b, b < n → a ≠ b → (T a).2.1 ≠ (T b).2.1) ∧
    Cond.fieldLink own j (T k).1 (T k).2.1 (T k).2.2.1 ∈ wm ∧
    ∀ f, (fam f).1 = 0 → (fam f).2.2.1 = ci → ((nthP (fam f).2.2.2.2 k).1 = 0 → ty0 k = .int ∧ (T k).2.2.2 = false) ∧ ((nthP (fam f).2.2.2.2 k).1 = 1 → ty0 k = .long ∧ (T k).2.2.2 = false)
def VOKw (fam : Nat → Fam) (N : Nat) (l : Launch) (fr lo : Nat) (own : String) (wm : List Cond) (j na u : Nat) (pre : Mm → List AV → Mm → Prop) (post : Mm → List AV → Mm → Option AV → Mm → Prop) (pT : Mm → List AV → Mm → Nat → Prop) : Prop :=
  ∃ (C : String) (y : MethodName) (bytes : ByteArray) (maxL : Nat) (ret : Option FieldType) (f1 l1 n : Nat), (∀ σ, CON fam N l y (Cond.code y bytes maxL ret :: wm) f1 l1 u (pre σ) (post σ) (pT σ)) ∧ na = n + 1 ∧ (∀ w ∈ ([.methodLink own j y, .instanceMethod y, .selects C y y, .initialized C, .code y bytes maxL ret] : List Cond), w ∈ wm) ∧
    (y.cls = C ∧ y.cls ≠ "java/lang/invoke/MethodHandle" ∧ y.cls ≠ "java/lang/invoke/VarHandle" ∧ (parseMethodDescriptor y.desc).map (fun d => d.parameters.length) = some n) ∧ (f1 + 1 ≤ fr ∧ 8 + (maxL + 11) + l1 ≤ lo) ∧
    ∀ σ as μ, pre σ as μ → ∃ f r as', as = vR f r :: as' ∧ (fam f).1 = 0 ∧ ∃ T k, vwCl[(fam f).2.2.1]? = some (C, T, k)
def SOKw (fam : Nat → Fam) (N : Nat) (l : Launch) (fr lo : Nat) (own : String) (wm : List Cond) (j na u : Nat) (pre : Mm → List AV → Mm → Prop) (post : Mm → List AV → Mm → Option AV → Mm → Prop) (pT : Mm → List AV → Mm → Nat → Prop) : Prop :=
  ∃ (y : MethodName) (bytes : ByteArray) (maxL : Nat) (ret : Option FieldType) (f1 l1 : Nat), (∀ σ, CON fam N l y (Cond.code y bytes maxL ret :: wm) f1 l1 u (pre σ) (post σ) (pT σ)) ∧ (∀ w ∈ ([.methodLink own j y, .static y, .initialized y.cls, .code y bytes maxL ret] : List Cond), w ∈ wm) ∧
    (y.cls ≠ "java/lang/invoke/MethodHandle" ∧ y.cls ≠ "java/lang/invoke/VarHandle" ∧ (parseMethodDescriptor y.desc).map (fun d => d.parameters.length) = some na) ∧ (f1 + 1 ≤ fr ∧ 8 + (maxL + 11) + l1 ≤ lo)
def TOKw (own : String) (cc : ByteArray) (wm : List Cond) (pc k : Nat) : Prop :=
  ∃ (ik is ic : Nat) (text : String), decode cc pc = .ok (.new ik, 3) ∧ decode cc (pc + 3) = .ok (.dup, 1) ∧ decode cc (pc + 4) = .ok (.ldc is, 2) ∧ decode cc (pc + 6) = .ok (.invokespecial ic, 3) ∧ decode cc (pc + 9) = .ok (.athrow, 1) ∧
    Bundle.fit (exn k) = true ∧ Cond.classLink own ik (exn k) ∈ wm ∧ Cond.initialized (exn k) ∈ wm ∧ (∀ sa U, Str sa U → ∃ sx, vk_R own is text sx U) ∧ (∀ w ∈ (vx_atS own ic (exn k) ["java/lang/RuntimeException", "java/lang/Exception"]).filter goodWord, w ∈ wm) ∧ (∀ w ∈ (vx_atS own ic (exn k) ["java/lang/RuntimeException", "java/lang/Exception"]).filter (fun w => !goodWord w), w ∈ [Cond.castable (exn k) (exn k), Cond.declares (Bundle.initS "java/lang/RuntimeException"), Cond.declares (Bundle.initS "java/lang/Exception"), Cond.declares (Bundle.initS Bundle.tN)]) ∧
    (∀ w ∈ Cond.classLink own ik (exn k) :: Cond.initialized (exn k) :: vx_atS own ic (exn k) ["java/lang/RuntimeException", "java/lang/Exception"], vx_ot w = true) ∧ (k = 1 ∨ k = 2 ∨ k = 3)
def HRelw (own : String) (wm : List Cond) : List Hn → List (Nat × Nat × Nat × Nat) → Prop
  | [], [] => True
  | (a, b, h, j) :: hs, (za, zb, zh, zc) :: zs => (za = a ∧ zb = b ∧ zh = h ∧ zc ≠ 0 ∧ (j = 1 ∨ j = 2 ∨ j = 3) ∧ Cond.classLink own zc (exn j) ∈ wm) ∧ HRelw own wm hs zs
  | _, _ => False
def retk : Nat → Option FieldType
  | 0 => none
  | 1 => some .int
  | 2 => some .long
  | _ => some .boolean
def SC (fam : Nat → Fam) (N : Nat) (l : Launch) (cd : Cd) (own : String) (cc : ByteArray) (wm : List Cond) (fr lo : Nat) : Prop :=
  (∀ w ∈ wm, goodWord w = true) ∧ l.stackTraces = false ∧ FamOk fam N ∧ cd.2.2.2.2.2.2.2.1 < 4 ∧
  (∀ pc i len, cd.1 pc = some (i, len) → decode cc pc = .ok (i, len) ∧ (ilen i = 0 ∨ len = ilen i) ∧ 0 ≤ (pc : Int) + ioff i) ∧
  (∀ j v, cd.2.1 j = some v → match v with
    | Sum.inl x => Cond.constant own j (Int32.ofInt x) ∈ wm
    | Sum.inr (Sum.inl x) => Cond.constantLong own j (Int64.ofInt x) ∈ wm
    | _ => True) ∧
  (∀ j ci k, cd.2.2.1 j = some (ci, k) → FOKw fam own wm j ci k) ∧
  (∀ pc j len, cd.1 pc = some (.invokevirtual j, len) → ∀ na u pre post pT, cd.2.2.2.1 j = some (na, u, pre, post, pT) → VOKw fam N l fr lo own wm j na u pre post pT) ∧
  (∀ pc j len, cd.1 pc = some (.invokestatic j, len) → ∀ na u pre post pT, cd.2.2.2.1 j = some (na, u, pre, post, pT) → SOKw fam N l fr lo own wm j na u pre post pT) ∧
  (∀ pc k, cd.2.2.2.2.2.1 pc = some k → TOKw own cc wm pc k ∧ 5 < fr ∧ 82 ≤ lo)
theorem goodIn_cons {wm : List Cond} {c : Cond} (h : ∀ w ∈ wm, goodWord w = true) {ws : List Cond} (hm : ∀ w ∈ ws, w ∈ wm) : GoodIn (c :: wm) ws := fun w hw => ⟨List.mem_cons_of_mem _ (hm w hw), good_of_word (h w (hm w hw))⟩
section
variable {fam : Nat → Fam} {N : Nat} {ad : Nat → Nat → Nat} {cy : Nat → ClassId} {D : va_G} {sa : Nat → Nat} {cd : Cd}
variable {p : Program} {l : Launch} {e : Env} {s : State} {m : MethodId} {args : Array Value} {below : List Frame} {meth : Method} {c : Code}
theorem ctx_of {own : String} {cc : ByteArray} {wm : List Cond} {fr lo : Nat} {w0 : Cond} {A : Nat → Prop} (hS : SC fam N l cd own cc wm fr lo) (hx : p.tables.exec = Jvm.exec) (hb : c.code = cc) (hml : c.maxLocals = cd.2.2.2.2.2.2.1) (hown : s.vm.findClass own = some m.cls) (hts : ∀ w ∈ w0 :: wm, w.before args s = true) (hlocks : meth.locks = false)
    (hH : HRel own s args cd.2.2.2.2.1 c.exceptionTable.toList) (hout : ∀ pc k, cd.2.2.2.2.2.1 pc = some k → ∀ x ∈ c.exceptionTable.toList, covers x (pc + 9) = false) (hrt : meth.sig.returnType = retk cd.2.2.2.2.2.2.2.1) (hG : GF fam ad cy D sa A s s.heap) :
    Ctx fam N cd own cc (w0 :: wm) p l ({ frames := fr, cells := cd.2.2.2.2.2.2.2.2, slots := 6 * cd.2.2.2.2.2.2.2.2, locals := lo }) s m args meth c := by
  obtain ⟨hgood, htr, hF, hrk, hcode, hcon, hfld, hcalV, hcalS, hexc⟩ := hS
  have hwm : ∀ w ∈ wm, w.before args s = true := fun w hw => hts w (List.mem_cons_of_mem _ hw)
  refine ⟨hx, hb, hml, hown, hts, hlocks, htr, Nat.le_refl _, Nat.le_refl _, hF, hcode, ?_, ?_, ?_, ?_, hH, ?_, ?_⟩
  · intro j v hv
    have h := hcon j v hv
    rcases v with x | x | z
    · exact hwm _ h
    · exact hwm _ h
    · exact True.intro
  · intro j ci k hj
    obtain ⟨C, T, n, ty0, q1, q2, q3, q4, q5, q6, q7⟩ := hfld j ci k hj
    exact ⟨C, T, n, ty0, q1, q2, fun w hw => List.mem_cons_of_mem _ (q3 w hw), q4, q5, hwm _ q6, q7⟩
  · intro pc j len hpc na u pre post pT hj
    obtain ⟨C, y, bytes, maxL, ret, f1, l1, n, q1, q2, q3, q4, q5, q6⟩ := hcalV pc j len hpc na u pre post pT hj
    refine ⟨C, y, bytes, maxL, ret, _, f1, l1, n, q1, q2, ?_, q6⟩
    refine cwV n hts (goodIn_cons hgood (fun w hw => ?_)) rfl rfl rfl q4 q5
    simp only [wsV, List.mem_append, List.mem_cons, List.not_mem_nil, or_false] at hw
    rcases hw with (rfl | rfl | rfl | rfl) | (rfl | hw)
    · exact q3 _ (by simp)
    · exact q3 _ (by simp)
    · exact q3 _ (by simp)
    · exact q3 _ (by simp)
    · exact q3 _ (by simp)
    · exact hw
  · intro pc j len hpc na u pre post pT hj
    obtain ⟨y, bytes, maxL, ret, f1, l1, q1, q3, q4, q5⟩ := hcalS pc j len hpc na u pre post pT hj
    refine ⟨y, bytes, maxL, ret, _, f1, l1, q1, Or.inl ?_⟩
    refine va_cwS na hts (goodIn_cons hgood (fun w hw => ?_)) rfl rfl rfl q4 q5
    simp only [va_wsS, List.mem_append, List.mem_cons, List.not_mem_nil, or_false] at hw
    rcases hw with (rfl | rfl | rfl) | (rfl | hw)
    · exact q3 _ (by simp)
    · exact q3 _ (by simp)
    · exact q3 _ (by simp)
    · exact q3 _ (by simp)
    · exact hw
  · intro pc k hk
    obtain ⟨⟨ik, is, ic, text, d0, d3, d4, d6, d9, q1, q2, q3, q4, q5, q6, q7, q8⟩, q9, q10⟩ := hexc pc k hk
    obtain ⟨sx, hsx⟩ := q4 sa s hG.2.2.2.2.1
    exact ⟨ik, is, ic, sx, text, d0, d3, d4, d6, d9, q1, hwm _ q2, hwm _ q3, hsx, vx_hat (fun w hw => hwm w (q5 w hw)) q6 (vx_c (va_Nw.use rfl (hG.2.2.1.1 k)) (vx_c (va_Nw.use rfl (hG.2.2.1.2 _ (by simp [DW]))) (vx_c (va_Nw.use rfl (hG.2.2.1.2 _ (by simp [DW]))) (vx_c (va_Nw.use rfl (hG.2.2.1.2 _ (by simp [DW]))) vx_n)))), q7, hout pc k hk, q9, q10, q8⟩
  · rw [hrt]
    match hq : cd.2.2.2.2.2.2.2.1, hrk with
    | 0, _ => rfl
    | 1, _ => rfl
    | 2, _ => rfl
    | 3, _ => rfl
end
/-- a method without handlers -/
theorem con_of {fam : Nat → Fam} {N : Nat} {l : Launch} {cd : Cd} {y : MethodName} {own : String} {cc : ByteArray} {wm : List Cond} {fr lo u maxL rk : Nat} {pre : List AV → Mm → Prop} {post : List AV → Mm → Option AV → Mm → Prop} {pT : List AV → Mm → Nat → Prop} (hS : SC fam N l cd own cc wm fr lo) (hown : own = y.cls) (hy : plainName y.cls = true) (hu : cd.2.2.2.2.2.2.2.2 = u) (hm : cd.2.2.2.2.2.2.1 = maxL) (hr : cd.2.2.2.2.2.2.2.1 = rk) (hh : cd.2.2.2.2.1 = [])
    (hlen : ∀ as μ, pre as μ → (ent as).length ≤ maxL) (hrun : ∀ as μ, pre as μ → MR fam μ → (∀ v ∈ as, rg fam v) → Run fam none cd (post as μ) (fun k μ' => pT as μ k ∧ μ' = μ) 0 0 (entL as maxL) [] μ) :
    CON fam N l y (Cond.code y cc maxL (retk rk) :: wm) fr lo u pre post pT := by
  subst hu
  intro ad cy D sa as μ sz hpre hrg
  refine vx_ofW (cc := cc) (maxL := maxL) (ret := retk rk) hy rfl ?_
  intro p e s m args below meth c s₁ B hml ht hv
  obtain ⟨rfl, hsz, hP, hM, hG⟩ := hv
  subst hsz
  have hts := atoms_spec (ws := Cond.code y cc maxL (retk rk) :: wm) B.pre
  have hC : Ctx fam N cd own cc (Cond.code y cc maxL (retk rk) :: wm) p l ({ frames := fr, cells := cd.2.2.2.2.2.2.2.2, slots := 6 * cd.2.2.2.2.2.2.2.2, locals := lo }) s m (as.map (cv ad)).toArray meth c :=
    ctx_of hS B.exec B.bytes (by rw [hml, hm]) (by rw [hown]; exact findClass_of_methodNamed B.named) hts B.notSynchronized (by
      have : c.exceptionTable.toList = [] := List.eq_nil_iff_forall_not_mem.mpr (fun x hx => ht x hx)
      rw [this, hh]; exact True.intro) (fun pc k _ x hx => (ht x hx).elim) (by rw [hr]; exact B.returns) hG
  have hE := ends_of (ER := post as μ) (ET := fun k μ' => pT as μ k ∧ μ' = μ) (e := e) (below := below) hC hG
  have hR := hrun as μ hpre hM hrg
  have hAW := hR (AW fam N ad cy D p l e ({ frames := fr, cells := cd.2.2.2.2.2.2.2.2, slots := 6 * cd.2.2.2.2.2.2.2.2, locals := lo }) s m (as.map (cv ad)).toArray below meth c cd.2.2.2.2.2.2.1 (Aad fam ad s.heap.size) (vx_MQ below (QcA fam N ad cy D (post as μ) (Aad fam ad s.heap.size)) (XcA fam N ad cy D (fun k μ' => pT as μ k ∧ μ' = μ) (Aad fam ad s.heap.size)) (as.map (cv ad)).toArray s cd.2.2.2.2.2.2.2.2 (6 * cd.2.2.2.2.2.2.2.2) (Aad fam ad s.heap.size)))
    (fun pc n L S μ h => AW_step (scr := none) hC hG rfl hE True.intro h)
    (fun pc n L L' S μ hs h H locs ls h1 h2 h3 h4 h5 h6 => h H locs ls h1 h2 (lvl_sub hs h3) (fun j v q => h4 j v (subL_get hs q)) h5 h6)
  rw [lg_entry_eq]
  have hl := lv_entry (as.map (cv ad)) (n := maxL) (by rw [← ent_len]; exact hlen as μ hpre)
  generalize (lg_sl (as.map (cv ad)) ++ List.replicate (maxL - (lg_sl (as.map (cv ad))).length) Slot.unset).toArray = ls at hl ⊢
  exact hAW s.heap [] ls hP hM (by rw [hm]; unfold entL; rw [lvl_ent]; exact hl) (nthO_ent as hrg) (fun v hv => by cases hv) va_S.rf
