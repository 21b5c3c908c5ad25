/-! ===== the abstract machine's step is the machine's ===== -/
theorem pI_e {S : List AV} {f : Int → List AV → Prop} (h : pI S f) : ∃ x S', S = Sum.inl x :: S' ∧ f x S' := by
  unfold pI at h; split at h
  · exact ⟨_, _, rfl, h⟩
  · exact h.elim
theorem pL_e {S : List AV} {f : Int → List AV → Prop} (h : pL S f) : ∃ x S', S = Sum.inr (Sum.inl x) :: S' ∧ f x S' := by
  unfold pL at h; split at h
  · exact ⟨_, _, rfl, h⟩
  · exact h.elim
theorem pQ_e {S : List AV} {f : (Nat × Int) ⊕ Nat → List AV → Prop} (h : pQ S f) : ∃ x S', S = Sum.inr (Sum.inr x) :: S' ∧ f x S' := by
  unfold pQ at h; split at h
  · exact ⟨_, _, rfl, h⟩
  · exact h.elim
theorem pR_e {S : List AV} {f : Nat → Int → List AV → Prop} (h : pR S f) : ∃ g r S', S = Sum.inr (Sum.inr (Sum.inl (g, r))) :: S' ∧ f g r S' := by
  unfold pR at h; split at h
  · exact ⟨_, _, _, rfl, h⟩
  · exact h.elim
theorem pV_e {S : List AV} {f : AV → List AV → Prop} (h : pV S f) : ∃ x S', S = x :: S' ∧ f x S' := by
  unfold pV at h; split at h
  · exact ⟨_, _, rfl, h⟩
  · exact h.elim
theorem pE_e {S : List AV} {A : Prop} (h : pE S A) : S = [] ∧ A := by
  unfold pE at h; split at h
  · exact ⟨rfl, h⟩
  · exact h.elim
theorem gI_e {L : Lo} {k : Nat} {f : Int → Prop} (h : gI L k f) : ∃ x, nthO L k = some (Sum.inl x) ∧ f x := by
  unfold gI at h; split at h
  · rename_i e; exact ⟨_, e, h⟩
  · exact h.elim
theorem gL_e {L : Lo} {k : Nat} {f : Int → Prop} (h : gL L k f) : ∃ x, nthO L k = some (Sum.inr (Sum.inl x)) ∧ f x := by
  unfold gL at h; split at h
  · rename_i e; exact ⟨_, e, h⟩
  · exact h.elim
theorem gQ_e {L : Lo} {k : Nat} {f : (Nat × Int) ⊕ Nat → Prop} (h : gQ L k f) : ∃ x, nthO L k = some (Sum.inr (Sum.inr x)) ∧ f x := by
  unfold gQ at h; split at h
  · rename_i e; exact ⟨_, e, h⟩
  · exact h.elim
theorem bT_e {b : Bool} {A : Prop} (h : bT b A) : b = true ∧ A := by
  cases b
  · exact h.elim
  · exact ⟨rfl, h⟩
theorem jmp_e {pc : Nat} {o : Int} {f : Nat → Prop} (h : jmp pc o f) : ∃ t : Nat, (pc : Int) + o = (t : Int) ∧ f t := by
  unfold jmp at h; split at h
  · rename_i e; exact ⟨_, e, h⟩
  · exact h.elim
/-- how long an instruction is (0: not asked) -/
def ilen : Instr → Nat
  | .iload _ | .lload _ | .aload _ | .istore _ | .lstore _ | .astore _ | .bipush _ | .ldc _ => 2
  | .sipush _ | .ldc_w _ | .ldc2_w _ | .goto _ | .ifCond _ _ | .if_icmp _ _ | .getfield _ | .putfield _ | .invokevirtual _ | .invokestatic _ | .invokespecial _ | .new _ | .iinc _ _ => 3
  | .tableswitch .. => 0
  | _ => 1
/-- how far a branch goes -/
def ioff : Instr → Int
  | .ifCond _ o | .if_icmp _ o => o
  | _ => 0
def exn : Nat → String
  | 1 => "java/lang/IndexOutOfBoundsException"
  | 2 => "java/lang/IllegalArgumentException"
  | _ => "java/lang/IllegalStateException"
/-- what a body owes at its end: by an answer, by an exception -/
def QcA (fam : Nat → Fam) (N : Nat) (ad : Nat → Nat → Nat) (cy : Nat → ClassId) (D : va_G) (ER : Option AV → Mm → Prop) (A : Nat → Prop) : Array Value → State → Outcome → State → Prop := fun _ st oc t =>
  (∃ ov μ', oc = .returned (ov.map (cv ad)) ∧ ER ov μ' ∧ (∀ v, ov = some v → rg fam v) ∧ va_P D vwCl (wl fam N ad cy μ') t.heap ∧ MR fam μ') ∧ va_F A st t
def XcA (fam : Nat → Fam) (N : Nat) (ad : Nat → Nat → Nat) (cy : Nat → ClassId) (D : va_G) (ET : Nat → Mm → Prop) (A : Nat → Prop) : String → State → State → Prop := fun E st t =>
  (∃ k μ', E = exn k ∧ (k = 1 ∨ k = 2 ∨ k = 3) ∧ ET k μ' ∧ va_P D vwCl (wl fam N ad cy μ') t.heap ∧ MR fam μ') ∧ va_F A st t
/-- the constructors that a throw passes on its way up -/
def DW : List MethodName := [Bundle.initS "java/lang/RuntimeException", Bundle.initS "java/lang/Exception", Bundle.initS Bundle.tN]
/-- what every method needs beside its own world -/
def GF (fam : Nat → Fam) (ad : Nat → Nat → Nat) (cy : Nat → ClassId) (D : va_G) (sa : Nat → Nat) (A : Nat → Prop) (U : State) (H : Heap) : Prop :=
  va_K D vwCl [(cy 1, .int), (cy 2, .long), (cy 3, .boolean), (cy 4, .array .int)] U ∧ Inj fam ad ∧ ((∀ k : Nat, va_Nw (.castable (exn k) (exn k)) U) ∧ ∀ x ∈ DW, va_Nw (.declares x) U) ∧ (∀ j k : Nat, exn j ≠ exn k → va_Nc (exn j) (exn k) U) ∧
  (vk_R RX4 216 "no such stock" (sa 0) U ∧ vk_R RX4 221 "no such client" (sa 1) U ∧ vk_R RX4 223 "no such lender" (sa 2) U ∧ vk_R RX4 225 "no such loan" (sa 3) U ∧ vk_R RX4 227 "no such locate" (sa 4) U ∧ vk_R RX4 231 "out of range" (sa 5) U ∧ vk_R RX4 236 "not as things are" (sa 6) U) ∧
  vx_Zq Bundle.tN "UNASSIGNED_STACK" Bundle.steD A U H ∧ vx_Zq Bundle.tN "SUPPRESSED_SENTINEL" Bundle.listD A U H
theorem GF.warm {fam : Nat → Fam} {ad : Nat → Nat → Nat} {cy : Nat → ClassId} {D : va_G} {sa : Nat → Nat} {A B : Nat → Prop} {s U : State} {H H1 : Heap} (hW : s.WarmedH U.vm) (h : GF fam ad cy D sa A s H) (hq : ∀ a : Nat, a < H.size → ¬ A a → H1[a]? = H[a]?) (hB : ∀ q, B q → A q) : GF fam ad cy D sa B U H1 := by
  obtain ⟨h1, h2, h3, h4, ⟨s1, s2, s3, s4, s5, s6, s7⟩, h6, h7⟩ := h
  exact ⟨h1.moved hW.alike, h2, ⟨fun k => va_Nw.warmC hW (h3.1 k), fun x hx => va_Nw.warmD hW (h3.2 x hx)⟩, fun j k n => va_Nc.moved hW.alike (h4 j k n), ⟨vk_R.warm hW s1, vk_R.warm hW s2, vk_R.warm hW s3, vk_R.warm hW s4, vk_R.warm hW s5, vk_R.warm hW s6, vk_R.warm hW s7⟩,
    vx_Zq.moved hW.alike ((h6.kept hq).narrow hB), vx_Zq.moved hW.alike ((h7.kept hq).narrow hB)⟩
/-- a contract: the values and the memory at the start; what a caller gets -/
def PcA (fam : Nat → Fam) (N : Nat) (ad : Nat → Nat → Nat) (cy : Nat → ClassId) (D : va_G) (sa : Nat → Nat) (as : List AV) (μ : Mm) (sz : Nat) : Array Value → State → Prop :=
  va_Pc (as.map (cv ad)) (fun U => U.heap.size = sz ∧ va_P D vwCl (wl fam N ad cy μ) U.heap ∧ MR fam μ ∧ GF fam ad cy D sa (Aad fam ad sz) U U.heap)
def CON (fam : Nat → Fam) (N : Nat) (l : Launch) (y : MethodName) (ws : List Cond) (fr lo u : Nat) (pre : List AV → Mm → Prop) (post : List AV → Mm → Option AV → Mm → Prop) (pT : List AV → Mm → Nat → Prop) : Prop :=
  ∀ (ad : Nat → Nat → Nat) (cy : Nat → ClassId) (D : va_G) (sa : Nat → Nat) (as : List AV) (μ : Mm) (sz : Nat), pre as μ → (∀ v ∈ as, rg fam v) →
    vx_Met l y ws ({ frames := fr, cells := u, slots := 6 * u, locals := lo }) (PcA fam N ad cy D sa as μ sz) (QcA fam N ad cy D (post as μ) (Aad fam ad sz)) (XcA fam N ad cy D (fun k μ' => pT as μ k ∧ μ' = μ) (Aad fam ad sz)) u (6 * u) (Aad fam ad sz)
theorem pcA_blind {fam : Nat → Fam} {N : Nat} {ad : Nat → Nat → Nat} {cy : Nat → ClassId} {D : va_G} {sa : Nat → Nat} {as : List AV} {μ : Mm} {sz : Nat} : FrameBlind (PcA fam N ad cy D sa as μ sz) := by
  rintro a U g mk ⟨h0, h1, h2, h3, h4⟩
  refine ⟨h0, h1, h2, h3, ?_⟩
  exact GF.warm (s := U) (U := U.calling g mk a) (State.WarmedH.refl U) h4 (fun _ _ _ => rfl) (fun _ h => h)
section
variable {fam : Nat → Fam} {N : Nat} {ad : Nat → Nat → Nat} {cy : Nat → ClassId} {D : va_G} {sa : Nat → Nat} {scr : Option (Nat × Int × (Int → Int))} {cd : Cd} {ER : Option AV → Mm → Prop} {ET : Nat → Mm → Prop}
variable {p : Program} {l : Launch} {e : Env} {R : Room} {s : State} {m : MethodId} {args : Array Value} {below : List Frame} {meth : Method} {c : Code} {Q : State → Prop}
/-- the machine at pc with these locals, this stack, this memory comes to Q -/
def AW (fam : Nat → Fam) (N : Nat) (ad : Nat → Nat → Nat) (cy : Nat → ClassId) (D : va_G) (p : Program) (l : Launch) (e : Env) (R : Room) (s : State) (m : MethodId) (args : Array Value) (below : List Frame) (meth : Method) (c : Code) (nL : Nat) (A : Nat → Prop) (Q : State → Prop) : Kt := fun pc n L S μ =>
  ∀ (H : Heap) (locs : List Loc) (ls : Array Slot), va_P D vwCl (wl fam N ad cy μ) H → MR fam μ → lv_has ls nL (lvl ad 0 L) → (∀ j v, nthO L j = some v → rg fam v) → (∀ v ∈ S, rg fam v) → va_S A s.heap H locs →
    W p l e R s m args below meth c H locs n (6 * n) Q (F0 m pc ls (S.map (cv ad)))
/-- a field's number in the pool, read by the class' table -/
def FOK (fam : Nat → Fam) (own : String) (Ts : List Cond) (s : State) (args : Array Value) (j ci k : Nat) : Prop :=
  ∃ (C : String) (T : u_T) (n : Nat) (ty0 : Nat → FieldType), vwCl[ci]? = some (C, T, n) ∧ k < n ∧ (∀ w ∈ u_ws C T n, w ∈ Ts) ∧ (∀ k, k < n → parseFieldDescriptor (T k).2.2.1 = some (ty0 k)) ∧ (∀ a, a < n → ∀ b, b < n → a ≠ b → (T a).2.1 ≠ (T b).2.1) ∧
    (Cond.fieldLink own j (T k).1 (T k).2.1 (T k).2.2.1).before args s = true ∧
    ∀ f, (fam f).1 = 0 → (fam f).2.2.1 = ci → ((nthP (fam f).2.2.2.2 k).1 = 0 → ty0 k = .int ∧ (T k).2.2.2 = false) ∧ ((nthP (fam f).2.2.2.2 k).1 = 1 → ty0 k = .long ∧ (T k).2.2.2 = false)
/-- a callee by its number in the pool -/
def VOK (fam : Nat → Fam) (N : Nat) (l : Launch) (R : Room) (own : String) (s : State) (args : Array Value) (j na u : Nat) (pre : Mm → List AV → Mm → Prop) (post : Mm → List AV → Mm → Option AV → Mm → Prop) (pT : Mm → List AV → Mm → Nat → Prop) : Prop :=
  ∃ (C : String) (y : MethodName) (bytes : ByteArray) (maxL : Nat) (ret : Option FieldType) (ws : List Cond) (fr lo n : Nat), (∀ σ, CON fam N l y ws fr lo u (pre σ) (post σ) (pT σ)) ∧ na = n + 1 ∧ CallW R s args own C j y bytes maxL ret ws ({ frames := fr, cells := u, slots := 6 * u, locals := lo }) u (6 * u) n ∧
    ∀ σ as μ, pre σ as μ → ∃ f r as', as = vR f r :: as' ∧ (fam f).1 = 0 ∧ ∃ T k, vwCl[(fam f).2.2.1]? = some (C, T, k)
def SOK (fam : Nat → Fam) (N : Nat) (l : Launch) (R : Room) (own : String) (s : State) (args : Array Value) (j na u : Nat) (pre : Mm → List AV → Mm → Prop) (post : Mm → List AV → Mm → Option AV → Mm → Prop) (pT : Mm → List AV → Mm → Nat → Prop) : Prop :=
  ∃ (y : MethodName) (bytes : ByteArray) (maxL : Nat) (ret : Option FieldType) (ws : List Cond) (fr lo : Nat), (∀ σ, CON fam N l y ws fr lo u (pre σ) (post σ) (pT σ)) ∧ ((CallB R s args own j y bytes maxL ret ws ({ frames := fr, cells := u, slots := 6 * u, locals := lo }) u (6 * u) na ∧ (Cond.static y).before args s = true) ∨
    ∃ hh, vx_CSW R s args own j y bytes maxL ret hh ws ({ frames := fr, cells := u, slots := 6 * u, locals := lo }) u (6 * u) na)
/-- the handlers by the table -/
def HRel (own : String) (s : State) (args : Array Value) : List Hn → List ExceptionTableEntry → Prop
  | [], [] => True
  | (a, b, h, j) :: hs, z :: zs => (z.startPc = a ∧ z.endPc = b ∧ z.handlerPc = h ∧ z.catchType ≠ 0 ∧ (j = 1 ∨ j = 2 ∨ j = 3) ∧ (Cond.classLink own z.catchType (exn j)).before args s = true) ∧ HRel own s args hs zs
  | _, _ => False
/-- a throw that stands at pc -/
def TOK (own : String) (cc : ByteArray) (R : Room) (s : State) (args : Array Value) (c : Code) (pc k : Nat) : Prop :=
  ∃ (ik is ic sx : Nat) (text : String), decode cc pc = .ok (.new ik, 3) ∧ decode cc (pc + 3) = .ok (.dup, 1) ∧ decode cc (pc + 4) = .ok (.ldc is, 2) ∧ decode cc (pc + 6) = .ok (.invokespecial ic, 3) ∧ decode cc (pc + 9) = .ok (.athrow, 1) ∧
    Bundle.fit (exn k) = true ∧ (Cond.classLink own ik (exn k)).before args s = true ∧ (Cond.initialized (exn k)).before args s = true ∧ vk_R own is text sx s ∧ (∀ w ∈ vx_atS own ic (exn k) ["java/lang/RuntimeException", "java/lang/Exception"], w.before args s = true) ∧
    (∀ w ∈ Cond.classLink own ik (exn k) :: Cond.initialized (exn k) :: vx_atS own ic (exn k) ["java/lang/RuntimeException", "java/lang/Exception"], vx_ot w = true) ∧ (∀ x ∈ c.exceptionTable.toList, covers x (pc + 9) = false) ∧ 5 < R.frames ∧ 82 ≤ R.locals ∧ (k = 1 ∨ k = 2 ∨ k = 3)
def Ctx (fam : Nat → Fam) (N : Nat) (cd : Cd) (own : String) (cc : ByteArray) (Ts : List Cond) (p : Program) (l : Launch) (R : Room) (s : State) (m : MethodId) (args : Array Value) (meth : Method) (c : Code) : Prop :=
  p.tables.exec = Jvm.exec ∧ c.code = cc ∧ c.maxLocals = cd.2.2.2.2.2.2.1 ∧ s.vm.findClass own = some m.cls ∧ (∀ w ∈ Ts, w.before args s = true) ∧ meth.locks = false ∧ l.stackTraces = false ∧ cd.2.2.2.2.2.2.2.2 ≤ R.cells ∧ 6 * cd.2.2.2.2.2.2.2.2 ≤ R.slots ∧ FamOk fam N ∧
  (∀ pc i len, cd.1 pc = some (i, len) → decode cc pc = .ok (i, len) ∧ (ilen i = 0 ∨ len = ilen i) ∧ 0 ≤ (pc : Int) + ioff i) ∧
  (∀ j v, cd.2.1 j = some v → match v with
    | Sum.inl x => (Cond.constant own j (Int32.ofInt x)).before args s = true
    | Sum.inr (Sum.inl x) => (Cond.constantLong own j (Int64.ofInt x)).before args s = true
    | _ => True) ∧
  (∀ j ci k, cd.2.2.1 j = some (ci, k) → FOK fam own Ts s args j ci k) ∧
  (∀ pc j len, cd.1 pc = some (.invokevirtual j, len) → ∀ na u pre post pT, cd.2.2.2.1 j = some (na, u, pre, post, pT) → VOK fam N l R own s args j na u pre post pT) ∧
  (∀ pc j len, cd.1 pc = some (.invokestatic j, len) → ∀ na u pre post pT, cd.2.2.2.1 j = some (na, u, pre, post, pT) → SOK fam N l R own s args j na u pre post pT) ∧
  HRel own s args cd.2.2.2.2.1 c.exceptionTable.toList ∧
  (∀ pc k, cd.2.2.2.2.2.1 pc = some k → TOK own cc R s args c pc k) ∧
  (match cd.2.2.2.2.2.2.2.1 with
    | 0 => meth.sig.returnType = none
    | 1 => meth.sig.returnType = some .int
    | 2 => meth.sig.returnType = some .long
    | 3 => meth.sig.returnType = some .boolean
    | _ => True)
end
