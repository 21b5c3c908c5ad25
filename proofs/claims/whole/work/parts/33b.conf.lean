/-! ===== a method of a class that the machine runs by an entry here and there: by the method's own name (vx_ofF follows the kit's vx_ofW, con_ofF is con_of) -/
theorem vx_ofF {l : Launch} {y : MethodName} {ws ws' : List Cond} {rm : Room} {Pc : Array Value → State → Prop} {Qc : Array Value → State → Outcome → State → Prop} {XC : String → State → State → Prop} {mc ms : Nat} {free : Addr → Prop} {cc : ByteArray} {maxL : Nat} {ret : Option FieldType}
    (hy : plainFor y = true) (hw : ws = Cond.code y cc maxL ret :: ws')
    (body : ∀ p e s m args below meth c s₁, BodyLoose p l y (headSpec ws rm) cc maxL ret e s m args below meth c s₁ → c.maxLocals = maxL → (∀ x ∈ c.exceptionTable.toList, False) → Pc args s →
      W p l e (headSpec ws rm).room s m args below meth c s.heap [] 0 0 (vx_MQ below Qc XC args s mc ms free) (entryFrame m args maxL)) : vx_Met l y ws rm Pc Qc XC mc ms free := by
  refine MetFree.of_bodySF (code := cc) (maxLocals := maxL) (ret := ret) hy ?_ ?_
  · intro args s m h hn
    obtain ⟨meth, c, h1, h2, h3, h4, h5, h6, -, -⟩ := Cond.code_spec hn (atoms_spec (ws := ws) h _ (by rw [hw]; exact List.mem_cons_self))
    exact ⟨meth, c, h1, h2, h3, h4, h5, h6⟩
  · intro p e s m args below meth c s₁ B hml hP _
    have hh0 : s₁.heap = s.heap := by rw [B.state]; rfl
    have ht : ∀ x ∈ c.exceptionTable.toList, False := by
      obtain ⟨meth9, c9, h1, h2, -, -, -, -, h7, -⟩ := Cond.code_spec B.named (atoms_spec (ws := ws) B.pre _ (by rw [hw]; exact List.mem_cons_self))
      cases Option.some.inj (h1.symm.trans B.method)
      cases Option.some.inj (h2.symm.trans (Stand.of_body B).code)
      intro x hx
      rw [Array.isEmpty_iff.mp h7] at hx
      cases hx
    obtain ⟨t, a1, o, b1, b2, b3⟩ := body p e s m args below meth c s₁ B hml ht hP s₁ hh0 (Stand.of_body B)
    exact ⟨t, o, a1, b1, b2, b3⟩
theorem con_ofF {fam : Nat → Fam} {N : Nat} {l : Launch} {cd : Cd} {y : MethodName} {own : String} {cc : ByteArray} {wm : List Cond} {fr lo u maxL rk : Nat} {pre : List AV → Mm → Prop} {post : List AV → Mm → Option AV → Mm → Prop} {pT : List AV → Mm → Nat → Prop} (hS : SC fam N l cd own cc wm fr lo) (hown : own = y.cls) (hy : plainFor y = true) (hu : cd.2.2.2.2.2.2.2.2 = u) (hm : cd.2.2.2.2.2.2.1 = maxL) (hr : cd.2.2.2.2.2.2.2.1 = rk) (hh : cd.2.2.2.2.1 = [])
    (hlen : ∀ as μ, pre as μ → (ent as).length ≤ maxL) (hrun : ∀ as μ, pre as μ → MR fam μ → (∀ v ∈ as, rg fam v) → Run fam none cd (post as μ) (fun k μ' => pT as μ k ∧ μ' = μ) 0 0 (entL as maxL) [] μ) :
    CON fam N l y (Cond.code y cc maxL (retk rk) :: wm) fr lo u pre post pT := by
  subst hu
  intro ad cy D sa as μ sz hpre hrg
  refine vx_ofF (cc := cc) (maxL := maxL) (ret := retk rk) hy rfl ?_
  intro p e s m args below meth c s₁ B hml ht hv
  obtain ⟨rfl, hsz, hP, hM, hG⟩ := hv
  subst hsz
  have hts := atoms_spec (ws := Cond.code y cc maxL (retk rk) :: wm) B.pre
  have hC : Ctx fam N cd own cc (Cond.code y cc maxL (retk rk) :: wm) p l ({ frames := fr, cells := cd.2.2.2.2.2.2.2.2, slots := 6 * cd.2.2.2.2.2.2.2.2, locals := lo }) s m (as.map (cv ad)).toArray meth c :=
    ctx_of hS B.exec B.bytes (by rw [hml, hm]) (by rw [hown]; exact findClass_of_methodNamed B.named) hts B.notSynchronized (by
      have : c.exceptionTable.toList = [] := List.eq_nil_iff_forall_not_mem.mpr (fun x hx => ht x hx)
      rw [this, hh]; exact True.intro) (fun pc k _ x hx => (ht x hx).elim) (by rw [hr]; exact B.returns) hG
  have hE := ends_of (ER := post as μ) (ET := fun k μ' => pT as μ k ∧ μ' = μ) (e := e) (below := below) hC hG
  have hR := hrun as μ hpre hM hrg
  have hAW := hR (AW fam N ad cy D p l e ({ frames := fr, cells := cd.2.2.2.2.2.2.2.2, slots := 6 * cd.2.2.2.2.2.2.2.2, locals := lo }) s m (as.map (cv ad)).toArray below meth c cd.2.2.2.2.2.2.1 (Aad fam ad s.heap.size) (vx_MQ below (QcA fam N ad cy D (post as μ) (Aad fam ad s.heap.size)) (XcA fam N ad cy D (fun k μ' => pT as μ k ∧ μ' = μ) (Aad fam ad s.heap.size)) (as.map (cv ad)).toArray s cd.2.2.2.2.2.2.2.2 (6 * cd.2.2.2.2.2.2.2.2) (Aad fam ad s.heap.size)))
    (fun pc n L S μ h => AW_step (scr := none) hC hG rfl hE True.intro h)
    (fun pc n L L' S μ hs h H locs ls h1 h2 h3 h4 h5 h6 => h H locs ls h1 h2 (lvl_sub hs h3) (fun j v q => h4 j v (subL_get hs q)) h5 h6)
  rw [lg_entry_eq]
  have hl := lv_entry (as.map (cv ad)) (n := maxL) (by rw [← ent_len]; exact hlen as μ hpre)
  generalize (lg_sl (as.map (cv ad)) ++ List.replicate (maxL - (lg_sl (as.map (cv ad))).length) Slot.unset).toArray = ls at hl ⊢
  exact hAW s.heap [] ls hP hM (by rw [hm]; unfold entL; rw [lvl_ent]; exact hl) (nthO_ent as hrg) (fun v hv => by cases hv) va_S.rf
