/-! ===== the law's calls of the class, each with its handlers -/
theorem hrel_w {own : String} {wm : List Cond} {s : State} {args : Array Value} (hwm : ∀ w ∈ wm, w.before args s = true) : ∀ {hs : List Hn} {zs : List (Nat × Nat × Nat × Nat)}, HRelw own wm hs zs → HRel own s args hs (tableOf zs)
  | [], [], _ => True.intro
  | [], _ :: _, h => h.elim
  | _ :: _, [], h => h.elim
  | (a, b, h, j) :: hs, (za, zb, zh, zc) :: zs, ⟨⟨h1, h2, h3, h4, h5, h6⟩, hr⟩ => ⟨⟨h1, h2, h3, h4, h5, hwm _ h6⟩, hrel_w hwm hr⟩
theorem con_ofH {fam : Nat → Fam} {N : Nat} {l : Launch} {cd : Cd} {y : MethodName} {own : String} {cc : ByteArray} {wm : List Cond} {fr lo u maxL rk : Nat} {pre : List AV → Mm → Prop} {post : List AV → Mm → Option AV → Mm → Prop} {pT : List AV → Mm → Nat → Prop} (hS : SC fam N l cd own cc wm fr lo) (hown : own = y.cls) (hy : plainName y.cls = true) (hu : cd.2.2.2.2.2.2.2.2 = u) (hm : cd.2.2.2.2.2.2.1 = maxL) (hr : cd.2.2.2.2.2.2.2.1 = rk) {hh : List (Nat × Nat × Nat × Nat)} (hhr : HRelw own wm cd.2.2.2.2.1 hh) (hex : ∀ pc, cd.2.2.2.2.2.1 pc = none)
    (hlen : ∀ as μ, pre as μ → (ent as).length ≤ maxL) (hrun : ∀ as μ, pre as μ → MR fam μ → (∀ v ∈ as, rg fam v) → Run fam none cd (post as μ) (fun k μ' => pT as μ k ∧ μ' = μ) 0 0 (entL as maxL) [] μ) :
    CON fam N l y (Cond.codeWith y cc maxL (retk rk) hh :: wm) fr lo u pre post pT := by
  subst hu
  intro ad cy D sa as μ sz hpre hrg
  refine vx_ofWH (cc := cc) (maxL := maxL) (ret := retk rk) (hh := hh) hy rfl ?_
  intro p e s m args below meth c s₁ B hml hv
  obtain ⟨rfl, hsz, hP, hM, hG⟩ := hv
  subst hsz
  have hts := atoms_spec (ws := Cond.codeWith y cc maxL (retk rk) hh :: wm) B.pre
  have hC : Ctx fam N cd own cc (Cond.codeWith y cc maxL (retk rk) hh :: wm) p l ({ frames := fr, cells := cd.2.2.2.2.2.2.2.2, slots := 6 * cd.2.2.2.2.2.2.2.2, locals := lo }) s m (as.map (cv ad)).toArray meth c :=
    ctx_of hS B.exec B.bytes (by rw [hml, hm]) (by rw [hown]; exact findClass_of_methodNamed B.named) hts B.notSynchronized (by rw [vx_table (x := y) B (hts _ List.mem_cons_self)]; exact hrel_w (fun w hw => hts w (List.mem_cons_of_mem _ hw)) hhr) (fun pc k hk => by rw [hex] at hk; cases hk) (by rw [hr]; exact B.returns) hG
  have hE := ends_of (ER := post as μ) (ET := fun k μ' => pT as μ k ∧ μ' = μ) (e := e) (below := below) hC hG
  have hR := hrun as μ hpre hM hrg
  have hAW := hR (AW fam N ad cy D p l e ({ frames := fr, cells := cd.2.2.2.2.2.2.2.2, slots := 6 * cd.2.2.2.2.2.2.2.2, locals := lo }) s m (as.map (cv ad)).toArray below meth c cd.2.2.2.2.2.2.1 (Aad fam ad s.heap.size) (vx_MQ below (QcA fam N ad cy D (post as μ) (Aad fam ad s.heap.size)) (XcA fam N ad cy D (fun k μ' => pT as μ k ∧ μ' = μ) (Aad fam ad s.heap.size)) (as.map (cv ad)).toArray s cd.2.2.2.2.2.2.2.2 (6 * cd.2.2.2.2.2.2.2.2) (Aad fam ad s.heap.size)))
    (fun pc n L S μ h => AW_step (scr := none) hC hG rfl hE True.intro h)
    (fun pc n L L' S μ hs h H locs ls h1 h2 h3 h4 h5 h6 => h H locs ls h1 h2 (lvl_sub hs h3) (fun j v q => h4 j v (subL_get hs q)) h5 h6)
  rw [lg_entry_eq]
  have hl := lv_entry (as.map (cv ad)) (n := maxL) (by rw [← ent_len]; exact hlen as μ hpre)
  generalize (lg_sl (as.map (cv ad)) ++ List.replicate (maxL - (lg_sl (as.map (cv ad))).length) Slot.unset).toArray = ls at hl ⊢
  exact hAW s.heap [] ls hP hM (by rw [hm]; unfold entL; rw [lvl_ent]; exact hl) (nthO_ent as hrg) (fun v hv => by cases hv) va_S.rf
def PB2 (μ μ' : Mm) : Prop := KI μ' ∧ CMt (μ' 0 0 14) 40 μ' ∧ ∀ (g : Nat) (r j : Int), 38 ≤ g → g ≠ 62 → μ' g r j = μ g r j
theorem PB_2 {μ M : Mm} (h : PB μ M) (v : Int) : al (st M 62 0 0 v) = al M ∧ PB2 μ (st M 62 0 0 v) := ⟨al_o (Or.inr (by decide)), KI_fr h.1 (fun g r j q => st_o (by omega)), by rw [st_o (by decide)]; exact CMt_fr h.2.1 (fun g r j q => st_o (by omega)), fun g r j q1 q2 => (st_o q2).trans (h.2.2 g r j q1)⟩
theorem wcl_13 : Cond.classLink RL 13 (exn 1) ∈ wm := wm_p1 _ 242 (by decide +kernel)
theorem wcl_15 : Cond.classLink RL 15 (exn 2) ∈ wm := wm_p1 _ 243 (by decide +kernel)
theorem wcl_24 : Cond.classLink RL 24 (exn 3) ∈ wm := wm_p1 _ 349 (by decide +kernel)
/-! ### the law's price -/
def cl_L_price : Cl := (4, 2, fun σ as μ => as = [vR 0 0, vI (iaI as 1), vI (iaI as 2), vR 62 0] ∧ (CV μ), fun σ as μ ov μ' => (((0 ≤ (iaI as 1) ∧ (iaI as 1) ≤ 3) ∧ (1 ≤ (iaI as 2) ∧ (iaI as 2) ≤ 100000)) → ov = some (vI 0) ∧ μ' 62 0 0 = (μ 1 0 (iaI as 1)) ∧ al μ' = st (al μ) 39 0 (iaI as 1) (iaI as 2) ∧ PB2 μ μ') ∧ ((¬ (0 ≤ (iaI as 1) ∧ (iaI as 1) ≤ 3)) → ov = some (vI 1) ∧ μ' = μ) ∧ (((0 ≤ (iaI as 1) ∧ (iaI as 1) ≤ 3) ∧ ¬ (1 ≤ (iaI as 2) ∧ (iaI as 2) ≤ 100000)) → ov = some (vI 2) ∧ μ' = μ), fun σ as μ k => False)
def cd_L_price : Cd := mkcd k_L_price [] [] [(7, cl_X4_price)] [] [(0, 10, 13, 1), (0, 10, 17, 2)] [] 5 1 2
set_option maxHeartbeats 4000000 in
set_option maxRecDepth 20000 in
theorem run_L_price {ER : Option AV → Mm → Prop} {ET : Nat → Mm → Prop} (σ μ : Mm) (s v : Int) (hM : MR fam0 μ) (h_s : in32 s) (h_v : in32 v) (hP : CV μ) (hER : ∀ ov μ', ((((0 ≤ s ∧ s ≤ 3) ∧ (1 ≤ v ∧ v ≤ 100000)) → ov = some (vI 0) ∧ μ' 62 0 0 = (μ 1 0 s) ∧ al μ' = st (al μ) 39 0 s v ∧ PB2 μ μ') ∧ ((¬ (0 ≤ s ∧ s ≤ 3)) → ov = some (vI 1) ∧ μ' = μ) ∧ (((0 ≤ s ∧ s ≤ 3) ∧ ¬ (1 ≤ v ∧ v ≤ 100000)) → ov = some (vI 2) ∧ μ' = μ)) → ER ov μ') : Run fam0 none cd_L_price ER ET 0 0 [some (vR 0 0), some (vI s), some (vI v), some (vR 62 0), none] [] μ := by
  refine run_k 6 ?_
  show ∃ σ : Mm, cl_X4_price.2.2.1 σ [vR 0 0, vI s, vI v] μ ∧ (∀ ov μ', cl_X4_price.2.2.2.1 σ [vR 0 0, vI s, vI v] μ ov μ' → Run fam0 none cd_L_price ER ET 8 2 [some (vR 0 0), some (vI s), some (vI v), some (vR 62 0), none] (ov.toList ++ [vI 0, vR 62 0]) μ') ∧ ∀ kx, cl_X4_price.2.2.2.2 σ [vR 0 0, vI s, vI v] μ kx → thr cd_L_price ET (Run fam0 none cd_L_price ER ET) 5 2 [some (vR 0 0), some (vI s), some (vI v), some (vR 62 0), none] μ kx
  refine ⟨μ, ⟨rfl, (by first | assumption | exact ⟨by assumption, by assumption⟩)⟩, fun ov μ' hq => ?_, fun kx hk => ?_⟩
  · obtain ⟨hok, hov, hal, hPB⟩ : ((0 ≤ s ∧ s ≤ 3) ∧ (1 ≤ v ∧ v ≤ 100000)) ∧ ov = some (vI (μ 1 0 s)) ∧ al μ' = st (al μ) 39 0 s v ∧ PB μ μ' := hq
    rw [hov]
    clear hov
    rename Mm => M1
    have hp2 := PB_2 hPB
    show Run fam0 none cd_L_price ER ET 8 2 [some (vR 0 0), some (vI s), some (vI v), some (vR 62 0), none] [vI (μ 1 0 s), vI 0, vR 62 0] M1
    refine run_k 5 ?_
    show (0 ≤ 0 ∧ 0 < 1) ∧ (ER (some (vI 0)) (st M1 62 0 0 (μ 1 0 s)))
    refine ⟨by omega, ?_⟩
    refine hER _ _ ⟨fun h => ⟨rfl, by rw [st_s], (hp2 _).1.trans hal, (hp2 _).2⟩, fun h => absurd h (by omega), fun h => absurd h (by omega)⟩
  · have hk : (kx = 1 ∧ ¬ (0 ≤ s ∧ s ≤ 3)) ∨ (kx = 2 ∧ (0 ≤ s ∧ s ≤ 3) ∧ ¬ (1 ≤ v ∧ v ≤ 100000)) := hk
    rcases hk with ⟨rfl, hc⟩ | ⟨rfl, hc⟩
    · show ∀ xq : Nat, Run fam0 none cd_L_price ER ET 13 2 [some (vR 0 0), some (vI s), some (vI v), some (vR 62 0), none] [vX xq] μ
      intro xq
      refine run_k 3 ?_
      show ER (some (vI 1)) μ
      refine hER _ _ ⟨fun h => absurd h (by omega), fun h => ⟨rfl, rfl⟩, fun h => absurd h (by omega)⟩
    · show ∀ xq : Nat, Run fam0 none cd_L_price ER ET 17 2 [some (vR 0 0), some (vI s), some (vI v), some (vR 62 0), none] [vX xq] μ
      intro xq
      refine run_k 3 ?_
      show ER (some (vI 2)) μ
      refine hER _ _ ⟨fun h => absurd h (by omega), fun h => absurd h (by omega), fun h => ⟨rfl, rfl⟩⟩
theorem vw_L_7 : ∀ w ∈ ([.methodLink RL 7 yX4_price, .instanceMethod yX4_price, .selects RX4 yX4_price yX4_price, .initialized RX4, .code yX4_price cX4_price 4 (some .int)] : List Cond), w ∈ wm := wm_ps _ [244, 245, 246, 50, 247] (by decide +kernel)
set_option maxRecDepth 20000 in
theorem con_L_price (l : Launch) (htr : l.stackTraces = false) (σ : Mm) : CON fam0 63 l yL_price (Cond.codeWith yL_price cL_price 5 (some .int) [(0, 10, 13, 13), (0, 10, 17, 15)] :: wm) 8 127 2 (cl_L_price.2.2.1 σ) (cl_L_price.2.2.2.1 σ) (cl_L_price.2.2.2.2 σ) :=
  con_ofH (cd := cd_L_price) (own := RL) (rk := 1) (maxL := 5) (hh := [(0, 10, 13, 13), (0, 10, 17, 15)]) (sc_of htr (by decide) k_L_price_ok (by decide +kernel) all_nil all_nil (all_cons ⟨RX4, yX4_price, cX4_price, 4, (some .int), 7, 104, 2, con_X4_price l htr, rfl, vw_L_7, ⟨rfl, by decide, by decide, by decide +kernel⟩, ⟨by decide, by decide⟩, fun σ as μ h => ⟨0, 0, _, h.1, rfl, TX4, 17, rfl⟩⟩ all_nil) all_nil all_nil) rfl (by decide +kernel) rfl rfl rfl ⟨⟨rfl, rfl, rfl, by decide, by decide, wcl_13⟩, ⟨⟨rfl, rfl, rfl, by decide, by decide, wcl_15⟩, True.intro⟩⟩ (fun _ => rfl) (fun as μ hs => by rw [hs.1]; exact Nat.le_of_ble_eq_true rfl)
    (fun as μ hs hM hrg => by
      have hs1 := hs.1
      have hmem : ∀ v, v ∈ ([vR 0 0, vI (iaI as 1), vI (iaI as 2), vR 62 0] : List AV) → rg fam0 v := by rw [← hs1]; exact hrg
      have key := run_L_price (ER := cl_L_price.2.2.2.1 σ as μ) (ET := fun k μ' => cl_L_price.2.2.2.2 σ as μ k ∧ μ' = μ) σ μ (iaI as 1) (iaI as 2) hM (hmem (vI (iaI as 1)) (by simp)) (hmem (vI (iaI as 2)) (by simp)) hs.2 (fun ov μ' h => h)
      have e : entL as 5 = [some (vR 0 0), some (vI (iaI as 1)), some (vI (iaI as 2)), some (vR 62 0), none] := by rw [hs1]; rfl
      rw [e]; exact key)
/-! ### the law's margin -/
def cl_L_margin : Cl := (4, 2, fun σ as μ => as = [vR 0 0, vI (iaI as 1), vI (iaI as 2), vR 62 0] ∧ (CV μ), fun σ as μ ov μ' => (((0 ≤ (iaI as 1) ∧ (iaI as 1) ≤ 3) ∧ (10 ≤ (iaI as 2) ∧ (iaI as 2) ≤ 100)) → ov = some (vI 0) ∧ μ' 62 0 0 = (μ 2 0 (iaI as 1)) ∧ al μ' = st (al μ) 40 0 (iaI as 1) (iaI as 2) ∧ PB2 μ μ') ∧ ((¬ (0 ≤ (iaI as 1) ∧ (iaI as 1) ≤ 3)) → ov = some (vI 1) ∧ μ' = μ) ∧ (((0 ≤ (iaI as 1) ∧ (iaI as 1) ≤ 3) ∧ ¬ (10 ≤ (iaI as 2) ∧ (iaI as 2) ≤ 100)) → ov = some (vI 2) ∧ μ' = μ), fun σ as μ k => False)
def cd_L_margin : Cd := mkcd k_L_margin [] [] [(17, cl_X4_margin)] [] [(0, 10, 13, 1), (0, 10, 17, 2)] [] 5 1 2
set_option maxHeartbeats 4000000 in
set_option maxRecDepth 20000 in
theorem run_L_margin {ER : Option AV → Mm → Prop} {ET : Nat → Mm → Prop} (σ μ : Mm) (s v : Int) (hM : MR fam0 μ) (h_s : in32 s) (h_v : in32 v) (hP : CV μ) (hER : ∀ ov μ', ((((0 ≤ s ∧ s ≤ 3) ∧ (10 ≤ v ∧ v ≤ 100)) → ov = some (vI 0) ∧ μ' 62 0 0 = (μ 2 0 s) ∧ al μ' = st (al μ) 40 0 s v ∧ PB2 μ μ') ∧ ((¬ (0 ≤ s ∧ s ≤ 3)) → ov = some (vI 1) ∧ μ' = μ) ∧ (((0 ≤ s ∧ s ≤ 3) ∧ ¬ (10 ≤ v ∧ v ≤ 100)) → ov = some (vI 2) ∧ μ' = μ)) → ER ov μ') : Run fam0 none cd_L_margin ER ET 0 0 [some (vR 0 0), some (vI s), some (vI v), some (vR 62 0), none] [] μ := by
  refine run_k 6 ?_
  show ∃ σ : Mm, cl_X4_margin.2.2.1 σ [vR 0 0, vI s, vI v] μ ∧ (∀ ov μ', cl_X4_margin.2.2.2.1 σ [vR 0 0, vI s, vI v] μ ov μ' → Run fam0 none cd_L_margin ER ET 8 2 [some (vR 0 0), some (vI s), some (vI v), some (vR 62 0), none] (ov.toList ++ [vI 0, vR 62 0]) μ') ∧ ∀ kx, cl_X4_margin.2.2.2.2 σ [vR 0 0, vI s, vI v] μ kx → thr cd_L_margin ET (Run fam0 none cd_L_margin ER ET) 5 2 [some (vR 0 0), some (vI s), some (vI v), some (vR 62 0), none] μ kx
  refine ⟨μ, ⟨rfl, (by first | assumption | exact ⟨by assumption, by assumption⟩)⟩, fun ov μ' hq => ?_, fun kx hk => ?_⟩
  · obtain ⟨hok, hov, hal, hPB⟩ : ((0 ≤ s ∧ s ≤ 3) ∧ (10 ≤ v ∧ v ≤ 100)) ∧ ov = some (vI (μ 2 0 s)) ∧ al μ' = st (al μ) 40 0 s v ∧ PB μ μ' := hq
    rw [hov]
    clear hov
    rename Mm => M1
    have hp2 := PB_2 hPB
    show Run fam0 none cd_L_margin ER ET 8 2 [some (vR 0 0), some (vI s), some (vI v), some (vR 62 0), none] [vI (μ 2 0 s), vI 0, vR 62 0] M1
    refine run_k 5 ?_
    show (0 ≤ 0 ∧ 0 < 1) ∧ (ER (some (vI 0)) (st M1 62 0 0 (μ 2 0 s)))
    refine ⟨by omega, ?_⟩
    refine hER _ _ ⟨fun h => ⟨rfl, by rw [st_s], (hp2 _).1.trans hal, (hp2 _).2⟩, fun h => absurd h (by omega), fun h => absurd h (by omega)⟩
  · have hk : (kx = 1 ∧ ¬ (0 ≤ s ∧ s ≤ 3)) ∨ (kx = 2 ∧ (0 ≤ s ∧ s ≤ 3) ∧ ¬ (10 ≤ v ∧ v ≤ 100)) := hk
    rcases hk with ⟨rfl, hc⟩ | ⟨rfl, hc⟩
    · show ∀ xq : Nat, Run fam0 none cd_L_margin ER ET 13 2 [some (vR 0 0), some (vI s), some (vI v), some (vR 62 0), none] [vX xq] μ
      intro xq
      refine run_k 3 ?_
      show ER (some (vI 1)) μ
      refine hER _ _ ⟨fun h => absurd h (by omega), fun h => ⟨rfl, rfl⟩, fun h => absurd h (by omega)⟩
    · show ∀ xq : Nat, Run fam0 none cd_L_margin ER ET 17 2 [some (vR 0 0), some (vI s), some (vI v), some (vR 62 0), none] [vX xq] μ
      intro xq
      refine run_k 3 ?_
      show ER (some (vI 2)) μ
      refine hER _ _ ⟨fun h => absurd h (by omega), fun h => absurd h (by omega), fun h => ⟨rfl, rfl⟩⟩
theorem vw_L_17 : ∀ w ∈ ([.methodLink RL 17 yX4_margin, .instanceMethod yX4_margin, .selects RX4 yX4_margin yX4_margin, .initialized RX4, .code yX4_margin cX4_margin 4 (some .int)] : List Cond), w ∈ wm := wm_ps _ [342, 343, 344, 50, 345] (by decide +kernel)
set_option maxRecDepth 20000 in
theorem con_L_margin (l : Launch) (htr : l.stackTraces = false) (σ : Mm) : CON fam0 63 l yL_margin (Cond.codeWith yL_margin cL_margin 5 (some .int) [(0, 10, 13, 13), (0, 10, 17, 15)] :: wm) 8 127 2 (cl_L_margin.2.2.1 σ) (cl_L_margin.2.2.2.1 σ) (cl_L_margin.2.2.2.2 σ) :=
  con_ofH (cd := cd_L_margin) (own := RL) (rk := 1) (maxL := 5) (hh := [(0, 10, 13, 13), (0, 10, 17, 15)]) (sc_of htr (by decide) k_L_margin_ok (by decide +kernel) all_nil all_nil (all_cons ⟨RX4, yX4_margin, cX4_margin, 4, (some .int), 7, 104, 2, con_X4_margin l htr, rfl, vw_L_17, ⟨rfl, by decide, by decide, by decide +kernel⟩, ⟨by decide, by decide⟩, fun σ as μ h => ⟨0, 0, _, h.1, rfl, TX4, 17, rfl⟩⟩ all_nil) all_nil all_nil) rfl (by decide +kernel) rfl rfl rfl ⟨⟨rfl, rfl, rfl, by decide, by decide, wcl_13⟩, ⟨⟨rfl, rfl, rfl, by decide, by decide, wcl_15⟩, True.intro⟩⟩ (fun _ => rfl) (fun as μ hs => by rw [hs.1]; exact Nat.le_of_ble_eq_true rfl)
    (fun as μ hs hM hrg => by
      have hs1 := hs.1
      have hmem : ∀ v, v ∈ ([vR 0 0, vI (iaI as 1), vI (iaI as 2), vR 62 0] : List AV) → rg fam0 v := by rw [← hs1]; exact hrg
      have key := run_L_margin (ER := cl_L_margin.2.2.2.1 σ as μ) (ET := fun k μ' => cl_L_margin.2.2.2.2 σ as μ k ∧ μ' = μ) σ μ (iaI as 1) (iaI as 2) hM (hmem (vI (iaI as 1)) (by simp)) (hmem (vI (iaI as 2)) (by simp)) hs.2 (fun ov μ' h => h)
      have e : entL as 5 = [some (vR 0 0), some (vI (iaI as 1)), some (vI (iaI as 2)), some (vR 62 0), none] := by rw [hs1]; rfl
      rw [e]; exact key)
/-! ### the law's cash -/
def cl_L_cash : Cl := (4, 5, fun σ as μ => as = [vR 0 0, vI (iaI as 1), vI (iaI as 2), vR 62 0] ∧ (CV μ), fun σ as μ ov μ' => (((0 ≤ (iaI as 1) ∧ (iaI as 1) ≤ 5) ∧ (-100000000 ≤ (iaI as 2) ∧ (iaI as 2) ≤ 100000000) ∧ (μ 5 0 (iaI as 1) = 0 ∧ (0 ≤ (iaI as 2) ∨ ¬ w64 (equityF (al μ) (iaI as 1) + (iaI as 2)) < needF (al μ) (iaI as 1)))) → ov = some (vI 0) ∧ μ' 62 0 0 = (w64 (μ 3 0 (iaI as 1) + (iaI as 2))) ∧ al μ' = st (al μ) 41 0 (iaI as 1) (w64 (μ 3 0 (iaI as 1) + (iaI as 2))) ∧ PB2 μ μ') ∧ ((¬ (0 ≤ (iaI as 1) ∧ (iaI as 1) ≤ 5)) → ov = some (vI 1) ∧ μ' = μ) ∧ (((0 ≤ (iaI as 1) ∧ (iaI as 1) ≤ 5) ∧ ¬ (-100000000 ≤ (iaI as 2) ∧ (iaI as 2) ≤ 100000000)) → ov = some (vI 2) ∧ μ' = μ) ∧ (((0 ≤ (iaI as 1) ∧ (iaI as 1) ≤ 5) ∧ (-100000000 ≤ (iaI as 2) ∧ (iaI as 2) ≤ 100000000) ∧ ¬ (μ 5 0 (iaI as 1) = 0 ∧ (0 ≤ (iaI as 2) ∨ ¬ w64 (equityF (al μ) (iaI as 1) + (iaI as 2)) < needF (al μ) (iaI as 1)))) → ov = some (vI 3) ∧ μ' = μ), fun σ as μ k => False)
def cd_L_cash : Cd := mkcd k_L_cash [] [] [(20, cl_X4_cash)] [] [(0, 9, 12, 1), (0, 9, 16, 2), (0, 9, 20, 3)] [] 5 1 5
set_option maxHeartbeats 4000000 in
set_option maxRecDepth 20000 in
theorem run_L_cash {ER : Option AV → Mm → Prop} {ET : Nat → Mm → Prop} (σ μ : Mm) (c v : Int) (hM : MR fam0 μ) (h_c : in32 c) (h_v : in32 v) (hP : CV μ) (hER : ∀ ov μ', ((((0 ≤ c ∧ c ≤ 5) ∧ (-100000000 ≤ v ∧ v ≤ 100000000) ∧ (μ 5 0 c = 0 ∧ (0 ≤ v ∨ ¬ w64 (equityF (al μ) c + v) < needF (al μ) c))) → ov = some (vI 0) ∧ μ' 62 0 0 = (w64 (μ 3 0 c + v)) ∧ al μ' = st (al μ) 41 0 c (w64 (μ 3 0 c + v)) ∧ PB2 μ μ') ∧ ((¬ (0 ≤ c ∧ c ≤ 5)) → ov = some (vI 1) ∧ μ' = μ) ∧ (((0 ≤ c ∧ c ≤ 5) ∧ ¬ (-100000000 ≤ v ∧ v ≤ 100000000)) → ov = some (vI 2) ∧ μ' = μ) ∧ (((0 ≤ c ∧ c ≤ 5) ∧ (-100000000 ≤ v ∧ v ≤ 100000000) ∧ ¬ (μ 5 0 c = 0 ∧ (0 ≤ v ∨ ¬ w64 (equityF (al μ) c + v) < needF (al μ) c))) → ov = some (vI 3) ∧ μ' = μ)) → ER ov μ') : Run fam0 none cd_L_cash ER ET 0 0 [some (vR 0 0), some (vI c), some (vI v), some (vR 62 0), none] [] μ := by
  refine run_k 6 ?_
  show ∃ σ : Mm, cl_X4_cash.2.2.1 σ [vR 0 0, vI c, vI v] μ ∧ (∀ ov μ', cl_X4_cash.2.2.2.1 σ [vR 0 0, vI c, vI v] μ ov μ' → Run fam0 none cd_L_cash ER ET 8 5 [some (vR 0 0), some (vI c), some (vI v), some (vR 62 0), none] (ov.toList ++ [vI 0, vR 62 0]) μ') ∧ ∀ kx, cl_X4_cash.2.2.2.2 σ [vR 0 0, vI c, vI v] μ kx → thr cd_L_cash ET (Run fam0 none cd_L_cash ER ET) 5 5 [some (vR 0 0), some (vI c), some (vI v), some (vR 62 0), none] μ kx
  refine ⟨μ, ⟨rfl, (by first | assumption | exact ⟨by assumption, by assumption⟩)⟩, fun ov μ' hq => ?_, fun kx hk => ?_⟩
  · obtain ⟨hok, hov, hal, hPB⟩ : ((0 ≤ c ∧ c ≤ 5) ∧ (-100000000 ≤ v ∧ v ≤ 100000000) ∧ (μ 5 0 c = 0 ∧ (0 ≤ v ∨ ¬ w64 (equityF (al μ) c + v) < needF (al μ) c))) ∧ ov = some (vL (w64 (μ 3 0 c + v))) ∧ al μ' = st (al μ) 41 0 c (w64 (μ 3 0 c + v)) ∧ PB μ μ' := hq
    rw [hov]
    clear hov
    rename Mm => M1
    have hp2 := PB_2 hPB
    show Run fam0 none cd_L_cash ER ET 8 5 [some (vR 0 0), some (vI c), some (vI v), some (vR 62 0), none] [vL (w64 (μ 3 0 c + v)), vI 0, vR 62 0] M1
    refine run_k 4 ?_
    show (0 ≤ 0 ∧ 0 < 1) ∧ (ER (some (vI 0)) (st M1 62 0 0 (w64 (μ 3 0 c + v))))
    refine ⟨by omega, ?_⟩
    refine hER _ _ ⟨fun h => ⟨rfl, by rw [st_s], (hp2 _).1.trans hal, (hp2 _).2⟩, fun h => absurd h (by omega), fun h => absurd h (by omega), fun h => absurd h (by omega)⟩
  · have hk : (kx = 1 ∧ ¬ (0 ≤ c ∧ c ≤ 5)) ∨ (kx = 2 ∧ (0 ≤ c ∧ c ≤ 5) ∧ ¬ (-100000000 ≤ v ∧ v ≤ 100000000)) ∨ (kx = 3 ∧ (0 ≤ c ∧ c ≤ 5) ∧ (-100000000 ≤ v ∧ v ≤ 100000000) ∧ ¬ (μ 5 0 c = 0 ∧ (0 ≤ v ∨ ¬ w64 (equityF (al μ) c + v) < needF (al μ) c))) := hk
    rcases hk with ⟨rfl, hc⟩ | ⟨rfl, hc⟩ | ⟨rfl, hc⟩
    · show ∀ xq : Nat, Run fam0 none cd_L_cash ER ET 12 5 [some (vR 0 0), some (vI c), some (vI v), some (vR 62 0), none] [vX xq] μ
      intro xq
      refine run_k 3 ?_
      show ER (some (vI 1)) μ
      refine hER _ _ ⟨fun h => absurd h (by omega), fun h => ⟨rfl, rfl⟩, fun h => absurd h (by omega), fun h => absurd h (by omega)⟩
    · show ∀ xq : Nat, Run fam0 none cd_L_cash ER ET 16 5 [some (vR 0 0), some (vI c), some (vI v), some (vR 62 0), none] [vX xq] μ
      intro xq
      refine run_k 3 ?_
      show ER (some (vI 2)) μ
      refine hER _ _ ⟨fun h => absurd h (by omega), fun h => absurd h (by omega), fun h => ⟨rfl, rfl⟩, fun h => absurd h (by omega)⟩
    · show ∀ xq : Nat, Run fam0 none cd_L_cash ER ET 20 5 [some (vR 0 0), some (vI c), some (vI v), some (vR 62 0), none] [vX xq] μ
      intro xq
      refine run_k 3 ?_
      show ER (some (vI 3)) μ
      refine hER _ _ ⟨fun h => absurd h (by omega), fun h => absurd h (by omega), fun h => absurd h (by omega), fun h => ⟨rfl, rfl⟩⟩
theorem vw_L_20 : ∀ w ∈ ([.methodLink RL 20 yX4_cash, .instanceMethod yX4_cash, .selects RX4 yX4_cash yX4_cash, .initialized RX4, .code yX4_cash cX4_cash 3 (some .long)] : List Cond), w ∈ wm := wm_ps _ [350, 351, 352, 50, 353] (by decide +kernel)
set_option maxRecDepth 20000 in
theorem con_L_cash (l : Launch) (htr : l.stackTraces = false) (σ : Mm) : CON fam0 63 l yL_cash (Cond.codeWith yL_cash cL_cash 5 (some .int) [(0, 9, 12, 13), (0, 9, 16, 15), (0, 9, 20, 24)] :: wm) 8 126 5 (cl_L_cash.2.2.1 σ) (cl_L_cash.2.2.2.1 σ) (cl_L_cash.2.2.2.2 σ) :=
  con_ofH (cd := cd_L_cash) (own := RL) (rk := 1) (maxL := 5) (hh := [(0, 9, 12, 13), (0, 9, 16, 15), (0, 9, 20, 24)]) (sc_of htr (by decide) k_L_cash_ok (by decide +kernel) all_nil all_nil (all_cons ⟨RX4, yX4_cash, cX4_cash, 3, (some .long), 7, 104, 2, con_X4_cash l htr, rfl, vw_L_20, ⟨rfl, by decide, by decide, by decide +kernel⟩, ⟨by decide, by decide⟩, fun σ as μ h => ⟨0, 0, _, h.1, rfl, TX4, 17, rfl⟩⟩ all_nil) all_nil all_nil) rfl (by decide +kernel) rfl rfl rfl ⟨⟨rfl, rfl, rfl, by decide, by decide, wcl_13⟩, ⟨⟨rfl, rfl, rfl, by decide, by decide, wcl_15⟩, ⟨⟨rfl, rfl, rfl, by decide, by decide, wcl_24⟩, True.intro⟩⟩⟩ (fun _ => rfl) (fun as μ hs => by rw [hs.1]; exact Nat.le_of_ble_eq_true rfl)
    (fun as μ hs hM hrg => by
      have hs1 := hs.1
      have hmem : ∀ v, v ∈ ([vR 0 0, vI (iaI as 1), vI (iaI as 2), vR 62 0] : List AV) → rg fam0 v := by rw [← hs1]; exact hrg
      have key := run_L_cash (ER := cl_L_cash.2.2.2.1 σ as μ) (ET := fun k μ' => cl_L_cash.2.2.2.2 σ as μ k ∧ μ' = μ) σ μ (iaI as 1) (iaI as 2) hM (hmem (vI (iaI as 1)) (by simp)) (hmem (vI (iaI as 2)) (by simp)) hs.2 (fun ov μ' h => h)
      have e : entL as 5 = [some (vR 0 0), some (vI (iaI as 1)), some (vI (iaI as 2)), some (vR 62 0), none] := by rw [hs1]; rfl
      rw [e]; exact key)
/-! ### the law's allow -/
def cl_L_allow : Cl := (4, 2, fun σ as μ => as = [vR 0 0, vI (iaI as 1), vI (iaI as 2), vR 62 0] ∧ (CV μ ∧ ((iaI as 2) = 0 ∨ (iaI as 2) = 1)), fun σ as μ ov μ' => (((0 ≤ (iaI as 1) ∧ (iaI as 1) ≤ 5) ∧ (μ 5 0 (iaI as 1) = 0)) → ov = some (vI 0) ∧ μ' 62 0 0 = (μ 4 0 (iaI as 1)) ∧ al μ' = st (al μ) 43 0 (iaI as 1) (iaI as 2) ∧ PB2 μ μ') ∧ ((¬ (0 ≤ (iaI as 1) ∧ (iaI as 1) ≤ 5)) → ov = some (vI 1) ∧ μ' = μ) ∧ (((0 ≤ (iaI as 1) ∧ (iaI as 1) ≤ 5) ∧ ¬ (μ 5 0 (iaI as 1) = 0)) → ov = some (vI 2) ∧ μ' = μ), fun σ as μ k => False)
def cd_L_allow : Cd := mkcd k_L_allow [] [] [(26, cl_X4_allow)] [] [(0, 17, 20, 1), (0, 17, 24, 3)] [] 5 1 2
set_option maxHeartbeats 4000000 in
set_option maxRecDepth 20000 in
theorem run_L_allow {ER : Option AV → Mm → Prop} {ET : Nat → Mm → Prop} (σ μ : Mm) (c m : Int) (hM : MR fam0 μ) (h_c : in32 c) (h_m : in32 m) (hP : CV μ ∧ (m = 0 ∨ m = 1)) (hER : ∀ ov μ', ((((0 ≤ c ∧ c ≤ 5) ∧ (μ 5 0 c = 0)) → ov = some (vI 0) ∧ μ' 62 0 0 = (μ 4 0 c) ∧ al μ' = st (al μ) 43 0 c m ∧ PB2 μ μ') ∧ ((¬ (0 ≤ c ∧ c ≤ 5)) → ov = some (vI 1) ∧ μ' = μ) ∧ (((0 ≤ c ∧ c ≤ 5) ∧ ¬ (μ 5 0 c = 0)) → ov = some (vI 2) ∧ μ' = μ)) → ER ov μ') : Run fam0 none cd_L_allow ER ET 0 0 [some (vR 0 0), some (vI c), some (vI m), some (vR 62 0), none] [] μ := by
  have hbl := hP.1.2.2.1.2.2.2 c
  have e43 := al_43 μ c
  have h4 : μ 5 0 c = 0 → 0 ≤ c → c ≤ 5 → μ 4 0 c = 0 ∨ μ 4 0 c = 1 := fun q c0 c1 => by
    rw [if_neg (by omega)] at e43
    rw [← e43]; exact (hbl c0 c1).1
  refine run_k 6 ?_
  show ∃ σ : Mm, cl_X4_allow.2.2.1 σ [vR 0 0, vI c, vI m] μ ∧ (∀ ov μ', cl_X4_allow.2.2.2.1 σ [vR 0 0, vI c, vI m] μ ov μ' → Run fam0 none cd_L_allow ER ET 8 2 [some (vR 0 0), some (vI c), some (vI m), some (vR 62 0), none] (ov.toList ++ [vI 0, vR 62 0]) μ') ∧ ∀ kx, cl_X4_allow.2.2.2.2 σ [vR 0 0, vI c, vI m] μ kx → thr cd_L_allow ET (Run fam0 none cd_L_allow ER ET) 5 2 [some (vR 0 0), some (vI c), some (vI m), some (vR 62 0), none] μ kx
  refine ⟨μ, ⟨rfl, (by first | assumption | exact ⟨by assumption, by assumption⟩)⟩, fun ov μ' hq => ?_, fun kx hk => ?_⟩
  · obtain ⟨hok, hov, hal, hPB⟩ : ((0 ≤ c ∧ c ≤ 5) ∧ (μ 5 0 c = 0)) ∧ ov = some (vI (μ 4 0 c)) ∧ al μ' = st (al μ) 43 0 c m ∧ PB μ μ' := hq
    rw [hov]
    clear hov
    rename Mm => M1
    have hp2 := PB_2 hPB
    show Run fam0 none cd_L_allow ER ET 8 2 [some (vR 0 0), some (vI c), some (vI m), some (vR 62 0), none] [vI (μ 4 0 c), vI 0, vR 62 0] M1
    refine run_k 1 ?_
    show ((μ 4 0 c) = 0 → Run fam0 none cd_L_allow ER ET 15 2 [some (vR 0 0), some (vI c), some (vI m), some (vR 62 0), none] [vI 0, vR 62 0] M1) ∧ ((μ 4 0 c) ≠ 0 → Run fam0 none cd_L_allow ER ET 11 2 [some (vR 0 0), some (vI c), some (vI m), some (vR 62 0), none] [vI 0, vR 62 0] M1)
    refine ⟨fun c2 => ?_, fun c2 => ?_⟩
    · refine run_k 5 ?_
      show (0 ≤ 0 ∧ 0 < 1) ∧ (ER (some (vI 0)) (st M1 62 0 0 0))
      refine ⟨by omega, ?_⟩
      refine hER _ _ ⟨fun h => ⟨rfl, by rw [st_s]; omega, (hp2 _).1.trans hal, (hp2 _).2⟩, fun h => absurd h (by omega), fun h => absurd h (by omega)⟩
    · refine run_k 6 ?_
      show (0 ≤ 0 ∧ 0 < 1) ∧ (ER (some (vI 0)) (st M1 62 0 0 1))
      refine ⟨by omega, ?_⟩
      refine hER _ _ ⟨fun h => ⟨rfl, by rw [st_s]; omega, (hp2 _).1.trans hal, (hp2 _).2⟩, fun h => absurd h (by omega), fun h => absurd h (by omega)⟩
  · have hk : (kx = 1 ∧ ¬ (0 ≤ c ∧ c ≤ 5)) ∨ (kx = 3 ∧ (0 ≤ c ∧ c ≤ 5) ∧ ¬ (μ 5 0 c = 0)) := hk
    rcases hk with ⟨rfl, hc⟩ | ⟨rfl, hc⟩
    · show ∀ xq : Nat, Run fam0 none cd_L_allow ER ET 20 2 [some (vR 0 0), some (vI c), some (vI m), some (vR 62 0), none] [vX xq] μ
      intro xq
      refine run_k 3 ?_
      show ER (some (vI 1)) μ
      refine hER _ _ ⟨fun h => absurd h (by omega), fun h => ⟨rfl, rfl⟩, fun h => absurd h (by omega)⟩
    · show ∀ xq : Nat, Run fam0 none cd_L_allow ER ET 24 2 [some (vR 0 0), some (vI c), some (vI m), some (vR 62 0), none] [vX xq] μ
      intro xq
      refine run_k 3 ?_
      show ER (some (vI 2)) μ
      refine hER _ _ ⟨fun h => absurd h (by omega), fun h => absurd h (by omega), fun h => ⟨rfl, rfl⟩⟩
theorem vw_L_26 : ∀ w ∈ ([.methodLink RL 26 yX4_allow, .instanceMethod yX4_allow, .selects RX4 yX4_allow yX4_allow, .initialized RX4, .code yX4_allow cX4_allow 4 (some .boolean)] : List Cond), w ∈ wm := wm_ps _ [400, 401, 402, 50, 403] (by decide +kernel)
set_option maxRecDepth 20000 in
theorem con_L_allow (l : Launch) (htr : l.stackTraces = false) (σ : Mm) : CON fam0 63 l yL_allow (Cond.codeWith yL_allow cL_allow 5 (some .int) [(0, 17, 20, 13), (0, 17, 24, 24)] :: wm) 8 125 2 (cl_L_allow.2.2.1 σ) (cl_L_allow.2.2.2.1 σ) (cl_L_allow.2.2.2.2 σ) :=
  con_ofH (cd := cd_L_allow) (own := RL) (rk := 1) (maxL := 5) (hh := [(0, 17, 20, 13), (0, 17, 24, 24)]) (sc_of htr (by decide) k_L_allow_ok (by decide +kernel) all_nil all_nil (all_cons ⟨RX4, yX4_allow, cX4_allow, 4, (some .boolean), 7, 102, 2, con_X4_allow l htr, rfl, vw_L_26, ⟨rfl, by decide, by decide, by decide +kernel⟩, ⟨by decide, by decide⟩, fun σ as μ h => ⟨0, 0, _, h.1, rfl, TX4, 17, rfl⟩⟩ all_nil) all_nil all_nil) rfl (by decide +kernel) rfl rfl rfl ⟨⟨rfl, rfl, rfl, by decide, by decide, wcl_13⟩, ⟨⟨rfl, rfl, rfl, by decide, by decide, wcl_24⟩, True.intro⟩⟩ (fun _ => rfl) (fun as μ hs => by rw [hs.1]; exact Nat.le_of_ble_eq_true rfl)
    (fun as μ hs hM hrg => by
      have hs1 := hs.1
      have hmem : ∀ v, v ∈ ([vR 0 0, vI (iaI as 1), vI (iaI as 2), vR 62 0] : List AV) → rg fam0 v := by rw [← hs1]; exact hrg
      have key := run_L_allow (ER := cl_L_allow.2.2.2.1 σ as μ) (ET := fun k μ' => cl_L_allow.2.2.2.2 σ as μ k ∧ μ' = μ) σ μ (iaI as 1) (iaI as 2) hM (hmem (vI (iaI as 1)) (by simp)) (hmem (vI (iaI as 2)) (by simp)) hs.2 (fun ov μ' h => h)
      have e : entL as 5 = [some (vR 0 0), some (vI (iaI as 1)), some (vI (iaI as 2)), some (vR 62 0), none] := by rw [hs1]; rfl
      rw [e]; exact key)
/-! ### the law's offer -/
def cl_L_offer : Cl := (6, 5, fun σ as μ => as = [vR 0 0, vI (iaI as 1), vI (iaI as 2), vI (iaI as 3), vI (iaI as 4), vR 62 0] ∧ (CV μ), fun σ as μ ov μ' => ((((0 ≤ (iaI as 1) ∧ (iaI as 1) ≤ 3) ∧ (0 ≤ (iaI as 2) ∧ (iaI as 2) ≤ 3)) ∧ ((0 ≤ (iaI as 3) ∧ (iaI as 3) ≤ 500) ∧ (0 ≤ (iaI as 4) ∧ (iaI as 4) ≤ 10000)) ∧ (μ 9 (iaI as 1) (iaI as 2) + (iaI as 3) ≤ 2000)) → ov = some (vI 0) ∧ μ' 62 0 0 = (μ 9 (iaI as 1) (iaI as 2) + (iaI as 3)) ∧ al μ' = st (st (al μ) 45 0 (4 * (iaI as 1) + (iaI as 2)) (μ 9 (iaI as 1) (iaI as 2) + (iaI as 3))) 46 0 (4 * (iaI as 1) + (iaI as 2)) (iaI as 4) ∧ PB2 μ μ') ∧ ((¬ ((0 ≤ (iaI as 1) ∧ (iaI as 1) ≤ 3) ∧ (0 ≤ (iaI as 2) ∧ (iaI as 2) ≤ 3))) → ov = some (vI 1) ∧ μ' = μ) ∧ ((((0 ≤ (iaI as 1) ∧ (iaI as 1) ≤ 3) ∧ (0 ≤ (iaI as 2) ∧ (iaI as 2) ≤ 3)) ∧ ¬ ((0 ≤ (iaI as 3) ∧ (iaI as 3) ≤ 500) ∧ (0 ≤ (iaI as 4) ∧ (iaI as 4) ≤ 10000))) → ov = some (vI 2) ∧ μ' = μ) ∧ ((((0 ≤ (iaI as 1) ∧ (iaI as 1) ≤ 3) ∧ (0 ≤ (iaI as 2) ∧ (iaI as 2) ≤ 3)) ∧ ((0 ≤ (iaI as 3) ∧ (iaI as 3) ≤ 500) ∧ (0 ≤ (iaI as 4) ∧ (iaI as 4) ≤ 10000)) ∧ ¬ (μ 9 (iaI as 1) (iaI as 2) + (iaI as 3) ≤ 2000)) → ov = some (vI 3) ∧ μ' = μ), fun σ as μ k => False)
def cd_L_offer : Cd := mkcd k_L_offer [] [] [(30, cl_X4_offer)] [] [(0, 14, 17, 1), (0, 14, 21, 2), (0, 14, 25, 3)] [] 7 1 5
set_option maxHeartbeats 4000000 in
set_option maxRecDepth 20000 in
theorem run_L_offer {ER : Option AV → Mm → Prop} {ET : Nat → Mm → Prop} (σ μ : Mm) (l s n f : Int) (hM : MR fam0 μ) (h_l : in32 l) (h_s : in32 s) (h_n : in32 n) (h_f : in32 f) (hP : CV μ) (hER : ∀ ov μ', (((((0 ≤ l ∧ l ≤ 3) ∧ (0 ≤ s ∧ s ≤ 3)) ∧ ((0 ≤ n ∧ n ≤ 500) ∧ (0 ≤ f ∧ f ≤ 10000)) ∧ (μ 9 l s + n ≤ 2000)) → ov = some (vI 0) ∧ μ' 62 0 0 = (μ 9 l s + n) ∧ al μ' = st (st (al μ) 45 0 (4 * l + s) (μ 9 l s + n)) 46 0 (4 * l + s) f ∧ PB2 μ μ') ∧ ((¬ ((0 ≤ l ∧ l ≤ 3) ∧ (0 ≤ s ∧ s ≤ 3))) → ov = some (vI 1) ∧ μ' = μ) ∧ ((((0 ≤ l ∧ l ≤ 3) ∧ (0 ≤ s ∧ s ≤ 3)) ∧ ¬ ((0 ≤ n ∧ n ≤ 500) ∧ (0 ≤ f ∧ f ≤ 10000))) → ov = some (vI 2) ∧ μ' = μ) ∧ ((((0 ≤ l ∧ l ≤ 3) ∧ (0 ≤ s ∧ s ≤ 3)) ∧ ((0 ≤ n ∧ n ≤ 500) ∧ (0 ≤ f ∧ f ≤ 10000)) ∧ ¬ (μ 9 l s + n ≤ 2000)) → ov = some (vI 3) ∧ μ' = μ)) → ER ov μ') : Run fam0 none cd_L_offer ER ET 0 0 [some (vR 0 0), some (vI l), some (vI s), some (vI n), some (vI f), some (vR 62 0), none] [] μ := by
  refine run_k 8 ?_
  show ∃ σ : Mm, cl_X4_offer.2.2.1 σ [vR 0 0, vI l, vI s, vI n, vI f] μ ∧ (∀ ov μ', cl_X4_offer.2.2.2.1 σ [vR 0 0, vI l, vI s, vI n, vI f] μ ov μ' → Run fam0 none cd_L_offer ER ET 12 5 [some (vR 0 0), some (vI l), some (vI s), some (vI n), some (vI f), some (vR 62 0), none] (ov.toList ++ [vI 0, vR 62 0]) μ') ∧ ∀ kx, cl_X4_offer.2.2.2.2 σ [vR 0 0, vI l, vI s, vI n, vI f] μ kx → thr cd_L_offer ET (Run fam0 none cd_L_offer ER ET) 9 5 [some (vR 0 0), some (vI l), some (vI s), some (vI n), some (vI f), some (vR 62 0), none] μ kx
  refine ⟨μ, ⟨rfl, (by first | assumption | exact ⟨by assumption, by assumption⟩)⟩, fun ov μ' hq => ?_, fun kx hk => ?_⟩
  · obtain ⟨hok, hov, hal, hPB⟩ : (((0 ≤ l ∧ l ≤ 3) ∧ (0 ≤ s ∧ s ≤ 3)) ∧ ((0 ≤ n ∧ n ≤ 500) ∧ (0 ≤ f ∧ f ≤ 10000)) ∧ (μ 9 l s + n ≤ 2000)) ∧ ov = some (vI (μ 9 l s + n)) ∧ al μ' = st (st (al μ) 45 0 (4 * l + s) (μ 9 l s + n)) 46 0 (4 * l + s) f ∧ PB μ μ' := hq
    rw [hov]
    clear hov
    rename Mm => M1
    have hp2 := PB_2 hPB
    show Run fam0 none cd_L_offer ER ET 12 5 [some (vR 0 0), some (vI l), some (vI s), some (vI n), some (vI f), some (vR 62 0), none] [vI (μ 9 l s + n), vI 0, vR 62 0] M1
    refine run_k 5 ?_
    show (0 ≤ 0 ∧ 0 < 1) ∧ (ER (some (vI 0)) (st M1 62 0 0 (μ 9 l s + n)))
    refine ⟨by omega, ?_⟩
    refine hER _ _ ⟨fun h => ⟨rfl, by rw [st_s], (hp2 _).1.trans hal, (hp2 _).2⟩, fun h => absurd h (by omega), fun h => absurd h (by omega), fun h => absurd h (by omega)⟩
  · have hk : (kx = 1 ∧ ¬ ((0 ≤ l ∧ l ≤ 3) ∧ (0 ≤ s ∧ s ≤ 3))) ∨ (kx = 2 ∧ ((0 ≤ l ∧ l ≤ 3) ∧ (0 ≤ s ∧ s ≤ 3)) ∧ ¬ ((0 ≤ n ∧ n ≤ 500) ∧ (0 ≤ f ∧ f ≤ 10000))) ∨ (kx = 3 ∧ ((0 ≤ l ∧ l ≤ 3) ∧ (0 ≤ s ∧ s ≤ 3)) ∧ ((0 ≤ n ∧ n ≤ 500) ∧ (0 ≤ f ∧ f ≤ 10000)) ∧ ¬ (μ 9 l s + n ≤ 2000)) := hk
    rcases hk with ⟨rfl, hc⟩ | ⟨rfl, hc⟩ | ⟨rfl, hc⟩
    · show ∀ xq : Nat, Run fam0 none cd_L_offer ER ET 17 5 [some (vR 0 0), some (vI l), some (vI s), some (vI n), some (vI f), some (vR 62 0), none] [vX xq] μ
      intro xq
      refine run_k 3 ?_
      show ER (some (vI 1)) μ
      refine hER _ _ ⟨fun h => absurd h (by omega), fun h => ⟨rfl, rfl⟩, fun h => absurd h (by omega), fun h => absurd h (by omega)⟩
    · show ∀ xq : Nat, Run fam0 none cd_L_offer ER ET 21 5 [some (vR 0 0), some (vI l), some (vI s), some (vI n), some (vI f), some (vR 62 0), none] [vX xq] μ
      intro xq
      refine run_k 3 ?_
      show ER (some (vI 2)) μ
      refine hER _ _ ⟨fun h => absurd h (by omega), fun h => absurd h (by omega), fun h => ⟨rfl, rfl⟩, fun h => absurd h (by omega)⟩
    · show ∀ xq : Nat, Run fam0 none cd_L_offer ER ET 25 5 [some (vR 0 0), some (vI l), some (vI s), some (vI n), some (vI f), some (vR 62 0), none] [vX xq] μ
      intro xq
      refine run_k 3 ?_
      show ER (some (vI 3)) μ
      refine hER _ _ ⟨fun h => absurd h (by omega), fun h => absurd h (by omega), fun h => absurd h (by omega), fun h => ⟨rfl, rfl⟩⟩
theorem vw_L_30 : ∀ w ∈ ([.methodLink RL 30 yX4_offer, .instanceMethod yX4_offer, .selects RX4 yX4_offer yX4_offer, .initialized RX4, .code yX4_offer cX4_offer 5 (some .int)] : List Cond), w ∈ wm := wm_ps _ [407, 408, 409, 50, 410] (by decide +kernel)
set_option maxRecDepth 20000 in
theorem con_L_offer (l : Launch) (htr : l.stackTraces = false) (σ : Mm) : CON fam0 63 l yL_offer (Cond.codeWith yL_offer cL_offer 7 (some .int) [(0, 14, 17, 13), (0, 14, 21, 15), (0, 14, 25, 24)] :: wm) 8 128 5 (cl_L_offer.2.2.1 σ) (cl_L_offer.2.2.2.1 σ) (cl_L_offer.2.2.2.2 σ) :=
  con_ofH (cd := cd_L_offer) (own := RL) (rk := 1) (maxL := 7) (hh := [(0, 14, 17, 13), (0, 14, 21, 15), (0, 14, 25, 24)]) (sc_of htr (by decide) k_L_offer_ok (by decide +kernel) all_nil all_nil (all_cons ⟨RX4, yX4_offer, cX4_offer, 5, (some .int), 7, 104, 4, con_X4_offer l htr, rfl, vw_L_30, ⟨rfl, by decide, by decide, by decide +kernel⟩, ⟨by decide, by decide⟩, fun σ as μ h => ⟨0, 0, _, h.1, rfl, TX4, 17, rfl⟩⟩ all_nil) all_nil all_nil) rfl (by decide +kernel) rfl rfl rfl ⟨⟨rfl, rfl, rfl, by decide, by decide, wcl_13⟩, ⟨⟨rfl, rfl, rfl, by decide, by decide, wcl_15⟩, ⟨⟨rfl, rfl, rfl, by decide, by decide, wcl_24⟩, True.intro⟩⟩⟩ (fun _ => rfl) (fun as μ hs => by rw [hs.1]; exact Nat.le_of_ble_eq_true rfl)
    (fun as μ hs hM hrg => by
      have hs1 := hs.1
      have hmem : ∀ v, v ∈ ([vR 0 0, vI (iaI as 1), vI (iaI as 2), vI (iaI as 3), vI (iaI as 4), vR 62 0] : List AV) → rg fam0 v := by rw [← hs1]; exact hrg
      have key := run_L_offer (ER := cl_L_offer.2.2.2.1 σ as μ) (ET := fun k μ' => cl_L_offer.2.2.2.2 σ as μ k ∧ μ' = μ) σ μ (iaI as 1) (iaI as 2) (iaI as 3) (iaI as 4) hM (hmem (vI (iaI as 1)) (by simp)) (hmem (vI (iaI as 2)) (by simp)) (hmem (vI (iaI as 3)) (by simp)) (hmem (vI (iaI as 4)) (by simp)) hs.2 (fun ov μ' h => h)
      have e : entL as 7 = [some (vR 0 0), some (vI (iaI as 1)), some (vI (iaI as 2)), some (vI (iaI as 3)), some (vI (iaI as 4)), some (vR 62 0), none] := by rw [hs1]; rfl
      rw [e]; exact key)
/-! ### the law's dividend -/
def cl_L_dividend : Cl := (4, 2, fun σ as μ => as = [vR 0 0, vI (iaI as 1), vI (iaI as 2), vR 62 0] ∧ (CV μ), fun σ as μ ov μ' => (((0 ≤ (iaI as 1) ∧ (iaI as 1) ≤ 3) ∧ (1 ≤ (iaI as 2) ∧ (iaI as 2) ≤ 10000)) → ov = some (vI 0) ∧ μ' 62 0 0 = ((divB (al μ) (iaI as 1) (iaI as 2) 4).2) ∧ al μ' = (divB (al μ) (iaI as 1) (iaI as 2) 4).1 ∧ PB2 μ μ') ∧ ((¬ (0 ≤ (iaI as 1) ∧ (iaI as 1) ≤ 3)) → ov = some (vI 1) ∧ μ' = μ) ∧ (((0 ≤ (iaI as 1) ∧ (iaI as 1) ≤ 3) ∧ ¬ (1 ≤ (iaI as 2) ∧ (iaI as 2) ≤ 10000)) → ov = some (vI 2) ∧ μ' = μ), fun σ as μ k => False)
def cd_L_dividend : Cd := mkcd k_L_dividend [] [] [(34, cl_X4_dividend)] [] [(0, 9, 12, 1), (0, 9, 16, 2)] [] 5 1 2
set_option maxHeartbeats 4000000 in
set_option maxRecDepth 20000 in
theorem run_L_dividend {ER : Option AV → Mm → Prop} {ET : Nat → Mm → Prop} (σ μ : Mm) (s v : Int) (hM : MR fam0 μ) (h_s : in32 s) (h_v : in32 v) (hP : CV μ) (hER : ∀ ov μ', ((((0 ≤ s ∧ s ≤ 3) ∧ (1 ≤ v ∧ v ≤ 10000)) → ov = some (vI 0) ∧ μ' 62 0 0 = ((divB (al μ) s v 4).2) ∧ al μ' = (divB (al μ) s v 4).1 ∧ PB2 μ μ') ∧ ((¬ (0 ≤ s ∧ s ≤ 3)) → ov = some (vI 1) ∧ μ' = μ) ∧ (((0 ≤ s ∧ s ≤ 3) ∧ ¬ (1 ≤ v ∧ v ≤ 10000)) → ov = some (vI 2) ∧ μ' = μ)) → ER ov μ') : Run fam0 none cd_L_dividend ER ET 0 0 [some (vR 0 0), some (vI s), some (vI v), some (vR 62 0), none] [] μ := by
  refine run_k 6 ?_
  show ∃ σ : Mm, cl_X4_dividend.2.2.1 σ [vR 0 0, vI s, vI v] μ ∧ (∀ ov μ', cl_X4_dividend.2.2.2.1 σ [vR 0 0, vI s, vI v] μ ov μ' → Run fam0 none cd_L_dividend ER ET 8 2 [some (vR 0 0), some (vI s), some (vI v), some (vR 62 0), none] (ov.toList ++ [vI 0, vR 62 0]) μ') ∧ ∀ kx, cl_X4_dividend.2.2.2.2 σ [vR 0 0, vI s, vI v] μ kx → thr cd_L_dividend ET (Run fam0 none cd_L_dividend ER ET) 5 2 [some (vR 0 0), some (vI s), some (vI v), some (vR 62 0), none] μ kx
  refine ⟨μ, ⟨rfl, (by first | assumption | exact ⟨by assumption, by assumption⟩)⟩, fun ov μ' hq => ?_, fun kx hk => ?_⟩
  · obtain ⟨hok, hov, hal, hPB⟩ : ((0 ≤ s ∧ s ≤ 3) ∧ (1 ≤ v ∧ v ≤ 10000)) ∧ ov = some (vL ((divB (al μ) s v 4).2)) ∧ al μ' = (divB (al μ) s v 4).1 ∧ PB μ μ' := hq
    rw [hov]
    clear hov
    rename Mm => M1
    have hp2 := PB_2 hPB
    show Run fam0 none cd_L_dividend ER ET 8 2 [some (vR 0 0), some (vI s), some (vI v), some (vR 62 0), none] [vL ((divB (al μ) s v 4).2), vI 0, vR 62 0] M1
    refine run_k 4 ?_
    show (0 ≤ 0 ∧ 0 < 1) ∧ (ER (some (vI 0)) (st M1 62 0 0 ((divB (al μ) s v 4).2)))
    refine ⟨by omega, ?_⟩
    refine hER _ _ ⟨fun h => ⟨rfl, by rw [st_s], (hp2 _).1.trans hal, (hp2 _).2⟩, fun h => absurd h (by omega), fun h => absurd h (by omega)⟩
  · have hk : (kx = 1 ∧ ¬ (0 ≤ s ∧ s ≤ 3)) ∨ (kx = 2 ∧ (0 ≤ s ∧ s ≤ 3) ∧ ¬ (1 ≤ v ∧ v ≤ 10000)) := hk
    rcases hk with ⟨rfl, hc⟩ | ⟨rfl, hc⟩
    · show ∀ xq : Nat, Run fam0 none cd_L_dividend ER ET 12 2 [some (vR 0 0), some (vI s), some (vI v), some (vR 62 0), none] [vX xq] μ
      intro xq
      refine run_k 3 ?_
      show ER (some (vI 1)) μ
      refine hER _ _ ⟨fun h => absurd h (by omega), fun h => ⟨rfl, rfl⟩, fun h => absurd h (by omega)⟩
    · show ∀ xq : Nat, Run fam0 none cd_L_dividend ER ET 16 2 [some (vR 0 0), some (vI s), some (vI v), some (vR 62 0), none] [vX xq] μ
      intro xq
      refine run_k 3 ?_
      show ER (some (vI 2)) μ
      refine hER _ _ ⟨fun h => absurd h (by omega), fun h => absurd h (by omega), fun h => ⟨rfl, rfl⟩⟩
theorem vw_L_34 : ∀ w ∈ ([.methodLink RL 34 yX4_dividend, .instanceMethod yX4_dividend, .selects RX4 yX4_dividend yX4_dividend, .initialized RX4, .code yX4_dividend cX4_dividend 8 (some .long)] : List Cond), w ∈ wm := wm_ps _ [418, 419, 420, 50, 421] (by decide +kernel)
set_option maxRecDepth 20000 in
theorem con_L_dividend (l : Launch) (htr : l.stackTraces = false) (σ : Mm) : CON fam0 63 l yL_dividend (Cond.codeWith yL_dividend cL_dividend 5 (some .int) [(0, 9, 12, 13), (0, 9, 16, 15)] :: wm) 8 131 2 (cl_L_dividend.2.2.1 σ) (cl_L_dividend.2.2.2.1 σ) (cl_L_dividend.2.2.2.2 σ) :=
  con_ofH (cd := cd_L_dividend) (own := RL) (rk := 1) (maxL := 5) (hh := [(0, 9, 12, 13), (0, 9, 16, 15)]) (sc_of htr (by decide) k_L_dividend_ok (by decide +kernel) all_nil all_nil (all_cons ⟨RX4, yX4_dividend, cX4_dividend, 8, (some .long), 7, 104, 2, con_X4_dividend l htr, rfl, vw_L_34, ⟨rfl, by decide, by decide, by decide +kernel⟩, ⟨by decide, by decide⟩, fun σ as μ h => ⟨0, 0, _, h.1, rfl, TX4, 17, rfl⟩⟩ all_nil) all_nil all_nil) rfl (by decide +kernel) rfl rfl rfl ⟨⟨rfl, rfl, rfl, by decide, by decide, wcl_13⟩, ⟨⟨rfl, rfl, rfl, by decide, by decide, wcl_15⟩, True.intro⟩⟩ (fun _ => rfl) (fun as μ hs => by rw [hs.1]; exact Nat.le_of_ble_eq_true rfl)
    (fun as μ hs hM hrg => by
      have hs1 := hs.1
      have hmem : ∀ v, v ∈ ([vR 0 0, vI (iaI as 1), vI (iaI as 2), vR 62 0] : List AV) → rg fam0 v := by rw [← hs1]; exact hrg
      have key := run_L_dividend (ER := cl_L_dividend.2.2.2.1 σ as μ) (ET := fun k μ' => cl_L_dividend.2.2.2.2 σ as μ k ∧ μ' = μ) σ μ (iaI as 1) (iaI as 2) hM (hmem (vI (iaI as 1)) (by simp)) (hmem (vI (iaI as 2)) (by simp)) hs.2 (fun ov μ' h => h)
      have e : entL as 5 = [some (vR 0 0), some (vI (iaI as 1)), some (vI (iaI as 2)), some (vR 62 0), none] := by rw [hs1]; rfl
      rw [e]; exact key)
/-! ### the law's pass -/
def cl_L_pass : Cl := (3, 2, fun σ as μ => as = [vR 0 0, vI (iaI as 1), vR 62 0] ∧ (CV μ), fun σ as μ ov μ' => (((1 ≤ (iaI as 1) ∧ (iaI as 1) ≤ 50) ∧ (μ 0 0 14 + (iaI as 1) ≤ 500)) → ov = some (vI 0) ∧ μ' 62 0 0 = (μ 0 0 14 + (iaI as 1)) ∧ al μ' = psL (al μ) (iaI as 1).toNat ∧ PB2 μ μ') ∧ ((¬ (1 ≤ (iaI as 1) ∧ (iaI as 1) ≤ 50)) → ov = some (vI 1) ∧ μ' = μ) ∧ (((1 ≤ (iaI as 1) ∧ (iaI as 1) ≤ 50) ∧ ¬ (μ 0 0 14 + (iaI as 1) ≤ 500)) → ov = some (vI 2) ∧ μ' = μ), fun σ as μ k => False)
def cd_L_pass : Cd := mkcd k_L_pass [] [] [(37, cl_X4_pass)] [] [(0, 9, 12, 2), (0, 9, 15, 3)] [] 4 1 2
set_option maxHeartbeats 4000000 in
set_option maxRecDepth 20000 in
theorem run_L_pass {ER : Option AV → Mm → Prop} {ET : Nat → Mm → Prop} (σ μ : Mm) (n : Int) (hM : MR fam0 μ) (h_n : in32 n) (hP : CV μ) (hER : ∀ ov μ', ((((1 ≤ n ∧ n ≤ 50) ∧ (μ 0 0 14 + n ≤ 500)) → ov = some (vI 0) ∧ μ' 62 0 0 = (μ 0 0 14 + n) ∧ al μ' = psL (al μ) n.toNat ∧ PB2 μ μ') ∧ ((¬ (1 ≤ n ∧ n ≤ 50)) → ov = some (vI 1) ∧ μ' = μ) ∧ (((1 ≤ n ∧ n ≤ 50) ∧ ¬ (μ 0 0 14 + n ≤ 500)) → ov = some (vI 2) ∧ μ' = μ)) → ER ov μ') : Run fam0 none cd_L_pass ER ET 0 0 [some (vR 0 0), some (vI n), some (vR 62 0), none] [] μ := by
  refine run_k 5 ?_
  show ∃ σ : Mm, cl_X4_pass.2.2.1 σ [vR 0 0, vI n] μ ∧ (∀ ov μ', cl_X4_pass.2.2.2.1 σ [vR 0 0, vI n] μ ov μ' → Run fam0 none cd_L_pass ER ET 7 2 [some (vR 0 0), some (vI n), some (vR 62 0), none] (ov.toList ++ [vI 0, vR 62 0]) μ') ∧ ∀ kx, cl_X4_pass.2.2.2.2 σ [vR 0 0, vI n] μ kx → thr cd_L_pass ET (Run fam0 none cd_L_pass ER ET) 4 2 [some (vR 0 0), some (vI n), some (vR 62 0), none] μ kx
  refine ⟨μ, ⟨rfl, (by first | assumption | exact ⟨by assumption, by assumption⟩)⟩, fun ov μ' hq => ?_, fun kx hk => ?_⟩
  · obtain ⟨hok, hov, hal, hPB⟩ : ((1 ≤ n ∧ n ≤ 50) ∧ (μ 0 0 14 + n ≤ 500)) ∧ ov = some (vI (μ 0 0 14 + n)) ∧ al μ' = psL (al μ) n.toNat ∧ PB μ μ' := hq
    rw [hov]
    clear hov
    rename Mm => M1
    have hp2 := PB_2 hPB
    show Run fam0 none cd_L_pass ER ET 7 2 [some (vR 0 0), some (vI n), some (vR 62 0), none] [vI (μ 0 0 14 + n), vI 0, vR 62 0] M1
    refine run_k 5 ?_
    show (0 ≤ 0 ∧ 0 < 1) ∧ (ER (some (vI 0)) (st M1 62 0 0 (μ 0 0 14 + n)))
    refine ⟨by omega, ?_⟩
    refine hER _ _ ⟨fun h => ⟨rfl, by rw [st_s], (hp2 _).1.trans hal, (hp2 _).2⟩, fun h => absurd h (by omega), fun h => absurd h (by omega)⟩
  · have hk : (kx = 2 ∧ ¬ (1 ≤ n ∧ n ≤ 50)) ∨ (kx = 3 ∧ (1 ≤ n ∧ n ≤ 50) ∧ ¬ (μ 0 0 14 + n ≤ 500)) := hk
    rcases hk with ⟨rfl, hc⟩ | ⟨rfl, hc⟩
    · show ∀ xq : Nat, Run fam0 none cd_L_pass ER ET 12 2 [some (vR 0 0), some (vI n), some (vR 62 0), none] [vX xq] μ
      intro xq
      refine run_k 3 ?_
      show ER (some (vI 1)) μ
      refine hER _ _ ⟨fun h => absurd h (by omega), fun h => ⟨rfl, rfl⟩, fun h => absurd h (by omega)⟩
    · show ∀ xq : Nat, Run fam0 none cd_L_pass ER ET 15 2 [some (vR 0 0), some (vI n), some (vR 62 0), none] [vX xq] μ
      intro xq
      refine run_k 3 ?_
      show ER (some (vI 2)) μ
      refine hER _ _ ⟨fun h => absurd h (by omega), fun h => absurd h (by omega), fun h => ⟨rfl, rfl⟩⟩
theorem vw_L_37 : ∀ w ∈ ([.methodLink RL 37 yX4_pass, .instanceMethod yX4_pass, .selects RX4 yX4_pass yX4_pass, .initialized RX4, .code yX4_pass cX4_pass 3 (some .int)] : List Cond), w ∈ wm := wm_ps _ [425, 426, 427, 50, 428] (by decide +kernel)
set_option maxRecDepth 20000 in
theorem con_L_pass (l : Launch) (htr : l.stackTraces = false) (σ : Mm) : CON fam0 63 l yL_pass (Cond.codeWith yL_pass cL_pass 4 (some .int) [(0, 9, 12, 15), (0, 9, 15, 24)] :: wm) 8 173 2 (cl_L_pass.2.2.1 σ) (cl_L_pass.2.2.2.1 σ) (cl_L_pass.2.2.2.2 σ) :=
  con_ofH (cd := cd_L_pass) (own := RL) (rk := 1) (maxL := 4) (hh := [(0, 9, 12, 15), (0, 9, 15, 24)]) (sc_of htr (by decide) k_L_pass_ok (by decide +kernel) all_nil all_nil (all_cons ⟨RX4, yX4_pass, cX4_pass, 3, (some .int), 7, 151, 1, con_X4_pass l htr, rfl, vw_L_37, ⟨rfl, by decide, by decide, by decide +kernel⟩, ⟨by decide, by decide⟩, fun σ as μ h => ⟨0, 0, _, h.1, rfl, TX4, 17, rfl⟩⟩ all_nil) all_nil all_nil) rfl (by decide +kernel) rfl rfl rfl ⟨⟨rfl, rfl, rfl, by decide, by decide, wcl_15⟩, ⟨⟨rfl, rfl, rfl, by decide, by decide, wcl_24⟩, True.intro⟩⟩ (fun _ => rfl) (fun as μ hs => by rw [hs.1]; exact Nat.le_of_ble_eq_true rfl)
    (fun as μ hs hM hrg => by
      have hs1 := hs.1
      have hmem : ∀ v, v ∈ ([vR 0 0, vI (iaI as 1), vR 62 0] : List AV) → rg fam0 v := by rw [← hs1]; exact hrg
      have key := run_L_pass (ER := cl_L_pass.2.2.2.1 σ as μ) (ET := fun k μ' => cl_L_pass.2.2.2.2 σ as μ k ∧ μ' = μ) σ μ (iaI as 1) hM (hmem (vI (iaI as 1)) (by simp)) hs.2 (fun ov μ' h => h)
      have e : entL as 4 = [some (vR 0 0), some (vI (iaI as 1)), some (vR 62 0), none] := by rw [hs1]; rfl
      rw [e]; exact key)
/-! ### the law's buy -/
def cl_L_buy : Cl := (5, 4, fun σ as μ => as = [vR 0 0, vI (iaI as 1), vI (iaI as 2), vI (iaI as 3), vR 62 0] ∧ (CV μ), fun σ as μ ov μ' => ((((0 ≤ (iaI as 1) ∧ (iaI as 1) ≤ 5) ∧ (0 ≤ (iaI as 2) ∧ (iaI as 2) ≤ 3)) ∧ (1 ≤ (iaI as 3) ∧ (iaI as 3) ≤ 500) ∧ (μ 5 0 (iaI as 1) = 0 ∧ μ 7 (iaI as 1) (iaI as 2) + (iaI as 3) ≤ 500)) → ov = some (vI 0) ∧ μ' 62 0 0 = (buysF (al μ) (iaI as 1) (iaI as 2) (iaI as 3) 41 0 (iaI as 1)) ∧ al μ' = buysF (al μ) (iaI as 1) (iaI as 2) (iaI as 3) ∧ PB2 μ μ') ∧ ((¬ ((0 ≤ (iaI as 1) ∧ (iaI as 1) ≤ 5) ∧ (0 ≤ (iaI as 2) ∧ (iaI as 2) ≤ 3))) → ov = some (vI 1) ∧ μ' = μ) ∧ ((((0 ≤ (iaI as 1) ∧ (iaI as 1) ≤ 5) ∧ (0 ≤ (iaI as 2) ∧ (iaI as 2) ≤ 3)) ∧ ¬ (1 ≤ (iaI as 3) ∧ (iaI as 3) ≤ 500)) → ov = some (vI 2) ∧ μ' = μ) ∧ ((((0 ≤ (iaI as 1) ∧ (iaI as 1) ≤ 5) ∧ (0 ≤ (iaI as 2) ∧ (iaI as 2) ≤ 3)) ∧ (1 ≤ (iaI as 3) ∧ (iaI as 3) ≤ 500) ∧ ¬ (μ 5 0 (iaI as 1) = 0 ∧ μ 7 (iaI as 1) (iaI as 2) + (iaI as 3) ≤ 500)) → ov = some (vI 3) ∧ μ' = μ), fun σ as μ k => False)
def cd_L_buy : Cd := mkcd k_L_buy [] [] [(41, cl_X4_buy)] [] [(0, 11, 14, 1), (0, 11, 18, 2), (0, 11, 22, 3)] [] 6 1 4
set_option maxHeartbeats 4000000 in
set_option maxRecDepth 20000 in
theorem run_L_buy {ER : Option AV → Mm → Prop} {ET : Nat → Mm → Prop} (σ μ : Mm) (c s n : Int) (hM : MR fam0 μ) (h_c : in32 c) (h_s : in32 s) (h_n : in32 n) (hP : CV μ) (hER : ∀ ov μ', (((((0 ≤ c ∧ c ≤ 5) ∧ (0 ≤ s ∧ s ≤ 3)) ∧ (1 ≤ n ∧ n ≤ 500) ∧ (μ 5 0 c = 0 ∧ μ 7 c s + n ≤ 500)) → ov = some (vI 0) ∧ μ' 62 0 0 = (buysF (al μ) c s n 41 0 c) ∧ al μ' = buysF (al μ) c s n ∧ PB2 μ μ') ∧ ((¬ ((0 ≤ c ∧ c ≤ 5) ∧ (0 ≤ s ∧ s ≤ 3))) → ov = some (vI 1) ∧ μ' = μ) ∧ ((((0 ≤ c ∧ c ≤ 5) ∧ (0 ≤ s ∧ s ≤ 3)) ∧ ¬ (1 ≤ n ∧ n ≤ 500)) → ov = some (vI 2) ∧ μ' = μ) ∧ ((((0 ≤ c ∧ c ≤ 5) ∧ (0 ≤ s ∧ s ≤ 3)) ∧ (1 ≤ n ∧ n ≤ 500) ∧ ¬ (μ 5 0 c = 0 ∧ μ 7 c s + n ≤ 500)) → ov = some (vI 3) ∧ μ' = μ)) → ER ov μ') : Run fam0 none cd_L_buy ER ET 0 0 [some (vR 0 0), some (vI c), some (vI s), some (vI n), some (vR 62 0), none] [] μ := by
  refine run_k 7 ?_
  show ∃ σ : Mm, cl_X4_buy.2.2.1 σ [vR 0 0, vI c, vI s, vI n] μ ∧ (∀ ov μ', cl_X4_buy.2.2.2.1 σ [vR 0 0, vI c, vI s, vI n] μ ov μ' → Run fam0 none cd_L_buy ER ET 10 4 [some (vR 0 0), some (vI c), some (vI s), some (vI n), some (vR 62 0), none] (ov.toList ++ [vI 0, vR 62 0]) μ') ∧ ∀ kx, cl_X4_buy.2.2.2.2 σ [vR 0 0, vI c, vI s, vI n] μ kx → thr cd_L_buy ET (Run fam0 none cd_L_buy ER ET) 7 4 [some (vR 0 0), some (vI c), some (vI s), some (vI n), some (vR 62 0), none] μ kx
  refine ⟨μ, ⟨rfl, (by first | assumption | exact ⟨by assumption, by assumption⟩)⟩, fun ov μ' hq => ?_, fun kx hk => ?_⟩
  · obtain ⟨hok, hov, hal, hPB⟩ : (((0 ≤ c ∧ c ≤ 5) ∧ (0 ≤ s ∧ s ≤ 3)) ∧ (1 ≤ n ∧ n ≤ 500) ∧ (μ 5 0 c = 0 ∧ μ 7 c s + n ≤ 500)) ∧ ov = some (vL (buysF (al μ) c s n 41 0 c)) ∧ al μ' = buysF (al μ) c s n ∧ PB μ μ' := hq
    rw [hov]
    clear hov
    rename Mm => M1
    have hp2 := PB_2 hPB
    show Run fam0 none cd_L_buy ER ET 10 4 [some (vR 0 0), some (vI c), some (vI s), some (vI n), some (vR 62 0), none] [vL (buysF (al μ) c s n 41 0 c), vI 0, vR 62 0] M1
    refine run_k 4 ?_
    show (0 ≤ 0 ∧ 0 < 1) ∧ (ER (some (vI 0)) (st M1 62 0 0 (buysF (al μ) c s n 41 0 c)))
    refine ⟨by omega, ?_⟩
    refine hER _ _ ⟨fun h => ⟨rfl, by rw [st_s], (hp2 _).1.trans hal, (hp2 _).2⟩, fun h => absurd h (by omega), fun h => absurd h (by omega), fun h => absurd h (by omega)⟩
  · have hk : (kx = 1 ∧ ¬ ((0 ≤ c ∧ c ≤ 5) ∧ (0 ≤ s ∧ s ≤ 3))) ∨ (kx = 2 ∧ ((0 ≤ c ∧ c ≤ 5) ∧ (0 ≤ s ∧ s ≤ 3)) ∧ ¬ (1 ≤ n ∧ n ≤ 500)) ∨ (kx = 3 ∧ ((0 ≤ c ∧ c ≤ 5) ∧ (0 ≤ s ∧ s ≤ 3)) ∧ (1 ≤ n ∧ n ≤ 500) ∧ ¬ (μ 5 0 c = 0 ∧ μ 7 c s + n ≤ 500)) := hk
    rcases hk with ⟨rfl, hc⟩ | ⟨rfl, hc⟩ | ⟨rfl, hc⟩
    · show ∀ xq : Nat, Run fam0 none cd_L_buy ER ET 14 4 [some (vR 0 0), some (vI c), some (vI s), some (vI n), some (vR 62 0), none] [vX xq] μ
      intro xq
      refine run_k 3 ?_
      show ER (some (vI 1)) μ
      refine hER _ _ ⟨fun h => absurd h (by omega), fun h => ⟨rfl, rfl⟩, fun h => absurd h (by omega), fun h => absurd h (by omega)⟩
    · show ∀ xq : Nat, Run fam0 none cd_L_buy ER ET 18 4 [some (vR 0 0), some (vI c), some (vI s), some (vI n), some (vR 62 0), none] [vX xq] μ
      intro xq
      refine run_k 3 ?_
      show ER (some (vI 2)) μ
      refine hER _ _ ⟨fun h => absurd h (by omega), fun h => absurd h (by omega), fun h => ⟨rfl, rfl⟩, fun h => absurd h (by omega)⟩
    · show ∀ xq : Nat, Run fam0 none cd_L_buy ER ET 22 4 [some (vR 0 0), some (vI c), some (vI s), some (vI n), some (vR 62 0), none] [vX xq] μ
      intro xq
      refine run_k 3 ?_
      show ER (some (vI 3)) μ
      refine hER _ _ ⟨fun h => absurd h (by omega), fun h => absurd h (by omega), fun h => absurd h (by omega), fun h => ⟨rfl, rfl⟩⟩
theorem vw_L_41 : ∀ w ∈ ([.methodLink RL 41 yX4_buy, .instanceMethod yX4_buy, .selects RX4 yX4_buy yX4_buy, .initialized RX4, .code yX4_buy cX4_buy 4 (some .long)] : List Cond), w ∈ wm := wm_ps _ [497, 498, 499, 50, 500] (by decide +kernel)
set_option maxRecDepth 20000 in
theorem con_L_buy (l : Launch) (htr : l.stackTraces = false) (σ : Mm) : CON fam0 63 l yL_buy (Cond.codeWith yL_buy cL_buy 6 (some .int) [(0, 11, 14, 13), (0, 11, 18, 15), (0, 11, 22, 24)] :: wm) 8 127 4 (cl_L_buy.2.2.1 σ) (cl_L_buy.2.2.2.1 σ) (cl_L_buy.2.2.2.2 σ) :=
  con_ofH (cd := cd_L_buy) (own := RL) (rk := 1) (maxL := 6) (hh := [(0, 11, 14, 13), (0, 11, 18, 15), (0, 11, 22, 24)]) (sc_of htr (by decide) k_L_buy_ok (by decide +kernel) all_nil all_nil (all_cons ⟨RX4, yX4_buy, cX4_buy, 4, (some .long), 7, 104, 3, con_X4_buy l htr, rfl, vw_L_41, ⟨rfl, by decide, by decide, by decide +kernel⟩, ⟨by decide, by decide⟩, fun σ as μ h => ⟨0, 0, _, h.1, rfl, TX4, 17, rfl⟩⟩ all_nil) all_nil all_nil) rfl (by decide +kernel) rfl rfl rfl ⟨⟨rfl, rfl, rfl, by decide, by decide, wcl_13⟩, ⟨⟨rfl, rfl, rfl, by decide, by decide, wcl_15⟩, ⟨⟨rfl, rfl, rfl, by decide, by decide, wcl_24⟩, True.intro⟩⟩⟩ (fun _ => rfl) (fun as μ hs => by rw [hs.1]; exact Nat.le_of_ble_eq_true rfl)
    (fun as μ hs hM hrg => by
      have hs1 := hs.1
      have hmem : ∀ v, v ∈ ([vR 0 0, vI (iaI as 1), vI (iaI as 2), vI (iaI as 3), vR 62 0] : List AV) → rg fam0 v := by rw [← hs1]; exact hrg
      have key := run_L_buy (ER := cl_L_buy.2.2.2.1 σ as μ) (ET := fun k μ' => cl_L_buy.2.2.2.2 σ as μ k ∧ μ' = μ) σ μ (iaI as 1) (iaI as 2) (iaI as 3) hM (hmem (vI (iaI as 1)) (by simp)) (hmem (vI (iaI as 2)) (by simp)) (hmem (vI (iaI as 3)) (by simp)) hs.2 (fun ov μ' h => h)
      have e : entL as 6 = [some (vR 0 0), some (vI (iaI as 1)), some (vI (iaI as 2)), some (vI (iaI as 3)), some (vR 62 0), none] := by rw [hs1]; rfl
      rw [e]; exact key)
/-! ### the law's sell -/
def cl_L_sell : Cl := (5, 4, fun σ as μ => as = [vR 0 0, vI (iaI as 1), vI (iaI as 2), vI (iaI as 3), vR 62 0] ∧ (CV μ), fun σ as μ ov μ' => ((((0 ≤ (iaI as 1) ∧ (iaI as 1) ≤ 5) ∧ (0 ≤ (iaI as 2) ∧ (iaI as 2) ≤ 3)) ∧ (1 ≤ (iaI as 3) ∧ (iaI as 3) ≤ 500) ∧ (μ 5 0 (iaI as 1) = 0 ∧ (iaI as 3) ≤ μ 7 (iaI as 1) (iaI as 2))) → ov = some (vI 0) ∧ μ' 62 0 0 = (sellsF (al μ) (iaI as 1) (iaI as 2) (iaI as 3) 41 0 (iaI as 1)) ∧ al μ' = sellsF (al μ) (iaI as 1) (iaI as 2) (iaI as 3) ∧ PB2 μ μ') ∧ ((¬ ((0 ≤ (iaI as 1) ∧ (iaI as 1) ≤ 5) ∧ (0 ≤ (iaI as 2) ∧ (iaI as 2) ≤ 3))) → ov = some (vI 1) ∧ μ' = μ) ∧ ((((0 ≤ (iaI as 1) ∧ (iaI as 1) ≤ 5) ∧ (0 ≤ (iaI as 2) ∧ (iaI as 2) ≤ 3)) ∧ ¬ (1 ≤ (iaI as 3) ∧ (iaI as 3) ≤ 500)) → ov = some (vI 2) ∧ μ' = μ) ∧ ((((0 ≤ (iaI as 1) ∧ (iaI as 1) ≤ 5) ∧ (0 ≤ (iaI as 2) ∧ (iaI as 2) ≤ 3)) ∧ (1 ≤ (iaI as 3) ∧ (iaI as 3) ≤ 500) ∧ ¬ (μ 5 0 (iaI as 1) = 0 ∧ (iaI as 3) ≤ μ 7 (iaI as 1) (iaI as 2))) → ov = some (vI 3) ∧ μ' = μ), fun σ as μ k => False)
def cd_L_sell : Cd := mkcd k_L_sell [] [] [(45, cl_X4_sell)] [] [(0, 11, 14, 1), (0, 11, 18, 2), (0, 11, 22, 3)] [] 6 1 4
set_option maxHeartbeats 4000000 in
set_option maxRecDepth 20000 in
theorem run_L_sell {ER : Option AV → Mm → Prop} {ET : Nat → Mm → Prop} (σ μ : Mm) (c s n : Int) (hM : MR fam0 μ) (h_c : in32 c) (h_s : in32 s) (h_n : in32 n) (hP : CV μ) (hER : ∀ ov μ', (((((0 ≤ c ∧ c ≤ 5) ∧ (0 ≤ s ∧ s ≤ 3)) ∧ (1 ≤ n ∧ n ≤ 500) ∧ (μ 5 0 c = 0 ∧ n ≤ μ 7 c s)) → ov = some (vI 0) ∧ μ' 62 0 0 = (sellsF (al μ) c s n 41 0 c) ∧ al μ' = sellsF (al μ) c s n ∧ PB2 μ μ') ∧ ((¬ ((0 ≤ c ∧ c ≤ 5) ∧ (0 ≤ s ∧ s ≤ 3))) → ov = some (vI 1) ∧ μ' = μ) ∧ ((((0 ≤ c ∧ c ≤ 5) ∧ (0 ≤ s ∧ s ≤ 3)) ∧ ¬ (1 ≤ n ∧ n ≤ 500)) → ov = some (vI 2) ∧ μ' = μ) ∧ ((((0 ≤ c ∧ c ≤ 5) ∧ (0 ≤ s ∧ s ≤ 3)) ∧ (1 ≤ n ∧ n ≤ 500) ∧ ¬ (μ 5 0 c = 0 ∧ n ≤ μ 7 c s)) → ov = some (vI 3) ∧ μ' = μ)) → ER ov μ') : Run fam0 none cd_L_sell ER ET 0 0 [some (vR 0 0), some (vI c), some (vI s), some (vI n), some (vR 62 0), none] [] μ := by
  refine run_k 7 ?_
  show ∃ σ : Mm, cl_X4_sell.2.2.1 σ [vR 0 0, vI c, vI s, vI n] μ ∧ (∀ ov μ', cl_X4_sell.2.2.2.1 σ [vR 0 0, vI c, vI s, vI n] μ ov μ' → Run fam0 none cd_L_sell ER ET 10 4 [some (vR 0 0), some (vI c), some (vI s), some (vI n), some (vR 62 0), none] (ov.toList ++ [vI 0, vR 62 0]) μ') ∧ ∀ kx, cl_X4_sell.2.2.2.2 σ [vR 0 0, vI c, vI s, vI n] μ kx → thr cd_L_sell ET (Run fam0 none cd_L_sell ER ET) 7 4 [some (vR 0 0), some (vI c), some (vI s), some (vI n), some (vR 62 0), none] μ kx
  refine ⟨μ, ⟨rfl, (by first | assumption | exact ⟨by assumption, by assumption⟩)⟩, fun ov μ' hq => ?_, fun kx hk => ?_⟩
  · obtain ⟨hok, hov, hal, hPB⟩ : (((0 ≤ c ∧ c ≤ 5) ∧ (0 ≤ s ∧ s ≤ 3)) ∧ (1 ≤ n ∧ n ≤ 500) ∧ (μ 5 0 c = 0 ∧ n ≤ μ 7 c s)) ∧ ov = some (vL (sellsF (al μ) c s n 41 0 c)) ∧ al μ' = sellsF (al μ) c s n ∧ PB μ μ' := hq
    rw [hov]
    clear hov
    rename Mm => M1
    have hp2 := PB_2 hPB
    show Run fam0 none cd_L_sell ER ET 10 4 [some (vR 0 0), some (vI c), some (vI s), some (vI n), some (vR 62 0), none] [vL (sellsF (al μ) c s n 41 0 c), vI 0, vR 62 0] M1
    refine run_k 4 ?_
    show (0 ≤ 0 ∧ 0 < 1) ∧ (ER (some (vI 0)) (st M1 62 0 0 (sellsF (al μ) c s n 41 0 c)))
    refine ⟨by omega, ?_⟩
    refine hER _ _ ⟨fun h => ⟨rfl, by rw [st_s], (hp2 _).1.trans hal, (hp2 _).2⟩, fun h => absurd h (by omega), fun h => absurd h (by omega), fun h => absurd h (by omega)⟩
  · have hk : (kx = 1 ∧ ¬ ((0 ≤ c ∧ c ≤ 5) ∧ (0 ≤ s ∧ s ≤ 3))) ∨ (kx = 2 ∧ ((0 ≤ c ∧ c ≤ 5) ∧ (0 ≤ s ∧ s ≤ 3)) ∧ ¬ (1 ≤ n ∧ n ≤ 500)) ∨ (kx = 3 ∧ ((0 ≤ c ∧ c ≤ 5) ∧ (0 ≤ s ∧ s ≤ 3)) ∧ (1 ≤ n ∧ n ≤ 500) ∧ ¬ (μ 5 0 c = 0 ∧ n ≤ μ 7 c s)) := hk
    rcases hk with ⟨rfl, hc⟩ | ⟨rfl, hc⟩ | ⟨rfl, hc⟩
    · show ∀ xq : Nat, Run fam0 none cd_L_sell ER ET 14 4 [some (vR 0 0), some (vI c), some (vI s), some (vI n), some (vR 62 0), none] [vX xq] μ
      intro xq
      refine run_k 3 ?_
      show ER (some (vI 1)) μ
      refine hER _ _ ⟨fun h => absurd h (by omega), fun h => ⟨rfl, rfl⟩, fun h => absurd h (by omega), fun h => absurd h (by omega)⟩
    · show ∀ xq : Nat, Run fam0 none cd_L_sell ER ET 18 4 [some (vR 0 0), some (vI c), some (vI s), some (vI n), some (vR 62 0), none] [vX xq] μ
      intro xq
      refine run_k 3 ?_
      show ER (some (vI 2)) μ
      refine hER _ _ ⟨fun h => absurd h (by omega), fun h => absurd h (by omega), fun h => ⟨rfl, rfl⟩, fun h => absurd h (by omega)⟩
    · show ∀ xq : Nat, Run fam0 none cd_L_sell ER ET 22 4 [some (vR 0 0), some (vI c), some (vI s), some (vI n), some (vR 62 0), none] [vX xq] μ
      intro xq
      refine run_k 3 ?_
      show ER (some (vI 3)) μ
      refine hER _ _ ⟨fun h => absurd h (by omega), fun h => absurd h (by omega), fun h => absurd h (by omega), fun h => ⟨rfl, rfl⟩⟩
theorem vw_L_45 : ∀ w ∈ ([.methodLink RL 45 yX4_sell, .instanceMethod yX4_sell, .selects RX4 yX4_sell yX4_sell, .initialized RX4, .code yX4_sell cX4_sell 4 (some .long)] : List Cond), w ∈ wm := wm_ps _ [516, 517, 518, 50, 519] (by decide +kernel)
set_option maxRecDepth 20000 in
theorem con_L_sell (l : Launch) (htr : l.stackTraces = false) (σ : Mm) : CON fam0 63 l yL_sell (Cond.codeWith yL_sell cL_sell 6 (some .int) [(0, 11, 14, 13), (0, 11, 18, 15), (0, 11, 22, 24)] :: wm) 8 153 4 (cl_L_sell.2.2.1 σ) (cl_L_sell.2.2.2.1 σ) (cl_L_sell.2.2.2.2 σ) :=
  con_ofH (cd := cd_L_sell) (own := RL) (rk := 1) (maxL := 6) (hh := [(0, 11, 14, 13), (0, 11, 18, 15), (0, 11, 22, 24)]) (sc_of htr (by decide) k_L_sell_ok (by decide +kernel) all_nil all_nil (all_cons ⟨RX4, yX4_sell, cX4_sell, 4, (some .long), 7, 130, 3, con_X4_sell l htr, rfl, vw_L_45, ⟨rfl, by decide, by decide, by decide +kernel⟩, ⟨by decide, by decide⟩, fun σ as μ h => ⟨0, 0, _, h.1, rfl, TX4, 17, rfl⟩⟩ all_nil) all_nil all_nil) rfl (by decide +kernel) rfl rfl rfl ⟨⟨rfl, rfl, rfl, by decide, by decide, wcl_13⟩, ⟨⟨rfl, rfl, rfl, by decide, by decide, wcl_15⟩, ⟨⟨rfl, rfl, rfl, by decide, by decide, wcl_24⟩, True.intro⟩⟩⟩ (fun _ => rfl) (fun as μ hs => by rw [hs.1]; exact Nat.le_of_ble_eq_true rfl)
    (fun as μ hs hM hrg => by
      have hs1 := hs.1
      have hmem : ∀ v, v ∈ ([vR 0 0, vI (iaI as 1), vI (iaI as 2), vI (iaI as 3), vR 62 0] : List AV) → rg fam0 v := by rw [← hs1]; exact hrg
      have key := run_L_sell (ER := cl_L_sell.2.2.2.1 σ as μ) (ET := fun k μ' => cl_L_sell.2.2.2.2 σ as μ k ∧ μ' = μ) σ μ (iaI as 1) (iaI as 2) (iaI as 3) hM (hmem (vI (iaI as 1)) (by simp)) (hmem (vI (iaI as 2)) (by simp)) (hmem (vI (iaI as 3)) (by simp)) hs.2 (fun ov μ' h => h)
      have e : entL as 6 = [some (vR 0 0), some (vI (iaI as 1)), some (vI (iaI as 2)), some (vI (iaI as 3)), some (vR 62 0), none] := by rw [hs1]; rfl
      rw [e]; exact key)
/-! ### the law's locate -/
def cl_L_locate : Cl := (5, 5, fun σ as μ => as = [vR 0 0, vI (iaI as 1), vI (iaI as 2), vI (iaI as 3), vR 62 0] ∧ (CV μ), fun σ as μ ov μ' => ((((0 ≤ (iaI as 1) ∧ (iaI as 1) ≤ 5) ∧ (0 ≤ (iaI as 2) ∧ (iaI as 2) ≤ 3)) ∧ (1 ≤ (iaI as 3) ∧ (iaI as 3) ≤ 500) ∧ ((μ 5 0 (iaI as 1) = 0 ∧ μ 21 0 5 < 60) ∧ (iaI as 3) ≤ canF (al μ) (iaI as 1) (iaI as 2))) → ov = some (vI 0) ∧ μ' 62 0 0 = (μ 21 0 5) ∧ al μ' = st (st (st (st (st (al μ) 53 0 (μ 21 0 5) (iaI as 1)) 54 0 (μ 21 0 5) (iaI as 2)) 55 0 (μ 21 0 5) (iaI as 3)) 56 0 (μ 21 0 5) (μ 0 0 14)) 38 0 17 (μ 21 0 5 + 1) ∧ PB2 μ μ') ∧ ((¬ ((0 ≤ (iaI as 1) ∧ (iaI as 1) ≤ 5) ∧ (0 ≤ (iaI as 2) ∧ (iaI as 2) ≤ 3))) → ov = some (vI 1) ∧ μ' = μ) ∧ ((((0 ≤ (iaI as 1) ∧ (iaI as 1) ≤ 5) ∧ (0 ≤ (iaI as 2) ∧ (iaI as 2) ≤ 3)) ∧ ¬ (1 ≤ (iaI as 3) ∧ (iaI as 3) ≤ 500)) → ov = some (vI 2) ∧ μ' = μ) ∧ ((((0 ≤ (iaI as 1) ∧ (iaI as 1) ≤ 5) ∧ (0 ≤ (iaI as 2) ∧ (iaI as 2) ≤ 3)) ∧ (1 ≤ (iaI as 3) ∧ (iaI as 3) ≤ 500) ∧ ¬ ((μ 5 0 (iaI as 1) = 0 ∧ μ 21 0 5 < 60) ∧ (iaI as 3) ≤ canF (al μ) (iaI as 1) (iaI as 2))) → ov = some (vI 3) ∧ μ' = μ), fun σ as μ k => False)
def cd_L_locate : Cd := mkcd k_L_locate [] [] [(48, cl_X4_locate)] [] [(0, 12, 15, 1), (0, 12, 19, 2), (0, 12, 23, 3)] [] 6 1 5
set_option maxHeartbeats 4000000 in
set_option maxRecDepth 20000 in
theorem run_L_locate {ER : Option AV → Mm → Prop} {ET : Nat → Mm → Prop} (σ μ : Mm) (c s n : Int) (hM : MR fam0 μ) (h_c : in32 c) (h_s : in32 s) (h_n : in32 n) (hP : CV μ) (hER : ∀ ov μ', (((((0 ≤ c ∧ c ≤ 5) ∧ (0 ≤ s ∧ s ≤ 3)) ∧ (1 ≤ n ∧ n ≤ 500) ∧ ((μ 5 0 c = 0 ∧ μ 21 0 5 < 60) ∧ n ≤ canF (al μ) c s)) → ov = some (vI 0) ∧ μ' 62 0 0 = (μ 21 0 5) ∧ al μ' = st (st (st (st (st (al μ) 53 0 (μ 21 0 5) c) 54 0 (μ 21 0 5) s) 55 0 (μ 21 0 5) n) 56 0 (μ 21 0 5) (μ 0 0 14)) 38 0 17 (μ 21 0 5 + 1) ∧ PB2 μ μ') ∧ ((¬ ((0 ≤ c ∧ c ≤ 5) ∧ (0 ≤ s ∧ s ≤ 3))) → ov = some (vI 1) ∧ μ' = μ) ∧ ((((0 ≤ c ∧ c ≤ 5) ∧ (0 ≤ s ∧ s ≤ 3)) ∧ ¬ (1 ≤ n ∧ n ≤ 500)) → ov = some (vI 2) ∧ μ' = μ) ∧ ((((0 ≤ c ∧ c ≤ 5) ∧ (0 ≤ s ∧ s ≤ 3)) ∧ (1 ≤ n ∧ n ≤ 500) ∧ ¬ ((μ 5 0 c = 0 ∧ μ 21 0 5 < 60) ∧ n ≤ canF (al μ) c s)) → ov = some (vI 3) ∧ μ' = μ)) → ER ov μ') : Run fam0 none cd_L_locate ER ET 0 0 [some (vR 0 0), some (vI c), some (vI s), some (vI n), some (vR 62 0), none] [] μ := by
  refine run_k 7 ?_
  show ∃ σ : Mm, cl_X4_locate.2.2.1 σ [vR 0 0, vI c, vI s, vI n] μ ∧ (∀ ov μ', cl_X4_locate.2.2.2.1 σ [vR 0 0, vI c, vI s, vI n] μ ov μ' → Run fam0 none cd_L_locate ER ET 10 5 [some (vR 0 0), some (vI c), some (vI s), some (vI n), some (vR 62 0), none] (ov.toList ++ [vI 0, vR 62 0]) μ') ∧ ∀ kx, cl_X4_locate.2.2.2.2 σ [vR 0 0, vI c, vI s, vI n] μ kx → thr cd_L_locate ET (Run fam0 none cd_L_locate ER ET) 7 5 [some (vR 0 0), some (vI c), some (vI s), some (vI n), some (vR 62 0), none] μ kx
  refine ⟨μ, ⟨rfl, (by first | assumption | exact ⟨by assumption, by assumption⟩)⟩, fun ov μ' hq => ?_, fun kx hk => ?_⟩
  · obtain ⟨hok, hov, hal, hPB⟩ : (((0 ≤ c ∧ c ≤ 5) ∧ (0 ≤ s ∧ s ≤ 3)) ∧ (1 ≤ n ∧ n ≤ 500) ∧ ((μ 5 0 c = 0 ∧ μ 21 0 5 < 60) ∧ n ≤ canF (al μ) c s)) ∧ ov = some (vI (μ 21 0 5)) ∧ al μ' = st (st (st (st (st (al μ) 53 0 (μ 21 0 5) c) 54 0 (μ 21 0 5) s) 55 0 (μ 21 0 5) n) 56 0 (μ 21 0 5) (μ 0 0 14)) 38 0 17 (μ 21 0 5 + 1) ∧ PB μ μ' := hq
    rw [hov]
    clear hov
    rename Mm => M1
    have hp2 := PB_2 hPB
    show Run fam0 none cd_L_locate ER ET 10 5 [some (vR 0 0), some (vI c), some (vI s), some (vI n), some (vR 62 0), none] [vI (μ 21 0 5), vI 0, vR 62 0] M1
    refine run_k 5 ?_
    show (0 ≤ 0 ∧ 0 < 1) ∧ (ER (some (vI 0)) (st M1 62 0 0 (μ 21 0 5)))
    refine ⟨by omega, ?_⟩
    refine hER _ _ ⟨fun h => ⟨rfl, by rw [st_s], (hp2 _).1.trans hal, (hp2 _).2⟩, fun h => absurd h (by omega), fun h => absurd h (by omega), fun h => absurd h (by omega)⟩
  · have hk : (kx = 1 ∧ ¬ ((0 ≤ c ∧ c ≤ 5) ∧ (0 ≤ s ∧ s ≤ 3))) ∨ (kx = 2 ∧ ((0 ≤ c ∧ c ≤ 5) ∧ (0 ≤ s ∧ s ≤ 3)) ∧ ¬ (1 ≤ n ∧ n ≤ 500)) ∨ (kx = 3 ∧ ((0 ≤ c ∧ c ≤ 5) ∧ (0 ≤ s ∧ s ≤ 3)) ∧ (1 ≤ n ∧ n ≤ 500) ∧ ¬ ((μ 5 0 c = 0 ∧ μ 21 0 5 < 60) ∧ n ≤ canF (al μ) c s)) := hk
    rcases hk with ⟨rfl, hc⟩ | ⟨rfl, hc⟩ | ⟨rfl, hc⟩
    · show ∀ xq : Nat, Run fam0 none cd_L_locate ER ET 15 5 [some (vR 0 0), some (vI c), some (vI s), some (vI n), some (vR 62 0), none] [vX xq] μ
      intro xq
      refine run_k 3 ?_
      show ER (some (vI 1)) μ
      refine hER _ _ ⟨fun h => absurd h (by omega), fun h => ⟨rfl, rfl⟩, fun h => absurd h (by omega), fun h => absurd h (by omega)⟩
    · show ∀ xq : Nat, Run fam0 none cd_L_locate ER ET 19 5 [some (vR 0 0), some (vI c), some (vI s), some (vI n), some (vR 62 0), none] [vX xq] μ
      intro xq
      refine run_k 3 ?_
      show ER (some (vI 2)) μ
      refine hER _ _ ⟨fun h => absurd h (by omega), fun h => absurd h (by omega), fun h => ⟨rfl, rfl⟩, fun h => absurd h (by omega)⟩
    · show ∀ xq : Nat, Run fam0 none cd_L_locate ER ET 23 5 [some (vR 0 0), some (vI c), some (vI s), some (vI n), some (vR 62 0), none] [vX xq] μ
      intro xq
      refine run_k 3 ?_
      show ER (some (vI 3)) μ
      refine hER _ _ ⟨fun h => absurd h (by omega), fun h => absurd h (by omega), fun h => absurd h (by omega), fun h => ⟨rfl, rfl⟩⟩
theorem vw_L_48 : ∀ w ∈ ([.methodLink RL 48 yX4_locate, .instanceMethod yX4_locate, .selects RX4 yX4_locate yX4_locate, .initialized RX4, .code yX4_locate cX4_locate 4 (some .int)] : List Cond), w ∈ wm := wm_ps _ [527, 528, 529, 50, 530] (by decide +kernel)
set_option maxRecDepth 20000 in
theorem con_L_locate (l : Launch) (htr : l.stackTraces = false) (σ : Mm) : CON fam0 63 l yL_locate (Cond.codeWith yL_locate cL_locate 6 (some .int) [(0, 12, 15, 13), (0, 12, 19, 15), (0, 12, 23, 24)] :: wm) 8 127 5 (cl_L_locate.2.2.1 σ) (cl_L_locate.2.2.2.1 σ) (cl_L_locate.2.2.2.2 σ) :=
  con_ofH (cd := cd_L_locate) (own := RL) (rk := 1) (maxL := 6) (hh := [(0, 12, 15, 13), (0, 12, 19, 15), (0, 12, 23, 24)]) (sc_of htr (by decide) k_L_locate_ok (by decide +kernel) all_nil all_nil (all_cons ⟨RX4, yX4_locate, cX4_locate, 4, (some .int), 7, 104, 3, con_X4_locate l htr, rfl, vw_L_48, ⟨rfl, by decide, by decide, by decide +kernel⟩, ⟨by decide, by decide⟩, fun σ as μ h => ⟨0, 0, _, h.1, rfl, TX4, 17, rfl⟩⟩ all_nil) all_nil all_nil) rfl (by decide +kernel) rfl rfl rfl ⟨⟨rfl, rfl, rfl, by decide, by decide, wcl_13⟩, ⟨⟨rfl, rfl, rfl, by decide, by decide, wcl_15⟩, ⟨⟨rfl, rfl, rfl, by decide, by decide, wcl_24⟩, True.intro⟩⟩⟩ (fun _ => rfl) (fun as μ hs => by rw [hs.1]; exact Nat.le_of_ble_eq_true rfl)
    (fun as μ hs hM hrg => by
      have hs1 := hs.1
      have hmem : ∀ v, v ∈ ([vR 0 0, vI (iaI as 1), vI (iaI as 2), vI (iaI as 3), vR 62 0] : List AV) → rg fam0 v := by rw [← hs1]; exact hrg
      have key := run_L_locate (ER := cl_L_locate.2.2.2.1 σ as μ) (ET := fun k μ' => cl_L_locate.2.2.2.2 σ as μ k ∧ μ' = μ) σ μ (iaI as 1) (iaI as 2) (iaI as 3) hM (hmem (vI (iaI as 1)) (by simp)) (hmem (vI (iaI as 2)) (by simp)) (hmem (vI (iaI as 3)) (by simp)) hs.2 (fun ov μ' h => h)
      have e : entL as 6 = [some (vR 0 0), some (vI (iaI as 1)), some (vI (iaI as 2)), some (vI (iaI as 3)), some (vR 62 0), none] := by rw [hs1]; rfl
      rw [e]; exact key)
/-! ### the law's sellShort -/
def cl_L_sellShort : Cl := (4, 5, fun σ as μ => as = [vR 0 0, vI (iaI as 1), vI (iaI as 2), vR 62 0] ∧ (CV μ), fun σ as μ ov μ' => (((0 ≤ (iaI as 1) ∧ (iaI as 1) < μ 21 0 5) ∧ (1 ≤ (iaI as 2) ∧ (iaI as 2) ≤ μ 24 0 (iaI as 1)) ∧ ((holdsF (al μ) (iaI as 1) ≠ 0 ∧ μ 5 0 (μ 22 0 (iaI as 1)) = 0) ∧ (μ 7 (μ 22 0 (iaI as 1)) (μ 23 0 (iaI as 1)) ≤ 0 ∧ -500 ≤ μ 7 (μ 22 0 (iaI as 1)) (μ 23 0 (iaI as 1)) - (iaI as 2)) ∧ (iaI as 2) ≤ canF (al μ) (μ 22 0 (iaI as 1)) (μ 23 0 (iaI as 1)))) → ov = some (vI 0) ∧ μ' 62 0 0 = (shortF (al μ) (iaI as 1) (iaI as 2) 41 0 (μ 22 0 (iaI as 1))) ∧ al μ' = shortF (al μ) (iaI as 1) (iaI as 2) ∧ PB2 μ μ') ∧ ((¬ (0 ≤ (iaI as 1) ∧ (iaI as 1) < μ 21 0 5)) → ov = some (vI 1) ∧ μ' = μ) ∧ (((0 ≤ (iaI as 1) ∧ (iaI as 1) < μ 21 0 5) ∧ ¬ (1 ≤ (iaI as 2) ∧ (iaI as 2) ≤ μ 24 0 (iaI as 1))) → ov = some (vI 2) ∧ μ' = μ) ∧ (((0 ≤ (iaI as 1) ∧ (iaI as 1) < μ 21 0 5) ∧ (1 ≤ (iaI as 2) ∧ (iaI as 2) ≤ μ 24 0 (iaI as 1)) ∧ ¬ ((holdsF (al μ) (iaI as 1) ≠ 0 ∧ μ 5 0 (μ 22 0 (iaI as 1)) = 0) ∧ (μ 7 (μ 22 0 (iaI as 1)) (μ 23 0 (iaI as 1)) ≤ 0 ∧ -500 ≤ μ 7 (μ 22 0 (iaI as 1)) (μ 23 0 (iaI as 1)) - (iaI as 2)) ∧ (iaI as 2) ≤ canF (al μ) (μ 22 0 (iaI as 1)) (μ 23 0 (iaI as 1)))) → ov = some (vI 3) ∧ μ' = μ), fun σ as μ k => False)
def cd_L_sellShort : Cd := mkcd k_L_sellShort [] [] [(52, cl_X4_sellShort)] [] [(0, 9, 12, 1), (0, 9, 16, 2), (0, 9, 20, 3)] [] 5 1 5
set_option maxHeartbeats 4000000 in
set_option maxRecDepth 20000 in
theorem run_L_sellShort {ER : Option AV → Mm → Prop} {ET : Nat → Mm → Prop} (σ μ : Mm) (q n : Int) (hM : MR fam0 μ) (h_q : in32 q) (h_n : in32 n) (hP : CV μ) (hER : ∀ ov μ', ((((0 ≤ q ∧ q < μ 21 0 5) ∧ (1 ≤ n ∧ n ≤ μ 24 0 q) ∧ ((holdsF (al μ) q ≠ 0 ∧ μ 5 0 (μ 22 0 q) = 0) ∧ (μ 7 (μ 22 0 q) (μ 23 0 q) ≤ 0 ∧ -500 ≤ μ 7 (μ 22 0 q) (μ 23 0 q) - n) ∧ n ≤ canF (al μ) (μ 22 0 q) (μ 23 0 q))) → ov = some (vI 0) ∧ μ' 62 0 0 = (shortF (al μ) q n 41 0 (μ 22 0 q)) ∧ al μ' = shortF (al μ) q n ∧ PB2 μ μ') ∧ ((¬ (0 ≤ q ∧ q < μ 21 0 5)) → ov = some (vI 1) ∧ μ' = μ) ∧ (((0 ≤ q ∧ q < μ 21 0 5) ∧ ¬ (1 ≤ n ∧ n ≤ μ 24 0 q)) → ov = some (vI 2) ∧ μ' = μ) ∧ (((0 ≤ q ∧ q < μ 21 0 5) ∧ (1 ≤ n ∧ n ≤ μ 24 0 q) ∧ ¬ ((holdsF (al μ) q ≠ 0 ∧ μ 5 0 (μ 22 0 q) = 0) ∧ (μ 7 (μ 22 0 q) (μ 23 0 q) ≤ 0 ∧ -500 ≤ μ 7 (μ 22 0 q) (μ 23 0 q) - n) ∧ n ≤ canF (al μ) (μ 22 0 q) (μ 23 0 q))) → ov = some (vI 3) ∧ μ' = μ)) → ER ov μ') : Run fam0 none cd_L_sellShort ER ET 0 0 [some (vR 0 0), some (vI q), some (vI n), some (vR 62 0), none] [] μ := by
  refine run_k 6 ?_
  show ∃ σ : Mm, cl_X4_sellShort.2.2.1 σ [vR 0 0, vI q, vI n] μ ∧ (∀ ov μ', cl_X4_sellShort.2.2.2.1 σ [vR 0 0, vI q, vI n] μ ov μ' → Run fam0 none cd_L_sellShort ER ET 8 5 [some (vR 0 0), some (vI q), some (vI n), some (vR 62 0), none] (ov.toList ++ [vI 0, vR 62 0]) μ') ∧ ∀ kx, cl_X4_sellShort.2.2.2.2 σ [vR 0 0, vI q, vI n] μ kx → thr cd_L_sellShort ET (Run fam0 none cd_L_sellShort ER ET) 5 5 [some (vR 0 0), some (vI q), some (vI n), some (vR 62 0), none] μ kx
  refine ⟨μ, ⟨rfl, (by first | assumption | exact ⟨by assumption, by assumption⟩)⟩, fun ov μ' hq => ?_, fun kx hk => ?_⟩
  · obtain ⟨hok, hov, hal, hPB⟩ : ((0 ≤ q ∧ q < μ 21 0 5) ∧ (1 ≤ n ∧ n ≤ μ 24 0 q) ∧ ((holdsF (al μ) q ≠ 0 ∧ μ 5 0 (μ 22 0 q) = 0) ∧ (μ 7 (μ 22 0 q) (μ 23 0 q) ≤ 0 ∧ -500 ≤ μ 7 (μ 22 0 q) (μ 23 0 q) - n) ∧ n ≤ canF (al μ) (μ 22 0 q) (μ 23 0 q))) ∧ ov = some (vL (shortF (al μ) q n 41 0 (μ 22 0 q))) ∧ al μ' = shortF (al μ) q n ∧ PB μ μ' := hq
    rw [hov]
    clear hov
    rename Mm => M1
    have hp2 := PB_2 hPB
    show Run fam0 none cd_L_sellShort ER ET 8 5 [some (vR 0 0), some (vI q), some (vI n), some (vR 62 0), none] [vL (shortF (al μ) q n 41 0 (μ 22 0 q)), vI 0, vR 62 0] M1
    refine run_k 4 ?_
    show (0 ≤ 0 ∧ 0 < 1) ∧ (ER (some (vI 0)) (st M1 62 0 0 (shortF (al μ) q n 41 0 (μ 22 0 q))))
    refine ⟨by omega, ?_⟩
    refine hER _ _ ⟨fun h => ⟨rfl, by rw [st_s], (hp2 _).1.trans hal, (hp2 _).2⟩, fun h => absurd h (by omega), fun h => absurd h (by omega), fun h => absurd h (by omega)⟩
  · have hk : (kx = 1 ∧ ¬ (0 ≤ q ∧ q < μ 21 0 5)) ∨ (kx = 2 ∧ (0 ≤ q ∧ q < μ 21 0 5) ∧ ¬ (1 ≤ n ∧ n ≤ μ 24 0 q)) ∨ (kx = 3 ∧ (0 ≤ q ∧ q < μ 21 0 5) ∧ (1 ≤ n ∧ n ≤ μ 24 0 q) ∧ ¬ ((holdsF (al μ) q ≠ 0 ∧ μ 5 0 (μ 22 0 q) = 0) ∧ (μ 7 (μ 22 0 q) (μ 23 0 q) ≤ 0 ∧ -500 ≤ μ 7 (μ 22 0 q) (μ 23 0 q) - n) ∧ n ≤ canF (al μ) (μ 22 0 q) (μ 23 0 q))) := hk
    rcases hk with ⟨rfl, hc⟩ | ⟨rfl, hc⟩ | ⟨rfl, hc⟩
    · show ∀ xq : Nat, Run fam0 none cd_L_sellShort ER ET 12 5 [some (vR 0 0), some (vI q), some (vI n), some (vR 62 0), none] [vX xq] μ
      intro xq
      refine run_k 3 ?_
      show ER (some (vI 1)) μ
      refine hER _ _ ⟨fun h => absurd h (by omega), fun h => ⟨rfl, rfl⟩, fun h => absurd h (by omega), fun h => absurd h (by omega)⟩
    · show ∀ xq : Nat, Run fam0 none cd_L_sellShort ER ET 16 5 [some (vR 0 0), some (vI q), some (vI n), some (vR 62 0), none] [vX xq] μ
      intro xq
      refine run_k 3 ?_
      show ER (some (vI 2)) μ
      refine hER _ _ ⟨fun h => absurd h (by omega), fun h => absurd h (by omega), fun h => ⟨rfl, rfl⟩, fun h => absurd h (by omega)⟩
    · show ∀ xq : Nat, Run fam0 none cd_L_sellShort ER ET 20 5 [some (vR 0 0), some (vI q), some (vI n), some (vR 62 0), none] [vX xq] μ
      intro xq
      refine run_k 3 ?_
      show ER (some (vI 3)) μ
      refine hER _ _ ⟨fun h => absurd h (by omega), fun h => absurd h (by omega), fun h => absurd h (by omega), fun h => ⟨rfl, rfl⟩⟩
theorem vw_L_52 : ∀ w ∈ ([.methodLink RL 52 yX4_sellShort, .instanceMethod yX4_sellShort, .selects RX4 yX4_sellShort yX4_sellShort, .initialized RX4, .code yX4_sellShort cX4_sellShort 5 (some .long)] : List Cond), w ∈ wm := wm_ps _ [542, 543, 544, 50, 545] (by decide +kernel)
set_option maxRecDepth 20000 in
theorem con_L_sellShort (l : Launch) (htr : l.stackTraces = false) (σ : Mm) : CON fam0 63 l yL_sellShort (Cond.codeWith yL_sellShort cL_sellShort 5 (some .int) [(0, 9, 12, 13), (0, 9, 16, 15), (0, 9, 20, 24)] :: wm) 8 128 5 (cl_L_sellShort.2.2.1 σ) (cl_L_sellShort.2.2.2.1 σ) (cl_L_sellShort.2.2.2.2 σ) :=
  con_ofH (cd := cd_L_sellShort) (own := RL) (rk := 1) (maxL := 5) (hh := [(0, 9, 12, 13), (0, 9, 16, 15), (0, 9, 20, 24)]) (sc_of htr (by decide) k_L_sellShort_ok (by decide +kernel) all_nil all_nil (all_cons ⟨RX4, yX4_sellShort, cX4_sellShort, 5, (some .long), 7, 104, 2, con_X4_sellShort l htr, rfl, vw_L_52, ⟨rfl, by decide, by decide, by decide +kernel⟩, ⟨by decide, by decide⟩, fun σ as μ h => ⟨0, 0, _, h.1, rfl, TX4, 17, rfl⟩⟩ all_nil) all_nil all_nil) rfl (by decide +kernel) rfl rfl rfl ⟨⟨rfl, rfl, rfl, by decide, by decide, wcl_13⟩, ⟨⟨rfl, rfl, rfl, by decide, by decide, wcl_15⟩, ⟨⟨rfl, rfl, rfl, by decide, by decide, wcl_24⟩, True.intro⟩⟩⟩ (fun _ => rfl) (fun as μ hs => by rw [hs.1]; exact Nat.le_of_ble_eq_true rfl)
    (fun as μ hs hM hrg => by
      have hs1 := hs.1
      have hmem : ∀ v, v ∈ ([vR 0 0, vI (iaI as 1), vI (iaI as 2), vR 62 0] : List AV) → rg fam0 v := by rw [← hs1]; exact hrg
      have key := run_L_sellShort (ER := cl_L_sellShort.2.2.2.1 σ as μ) (ET := fun k μ' => cl_L_sellShort.2.2.2.2 σ as μ k ∧ μ' = μ) σ μ (iaI as 1) (iaI as 2) hM (hmem (vI (iaI as 1)) (by simp)) (hmem (vI (iaI as 2)) (by simp)) hs.2 (fun ov μ' h => h)
      have e : entL as 5 = [some (vR 0 0), some (vI (iaI as 1)), some (vI (iaI as 2)), some (vR 62 0), none] := by rw [hs1]; rfl
      rw [e]; exact key)
/-! ### the law's recall -/
def cl_L_recall : Cl := (6, 5, fun σ as μ => as = [vR 0 0, vI (iaI as 1), vI (iaI as 2), vI (iaI as 3), vI (iaI as 4), vR 62 0] ∧ (CV μ), fun σ as μ ov μ' => ((((0 ≤ (iaI as 1) ∧ (iaI as 1) ≤ 3) ∧ (0 ≤ (iaI as 2) ∧ (iaI as 2) ≤ 3)) ∧ ((1 ≤ (iaI as 3) ∧ (iaI as 3) ≤ 500) ∧ (1 ≤ (iaI as 4) ∧ (iaI as 4) ≤ 10)) ∧ (μ 27 0 5 < 40)) → ov = some (vI 0) ∧ μ' 62 0 0 = (μ 27 0 5) ∧ al μ' = st (st (st (st (st (al μ) 58 0 (μ 27 0 5) (iaI as 1)) 59 0 (μ 27 0 5) (iaI as 2)) 60 0 (μ 27 0 5) (iaI as 3)) 61 0 (μ 27 0 5) (μ 0 0 14 + (iaI as 4))) 38 0 23 (μ 27 0 5 + 1) ∧ PB2 μ μ') ∧ ((¬ ((0 ≤ (iaI as 1) ∧ (iaI as 1) ≤ 3) ∧ (0 ≤ (iaI as 2) ∧ (iaI as 2) ≤ 3))) → ov = some (vI 1) ∧ μ' = μ) ∧ ((((0 ≤ (iaI as 1) ∧ (iaI as 1) ≤ 3) ∧ (0 ≤ (iaI as 2) ∧ (iaI as 2) ≤ 3)) ∧ ¬ ((1 ≤ (iaI as 3) ∧ (iaI as 3) ≤ 500) ∧ (1 ≤ (iaI as 4) ∧ (iaI as 4) ≤ 10))) → ov = some (vI 2) ∧ μ' = μ) ∧ ((((0 ≤ (iaI as 1) ∧ (iaI as 1) ≤ 3) ∧ (0 ≤ (iaI as 2) ∧ (iaI as 2) ≤ 3)) ∧ ((1 ≤ (iaI as 3) ∧ (iaI as 3) ≤ 500) ∧ (1 ≤ (iaI as 4) ∧ (iaI as 4) ≤ 10)) ∧ ¬ (μ 27 0 5 < 40)) → ov = some (vI 3) ∧ μ' = μ), fun σ as μ k => False)
def cd_L_recall : Cd := mkcd k_L_recall [] [] [(55, cl_X4_recall)] [] [(0, 14, 17, 1), (0, 14, 21, 2), (0, 14, 25, 3)] [] 7 1 5
set_option maxHeartbeats 4000000 in
set_option maxRecDepth 20000 in
theorem run_L_recall {ER : Option AV → Mm → Prop} {ET : Nat → Mm → Prop} (σ μ : Mm) (l s n f : Int) (hM : MR fam0 μ) (h_l : in32 l) (h_s : in32 s) (h_n : in32 n) (h_f : in32 f) (hP : CV μ) (hER : ∀ ov μ', (((((0 ≤ l ∧ l ≤ 3) ∧ (0 ≤ s ∧ s ≤ 3)) ∧ ((1 ≤ n ∧ n ≤ 500) ∧ (1 ≤ f ∧ f ≤ 10)) ∧ (μ 27 0 5 < 40)) → ov = some (vI 0) ∧ μ' 62 0 0 = (μ 27 0 5) ∧ al μ' = st (st (st (st (st (al μ) 58 0 (μ 27 0 5) l) 59 0 (μ 27 0 5) s) 60 0 (μ 27 0 5) n) 61 0 (μ 27 0 5) (μ 0 0 14 + f)) 38 0 23 (μ 27 0 5 + 1) ∧ PB2 μ μ') ∧ ((¬ ((0 ≤ l ∧ l ≤ 3) ∧ (0 ≤ s ∧ s ≤ 3))) → ov = some (vI 1) ∧ μ' = μ) ∧ ((((0 ≤ l ∧ l ≤ 3) ∧ (0 ≤ s ∧ s ≤ 3)) ∧ ¬ ((1 ≤ n ∧ n ≤ 500) ∧ (1 ≤ f ∧ f ≤ 10))) → ov = some (vI 2) ∧ μ' = μ) ∧ ((((0 ≤ l ∧ l ≤ 3) ∧ (0 ≤ s ∧ s ≤ 3)) ∧ ((1 ≤ n ∧ n ≤ 500) ∧ (1 ≤ f ∧ f ≤ 10)) ∧ ¬ (μ 27 0 5 < 40)) → ov = some (vI 3) ∧ μ' = μ)) → ER ov μ') : Run fam0 none cd_L_recall ER ET 0 0 [some (vR 0 0), some (vI l), some (vI s), some (vI n), some (vI f), some (vR 62 0), none] [] μ := by
  refine run_k 8 ?_
  show ∃ σ : Mm, cl_X4_recall.2.2.1 σ [vR 0 0, vI l, vI s, vI n, vI f] μ ∧ (∀ ov μ', cl_X4_recall.2.2.2.1 σ [vR 0 0, vI l, vI s, vI n, vI f] μ ov μ' → Run fam0 none cd_L_recall ER ET 12 5 [some (vR 0 0), some (vI l), some (vI s), some (vI n), some (vI f), some (vR 62 0), none] (ov.toList ++ [vI 0, vR 62 0]) μ') ∧ ∀ kx, cl_X4_recall.2.2.2.2 σ [vR 0 0, vI l, vI s, vI n, vI f] μ kx → thr cd_L_recall ET (Run fam0 none cd_L_recall ER ET) 9 5 [some (vR 0 0), some (vI l), some (vI s), some (vI n), some (vI f), some (vR 62 0), none] μ kx
  refine ⟨μ, ⟨rfl, (by first | assumption | exact ⟨by assumption, by assumption⟩)⟩, fun ov μ' hq => ?_, fun kx hk => ?_⟩
  · obtain ⟨hok, hov, hal, hPB⟩ : (((0 ≤ l ∧ l ≤ 3) ∧ (0 ≤ s ∧ s ≤ 3)) ∧ ((1 ≤ n ∧ n ≤ 500) ∧ (1 ≤ f ∧ f ≤ 10)) ∧ (μ 27 0 5 < 40)) ∧ ov = some (vI (μ 27 0 5)) ∧ al μ' = st (st (st (st (st (al μ) 58 0 (μ 27 0 5) l) 59 0 (μ 27 0 5) s) 60 0 (μ 27 0 5) n) 61 0 (μ 27 0 5) (μ 0 0 14 + f)) 38 0 23 (μ 27 0 5 + 1) ∧ PB μ μ' := hq
    rw [hov]
    clear hov
    rename Mm => M1
    have hp2 := PB_2 hPB
    show Run fam0 none cd_L_recall ER ET 12 5 [some (vR 0 0), some (vI l), some (vI s), some (vI n), some (vI f), some (vR 62 0), none] [vI (μ 27 0 5), vI 0, vR 62 0] M1
    refine run_k 5 ?_
    show (0 ≤ 0 ∧ 0 < 1) ∧ (ER (some (vI 0)) (st M1 62 0 0 (μ 27 0 5)))
    refine ⟨by omega, ?_⟩
    refine hER _ _ ⟨fun h => ⟨rfl, by rw [st_s], (hp2 _).1.trans hal, (hp2 _).2⟩, fun h => absurd h (by omega), fun h => absurd h (by omega), fun h => absurd h (by omega)⟩
  · have hk : (kx = 1 ∧ ¬ ((0 ≤ l ∧ l ≤ 3) ∧ (0 ≤ s ∧ s ≤ 3))) ∨ (kx = 2 ∧ ((0 ≤ l ∧ l ≤ 3) ∧ (0 ≤ s ∧ s ≤ 3)) ∧ ¬ ((1 ≤ n ∧ n ≤ 500) ∧ (1 ≤ f ∧ f ≤ 10))) ∨ (kx = 3 ∧ ((0 ≤ l ∧ l ≤ 3) ∧ (0 ≤ s ∧ s ≤ 3)) ∧ ((1 ≤ n ∧ n ≤ 500) ∧ (1 ≤ f ∧ f ≤ 10)) ∧ ¬ (μ 27 0 5 < 40)) := hk
    rcases hk with ⟨rfl, hc⟩ | ⟨rfl, hc⟩ | ⟨rfl, hc⟩
    · show ∀ xq : Nat, Run fam0 none cd_L_recall ER ET 17 5 [some (vR 0 0), some (vI l), some (vI s), some (vI n), some (vI f), some (vR 62 0), none] [vX xq] μ
      intro xq
      refine run_k 3 ?_
      show ER (some (vI 1)) μ
      refine hER _ _ ⟨fun h => absurd h (by omega), fun h => ⟨rfl, rfl⟩, fun h => absurd h (by omega), fun h => absurd h (by omega)⟩
    · show ∀ xq : Nat, Run fam0 none cd_L_recall ER ET 21 5 [some (vR 0 0), some (vI l), some (vI s), some (vI n), some (vI f), some (vR 62 0), none] [vX xq] μ
      intro xq
      refine run_k 3 ?_
      show ER (some (vI 2)) μ
      refine hER _ _ ⟨fun h => absurd h (by omega), fun h => absurd h (by omega), fun h => ⟨rfl, rfl⟩, fun h => absurd h (by omega)⟩
    · show ∀ xq : Nat, Run fam0 none cd_L_recall ER ET 25 5 [some (vR 0 0), some (vI l), some (vI s), some (vI n), some (vI f), some (vR 62 0), none] [vX xq] μ
      intro xq
      refine run_k 3 ?_
      show ER (some (vI 3)) μ
      refine hER _ _ ⟨fun h => absurd h (by omega), fun h => absurd h (by omega), fun h => absurd h (by omega), fun h => ⟨rfl, rfl⟩⟩
theorem vw_L_55 : ∀ w ∈ ([.methodLink RL 55 yX4_recall, .instanceMethod yX4_recall, .selects RX4 yX4_recall yX4_recall, .initialized RX4, .code yX4_recall cX4_recall 5 (some .int)] : List Cond), w ∈ wm := wm_ps _ [558, 559, 560, 50, 561] (by decide +kernel)
set_option maxRecDepth 20000 in
theorem con_L_recall (l : Launch) (htr : l.stackTraces = false) (σ : Mm) : CON fam0 63 l yL_recall (Cond.codeWith yL_recall cL_recall 7 (some .int) [(0, 14, 17, 13), (0, 14, 21, 15), (0, 14, 25, 24)] :: wm) 8 128 5 (cl_L_recall.2.2.1 σ) (cl_L_recall.2.2.2.1 σ) (cl_L_recall.2.2.2.2 σ) :=
  con_ofH (cd := cd_L_recall) (own := RL) (rk := 1) (maxL := 7) (hh := [(0, 14, 17, 13), (0, 14, 21, 15), (0, 14, 25, 24)]) (sc_of htr (by decide) k_L_recall_ok (by decide +kernel) all_nil all_nil (all_cons ⟨RX4, yX4_recall, cX4_recall, 5, (some .int), 7, 104, 4, con_X4_recall l htr, rfl, vw_L_55, ⟨rfl, by decide, by decide, by decide +kernel⟩, ⟨by decide, by decide⟩, fun σ as μ h => ⟨0, 0, _, h.1, rfl, TX4, 17, rfl⟩⟩ all_nil) all_nil all_nil) rfl (by decide +kernel) rfl rfl rfl ⟨⟨rfl, rfl, rfl, by decide, by decide, wcl_13⟩, ⟨⟨rfl, rfl, rfl, by decide, by decide, wcl_15⟩, ⟨⟨rfl, rfl, rfl, by decide, by decide, wcl_24⟩, True.intro⟩⟩⟩ (fun _ => rfl) (fun as μ hs => by rw [hs.1]; exact Nat.le_of_ble_eq_true rfl)
    (fun as μ hs hM hrg => by
      have hs1 := hs.1
      have hmem : ∀ v, v ∈ ([vR 0 0, vI (iaI as 1), vI (iaI as 2), vI (iaI as 3), vI (iaI as 4), vR 62 0] : List AV) → rg fam0 v := by rw [← hs1]; exact hrg
      have key := run_L_recall (ER := cl_L_recall.2.2.2.1 σ as μ) (ET := fun k μ' => cl_L_recall.2.2.2.2 σ as μ k ∧ μ' = μ) σ μ (iaI as 1) (iaI as 2) (iaI as 3) (iaI as 4) hM (hmem (vI (iaI as 1)) (by simp)) (hmem (vI (iaI as 2)) (by simp)) (hmem (vI (iaI as 3)) (by simp)) (hmem (vI (iaI as 4)) (by simp)) hs.2 (fun ov μ' h => h)
      have e : entL as 7 = [some (vR 0 0), some (vI (iaI as 1)), some (vI (iaI as 2)), some (vI (iaI as 3)), some (vI (iaI as 4)), some (vR 62 0), none] := by rw [hs1]; rfl
      rw [e]; exact key)
/-! ### the law's liquidate -/
def cl_L_liquidate : Cl := (3, 2, fun σ as μ => as = [vR 0 0, vI (iaI as 1), vR 62 0] ∧ (CV μ), fun σ as μ ov μ' => (((0 ≤ (iaI as 1) ∧ (iaI as 1) ≤ 5) ∧ (calledF (al μ) (iaI as 1) ≠ 0)) → ov = some (vI 0) ∧ μ' 62 0 0 = ((liqF (al μ) (iaI as 1)).2) ∧ al μ' = (liqF (al μ) (iaI as 1)).1 ∧ PB2 μ μ') ∧ ((¬ (0 ≤ (iaI as 1) ∧ (iaI as 1) ≤ 5)) → ov = some (vI 1) ∧ μ' = μ) ∧ (((0 ≤ (iaI as 1) ∧ (iaI as 1) ≤ 5) ∧ ¬ (calledF (al μ) (iaI as 1) ≠ 0)) → ov = some (vI 2) ∧ μ' = μ), fun σ as μ k => False)
def cd_L_liquidate : Cd := mkcd k_L_liquidate [] [] [(58, cl_X4_liquidate)] [] [(0, 9, 12, 1), (0, 9, 15, 3)] [] 4 1 2
set_option maxHeartbeats 4000000 in
set_option maxRecDepth 20000 in
theorem run_L_liquidate {ER : Option AV → Mm → Prop} {ET : Nat → Mm → Prop} (σ μ : Mm) (c : Int) (hM : MR fam0 μ) (h_c : in32 c) (hP : CV μ) (hER : ∀ ov μ', ((((0 ≤ c ∧ c ≤ 5) ∧ (calledF (al μ) c ≠ 0)) → ov = some (vI 0) ∧ μ' 62 0 0 = ((liqF (al μ) c).2) ∧ al μ' = (liqF (al μ) c).1 ∧ PB2 μ μ') ∧ ((¬ (0 ≤ c ∧ c ≤ 5)) → ov = some (vI 1) ∧ μ' = μ) ∧ (((0 ≤ c ∧ c ≤ 5) ∧ ¬ (calledF (al μ) c ≠ 0)) → ov = some (vI 2) ∧ μ' = μ)) → ER ov μ') : Run fam0 none cd_L_liquidate ER ET 0 0 [some (vR 0 0), some (vI c), some (vR 62 0), none] [] μ := by
  refine run_k 5 ?_
  show ∃ σ : Mm, cl_X4_liquidate.2.2.1 σ [vR 0 0, vI c] μ ∧ (∀ ov μ', cl_X4_liquidate.2.2.2.1 σ [vR 0 0, vI c] μ ov μ' → Run fam0 none cd_L_liquidate ER ET 7 2 [some (vR 0 0), some (vI c), some (vR 62 0), none] (ov.toList ++ [vI 0, vR 62 0]) μ') ∧ ∀ kx, cl_X4_liquidate.2.2.2.2 σ [vR 0 0, vI c] μ kx → thr cd_L_liquidate ET (Run fam0 none cd_L_liquidate ER ET) 4 2 [some (vR 0 0), some (vI c), some (vR 62 0), none] μ kx
  refine ⟨μ, ⟨rfl, (by first | assumption | exact ⟨by assumption, by assumption⟩)⟩, fun ov μ' hq => ?_, fun kx hk => ?_⟩
  · obtain ⟨hok, hov, hal, hPB⟩ : ((0 ≤ c ∧ c ≤ 5) ∧ (calledF (al μ) c ≠ 0)) ∧ ov = some (vI ((liqF (al μ) c).2)) ∧ al μ' = (liqF (al μ) c).1 ∧ PB μ μ' := hq
    rw [hov]
    clear hov
    rename Mm => M1
    have hp2 := PB_2 hPB
    show Run fam0 none cd_L_liquidate ER ET 7 2 [some (vR 0 0), some (vI c), some (vR 62 0), none] [vI ((liqF (al μ) c).2), vI 0, vR 62 0] M1
    refine run_k 5 ?_
    show (0 ≤ 0 ∧ 0 < 1) ∧ (ER (some (vI 0)) (st M1 62 0 0 ((liqF (al μ) c).2)))
    refine ⟨by omega, ?_⟩
    refine hER _ _ ⟨fun h => ⟨rfl, by rw [st_s], (hp2 _).1.trans hal, (hp2 _).2⟩, fun h => absurd h (by omega), fun h => absurd h (by omega)⟩
  · have hk : (kx = 1 ∧ ¬ (0 ≤ c ∧ c ≤ 5)) ∨ (kx = 3 ∧ (0 ≤ c ∧ c ≤ 5) ∧ ¬ (calledF (al μ) c ≠ 0)) := hk
    rcases hk with ⟨rfl, hc⟩ | ⟨rfl, hc⟩
    · show ∀ xq : Nat, Run fam0 none cd_L_liquidate ER ET 12 2 [some (vR 0 0), some (vI c), some (vR 62 0), none] [vX xq] μ
      intro xq
      refine run_k 3 ?_
      show ER (some (vI 1)) μ
      refine hER _ _ ⟨fun h => absurd h (by omega), fun h => ⟨rfl, rfl⟩, fun h => absurd h (by omega)⟩
    · show ∀ xq : Nat, Run fam0 none cd_L_liquidate ER ET 15 2 [some (vR 0 0), some (vI c), some (vR 62 0), none] [vX xq] μ
      intro xq
      refine run_k 3 ?_
      show ER (some (vI 2)) μ
      refine hER _ _ ⟨fun h => absurd h (by omega), fun h => absurd h (by omega), fun h => ⟨rfl, rfl⟩⟩
theorem vw_L_58 : ∀ w ∈ ([.methodLink RL 58 yX4_liquidate, .instanceMethod yX4_liquidate, .selects RX4 yX4_liquidate yX4_liquidate, .initialized RX4, .code yX4_liquidate cX4_liquidate 5 (some .int)] : List Cond), w ∈ wm := wm_ps _ [569, 570, 571, 50, 572] (by decide +kernel)
set_option maxRecDepth 20000 in
theorem con_L_liquidate (l : Launch) (htr : l.stackTraces = false) (σ : Mm) : CON fam0 63 l yL_liquidate (Cond.codeWith yL_liquidate cL_liquidate 4 (some .int) [(0, 9, 12, 13), (0, 9, 15, 24)] :: wm) 8 177 2 (cl_L_liquidate.2.2.1 σ) (cl_L_liquidate.2.2.2.1 σ) (cl_L_liquidate.2.2.2.2 σ) :=
  con_ofH (cd := cd_L_liquidate) (own := RL) (rk := 1) (maxL := 4) (hh := [(0, 9, 12, 13), (0, 9, 15, 24)]) (sc_of htr (by decide) k_L_liquidate_ok (by decide +kernel) all_nil all_nil (all_cons ⟨RX4, yX4_liquidate, cX4_liquidate, 5, (some .int), 7, 153, 1, con_X4_liquidate l htr, rfl, vw_L_58, ⟨rfl, by decide, by decide, by decide +kernel⟩, ⟨by decide, by decide⟩, fun σ as μ h => ⟨0, 0, _, h.1, rfl, TX4, 17, rfl⟩⟩ all_nil) all_nil all_nil) rfl (by decide +kernel) rfl rfl rfl ⟨⟨rfl, rfl, rfl, by decide, by decide, wcl_13⟩, ⟨⟨rfl, rfl, rfl, by decide, by decide, wcl_24⟩, True.intro⟩⟩ (fun _ => rfl) (fun as μ hs => by rw [hs.1]; exact Nat.le_of_ble_eq_true rfl)
    (fun as μ hs hM hrg => by
      have hs1 := hs.1
      have hmem : ∀ v, v ∈ ([vR 0 0, vI (iaI as 1), vR 62 0] : List AV) → rg fam0 v := by rw [← hs1]; exact hrg
      have key := run_L_liquidate (ER := cl_L_liquidate.2.2.2.1 σ as μ) (ET := fun k μ' => cl_L_liquidate.2.2.2.2 σ as μ k ∧ μ' = μ) σ μ (iaI as 1) hM (hmem (vI (iaI as 1)) (by simp)) hs.2 (fun ov μ' h => h)
      have e : entL as 4 = [some (vR 0 0), some (vI (iaI as 1)), some (vR 62 0), none] := by rw [hs1]; rfl
      rw [e]; exact key)
/-! ### the law's fail -/
def cl_L_fail : Cl := (3, 2, fun σ as μ => as = [vR 0 0, vI (iaI as 1), vR 62 0] ∧ (CV μ ∧ ((0 ≤ (iaI as 1) ∧ (iaI as 1) ≤ 5) → -9000000000000000000 ≤ failL (al μ) (iaI as 1) 4 41 0 (iaI as 1) ∧ failL (al μ) (iaI as 1) 4 41 0 (iaI as 1) ≤ 9000000000000000000)), fun σ as μ ov μ' => (((0 ≤ (iaI as 1) ∧ (iaI as 1) ≤ 5) ∧ (μ 5 0 (iaI as 1) = 0)) → ov = some (vI 0) ∧ μ' 62 0 0 = (lossF (failL (al μ) (iaI as 1) 4) (iaI as 1)) ∧ al μ' = failF (al μ) (iaI as 1) ∧ PB2 μ μ') ∧ ((¬ (0 ≤ (iaI as 1) ∧ (iaI as 1) ≤ 5)) → ov = some (vI 1) ∧ μ' = μ) ∧ (((0 ≤ (iaI as 1) ∧ (iaI as 1) ≤ 5) ∧ ¬ (μ 5 0 (iaI as 1) = 0)) → ov = some (vI 2) ∧ μ' = μ), fun σ as μ k => False)
def cd_L_fail : Cd := mkcd k_L_fail [] [] [(61, cl_X4_fail)] [] [(0, 8, 11, 1), (0, 8, 14, 3)] [] 4 1 2
set_option maxHeartbeats 4000000 in
set_option maxRecDepth 20000 in
theorem run_L_fail {ER : Option AV → Mm → Prop} {ET : Nat → Mm → Prop} (σ μ : Mm) (c : Int) (hM : MR fam0 μ) (h_c : in32 c) (hP : CV μ ∧ ((0 ≤ c ∧ c ≤ 5) → -9000000000000000000 ≤ failL (al μ) c 4 41 0 c ∧ failL (al μ) c 4 41 0 c ≤ 9000000000000000000)) (hER : ∀ ov μ', ((((0 ≤ c ∧ c ≤ 5) ∧ (μ 5 0 c = 0)) → ov = some (vI 0) ∧ μ' 62 0 0 = (lossF (failL (al μ) c 4) c) ∧ al μ' = failF (al μ) c ∧ PB2 μ μ') ∧ ((¬ (0 ≤ c ∧ c ≤ 5)) → ov = some (vI 1) ∧ μ' = μ) ∧ (((0 ≤ c ∧ c ≤ 5) ∧ ¬ (μ 5 0 c = 0)) → ov = some (vI 2) ∧ μ' = μ)) → ER ov μ') : Run fam0 none cd_L_fail ER ET 0 0 [some (vR 0 0), some (vI c), some (vR 62 0), none] [] μ := by
  refine run_k 5 ?_
  show ∃ σ : Mm, cl_X4_fail.2.2.1 σ [vR 0 0, vI c] μ ∧ (∀ ov μ', cl_X4_fail.2.2.2.1 σ [vR 0 0, vI c] μ ov μ' → Run fam0 none cd_L_fail ER ET 7 2 [some (vR 0 0), some (vI c), some (vR 62 0), none] (ov.toList ++ [vI 0, vR 62 0]) μ') ∧ ∀ kx, cl_X4_fail.2.2.2.2 σ [vR 0 0, vI c] μ kx → thr cd_L_fail ET (Run fam0 none cd_L_fail ER ET) 4 2 [some (vR 0 0), some (vI c), some (vR 62 0), none] μ kx
  refine ⟨μ, ⟨rfl, (by first | assumption | exact ⟨by assumption, by assumption⟩)⟩, fun ov μ' hq => ?_, fun kx hk => ?_⟩
  · obtain ⟨hok, hov, hal, hPB⟩ : ((0 ≤ c ∧ c ≤ 5) ∧ (μ 5 0 c = 0)) ∧ ov = some (vL (lossF (failL (al μ) c 4) c)) ∧ al μ' = failF (al μ) c ∧ PB μ μ' := hq
    rw [hov]
    clear hov
    rename Mm => M1
    have hp2 := PB_2 hPB
    show Run fam0 none cd_L_fail ER ET 7 2 [some (vR 0 0), some (vI c), some (vR 62 0), none] [vL (lossF (failL (al μ) c 4) c), vI 0, vR 62 0] M1
    refine run_k 4 ?_
    show (0 ≤ 0 ∧ 0 < 1) ∧ (ER (some (vI 0)) (st M1 62 0 0 (lossF (failL (al μ) c 4) c)))
    refine ⟨by omega, ?_⟩
    refine hER _ _ ⟨fun h => ⟨rfl, by rw [st_s], (hp2 _).1.trans hal, (hp2 _).2⟩, fun h => absurd h (by omega), fun h => absurd h (by omega)⟩
  · have hk : (kx = 1 ∧ ¬ (0 ≤ c ∧ c ≤ 5)) ∨ (kx = 3 ∧ (0 ≤ c ∧ c ≤ 5) ∧ ¬ (μ 5 0 c = 0)) := hk
    rcases hk with ⟨rfl, hc⟩ | ⟨rfl, hc⟩
    · show ∀ xq : Nat, Run fam0 none cd_L_fail ER ET 11 2 [some (vR 0 0), some (vI c), some (vR 62 0), none] [vX xq] μ
      intro xq
      refine run_k 3 ?_
      show ER (some (vI 1)) μ
      refine hER _ _ ⟨fun h => absurd h (by omega), fun h => ⟨rfl, rfl⟩, fun h => absurd h (by omega)⟩
    · show ∀ xq : Nat, Run fam0 none cd_L_fail ER ET 14 2 [some (vR 0 0), some (vI c), some (vR 62 0), none] [vX xq] μ
      intro xq
      refine run_k 3 ?_
      show ER (some (vI 2)) μ
      refine hER _ _ ⟨fun h => absurd h (by omega), fun h => absurd h (by omega), fun h => ⟨rfl, rfl⟩⟩
theorem vw_L_61 : ∀ w ∈ ([.methodLink RL 61 yX4_fail, .instanceMethod yX4_fail, .selects RX4 yX4_fail yX4_fail, .initialized RX4, .code yX4_fail cX4_fail 4 (some .long)] : List Cond), w ∈ wm := wm_ps _ [588, 589, 590, 50, 591] (by decide +kernel)
set_option maxRecDepth 20000 in
theorem con_L_fail (l : Launch) (htr : l.stackTraces = false) (σ : Mm) : CON fam0 63 l yL_fail (Cond.codeWith yL_fail cL_fail 4 (some .int) [(0, 8, 11, 13), (0, 8, 14, 24)] :: wm) 8 176 2 (cl_L_fail.2.2.1 σ) (cl_L_fail.2.2.2.1 σ) (cl_L_fail.2.2.2.2 σ) :=
  con_ofH (cd := cd_L_fail) (own := RL) (rk := 1) (maxL := 4) (hh := [(0, 8, 11, 13), (0, 8, 14, 24)]) (sc_of htr (by decide) k_L_fail_ok (by decide +kernel) all_nil all_nil (all_cons ⟨RX4, yX4_fail, cX4_fail, 4, (some .long), 7, 153, 1, con_X4_fail l htr, rfl, vw_L_61, ⟨rfl, by decide, by decide, by decide +kernel⟩, ⟨by decide, by decide⟩, fun σ as μ h => ⟨0, 0, _, h.1, rfl, TX4, 17, rfl⟩⟩ all_nil) all_nil all_nil) rfl (by decide +kernel) rfl rfl rfl ⟨⟨rfl, rfl, rfl, by decide, by decide, wcl_13⟩, ⟨⟨rfl, rfl, rfl, by decide, by decide, wcl_24⟩, True.intro⟩⟩ (fun _ => rfl) (fun as μ hs => by rw [hs.1]; exact Nat.le_of_ble_eq_true rfl)
    (fun as μ hs hM hrg => by
      have hs1 := hs.1
      have hmem : ∀ v, v ∈ ([vR 0 0, vI (iaI as 1), vR 62 0] : List AV) → rg fam0 v := by rw [← hs1]; exact hrg
      have key := run_L_fail (ER := cl_L_fail.2.2.2.1 σ as μ) (ET := fun k μ' => cl_L_fail.2.2.2.2 σ as μ k ∧ μ' = μ) σ μ (iaI as 1) hM (hmem (vI (iaI as 1)) (by simp)) hs.2 (fun ov μ' h => h)
      have e : entL as 4 = [some (vR 0 0), some (vI (iaI as 1)), some (vR 62 0), none] := by rw [hs1]; rfl
      rw [e]; exact key)
/-! ### the law's position -/
def cl_L_position : Cl := (4, 2, fun σ as μ => as = [vR 0 0, vI (iaI as 1), vI (iaI as 2), vR 62 0] ∧ (CV μ), fun σ as μ ov μ' => ((((0 ≤ (iaI as 1) ∧ (iaI as 1) ≤ 5) ∧ (0 ≤ (iaI as 2) ∧ (iaI as 2) ≤ 3))) → ov = some (vI 0) ∧ μ' 62 0 0 = (μ 7 (iaI as 1) (iaI as 2)) ∧ al μ' = al μ ∧ PB2 μ μ') ∧ ((¬ ((0 ≤ (iaI as 1) ∧ (iaI as 1) ≤ 5) ∧ (0 ≤ (iaI as 2) ∧ (iaI as 2) ≤ 3))) → ov = some (vI 1) ∧ μ' = μ), fun σ as μ k => False)
def cd_L_position : Cd := mkcd k_L_position [] [] [(65, cl_X4_position)] [] [(0, 10, 13, 1)] [] 5 1 2
set_option maxHeartbeats 4000000 in
set_option maxRecDepth 20000 in
theorem run_L_position {ER : Option AV → Mm → Prop} {ET : Nat → Mm → Prop} (σ μ : Mm) (c s : Int) (hM : MR fam0 μ) (h_c : in32 c) (h_s : in32 s) (hP : CV μ) (hER : ∀ ov μ', (((((0 ≤ c ∧ c ≤ 5) ∧ (0 ≤ s ∧ s ≤ 3))) → ov = some (vI 0) ∧ μ' 62 0 0 = (μ 7 c s) ∧ al μ' = al μ ∧ PB2 μ μ') ∧ ((¬ ((0 ≤ c ∧ c ≤ 5) ∧ (0 ≤ s ∧ s ≤ 3))) → ov = some (vI 1) ∧ μ' = μ)) → ER ov μ') : Run fam0 none cd_L_position ER ET 0 0 [some (vR 0 0), some (vI c), some (vI s), some (vR 62 0), none] [] μ := by
  refine run_k 6 ?_
  show ∃ σ : Mm, cl_X4_position.2.2.1 σ [vR 0 0, vI c, vI s] μ ∧ (∀ ov μ', cl_X4_position.2.2.2.1 σ [vR 0 0, vI c, vI s] μ ov μ' → Run fam0 none cd_L_position ER ET 8 2 [some (vR 0 0), some (vI c), some (vI s), some (vR 62 0), none] (ov.toList ++ [vI 0, vR 62 0]) μ') ∧ ∀ kx, cl_X4_position.2.2.2.2 σ [vR 0 0, vI c, vI s] μ kx → thr cd_L_position ET (Run fam0 none cd_L_position ER ET) 5 2 [some (vR 0 0), some (vI c), some (vI s), some (vR 62 0), none] μ kx
  refine ⟨μ, ⟨rfl, (by first | assumption | exact ⟨by assumption, by assumption⟩)⟩, fun ov μ' hq => ?_, fun kx hk => ?_⟩
  · obtain ⟨hok, hov, hmu, hPB⟩ : (((0 ≤ c ∧ c ≤ 5) ∧ (0 ≤ s ∧ s ≤ 3))) ∧ ov = some (vI (μ 7 c s)) ∧ μ' = μ ∧ PB μ μ' := hq
    rw [hov]
    clear hov
    rename Mm => M1
    have hp2 := PB_2 hPB
    have hal : al M1 = al μ := by rw [hmu]
    show Run fam0 none cd_L_position ER ET 8 2 [some (vR 0 0), some (vI c), some (vI s), some (vR 62 0), none] [vI (μ 7 c s), vI 0, vR 62 0] M1
    refine run_k 5 ?_
    show (0 ≤ 0 ∧ 0 < 1) ∧ (ER (some (vI 0)) (st M1 62 0 0 (μ 7 c s)))
    refine ⟨by omega, ?_⟩
    refine hER _ _ ⟨fun h => ⟨rfl, by rw [st_s], (hp2 _).1.trans hal, (hp2 _).2⟩, fun h => absurd h (by omega)⟩
  · have hk : (kx = 1 ∧ ¬ ((0 ≤ c ∧ c ≤ 5) ∧ (0 ≤ s ∧ s ≤ 3))) := hk
    rcases hk with ⟨rfl, hc⟩
    · show ∀ xq : Nat, Run fam0 none cd_L_position ER ET 13 2 [some (vR 0 0), some (vI c), some (vI s), some (vR 62 0), none] [vX xq] μ
      intro xq
      refine run_k 3 ?_
      show ER (some (vI 1)) μ
      refine hER _ _ ⟨fun h => absurd h (by omega), fun h => ⟨rfl, rfl⟩⟩
theorem vw_L_65 : ∀ w ∈ ([.methodLink RL 65 yX4_position, .instanceMethod yX4_position, .selects RX4 yX4_position yX4_position, .initialized RX4, .code yX4_position cX4_position 3 (some .int)] : List Cond), w ∈ wm := wm_ps _ [598, 599, 600, 50, 601] (by decide +kernel)
set_option maxRecDepth 20000 in
theorem con_L_position (l : Launch) (htr : l.stackTraces = false) (σ : Mm) : CON fam0 63 l yL_position (Cond.codeWith yL_position cL_position 5 (some .int) [(0, 10, 13, 13)] :: wm) 8 124 2 (cl_L_position.2.2.1 σ) (cl_L_position.2.2.2.1 σ) (cl_L_position.2.2.2.2 σ) :=
  con_ofH (cd := cd_L_position) (own := RL) (rk := 1) (maxL := 5) (hh := [(0, 10, 13, 13)]) (sc_of htr (by decide) k_L_position_ok (by decide +kernel) all_nil all_nil (all_cons ⟨RX4, yX4_position, cX4_position, 3, (some .int), 7, 102, 2, con_X4_position l htr, rfl, vw_L_65, ⟨rfl, by decide, by decide, by decide +kernel⟩, ⟨by decide, by decide⟩, fun σ as μ h => ⟨0, 0, _, h.1, rfl, TX4, 17, rfl⟩⟩ all_nil) all_nil all_nil) rfl (by decide +kernel) rfl rfl rfl ⟨⟨rfl, rfl, rfl, by decide, by decide, wcl_13⟩, True.intro⟩ (fun _ => rfl) (fun as μ hs => by rw [hs.1]; exact Nat.le_of_ble_eq_true rfl)
    (fun as μ hs hM hrg => by
      have hs1 := hs.1
      have hmem : ∀ v, v ∈ ([vR 0 0, vI (iaI as 1), vI (iaI as 2), vR 62 0] : List AV) → rg fam0 v := by rw [← hs1]; exact hrg
      have key := run_L_position (ER := cl_L_position.2.2.2.1 σ as μ) (ET := fun k μ' => cl_L_position.2.2.2.2 σ as μ k ∧ μ' = μ) σ μ (iaI as 1) (iaI as 2) hM (hmem (vI (iaI as 1)) (by simp)) (hmem (vI (iaI as 2)) (by simp)) hs.2 (fun ov μ' h => h)
      have e : entL as 5 = [some (vR 0 0), some (vI (iaI as 1)), some (vI (iaI as 2)), some (vR 62 0), none] := by rw [hs1]; rfl
      rw [e]; exact key)
/-! ### the law's part -/
def cl_L_part : Cl := (4, 2, fun σ as μ => as = [vR 0 0, vI (iaI as 1), vI (iaI as 2), vR 62 0] ∧ (CV μ), fun σ as μ ov μ' => ((((0 ≤ (iaI as 1) ∧ (iaI as 1) ≤ 5) ∧ (0 ≤ (iaI as 2) ∧ (iaI as 2) ≤ 3))) → ov = some (vI 0) ∧ μ' 62 0 0 = (partF (al μ) (iaI as 1) (iaI as 2)) ∧ al μ' = al μ ∧ PB2 μ μ') ∧ ((¬ ((0 ≤ (iaI as 1) ∧ (iaI as 1) ≤ 5) ∧ (0 ≤ (iaI as 2) ∧ (iaI as 2) ≤ 3))) → ov = some (vI 1) ∧ μ' = μ), fun σ as μ k => False)
def cd_L_part : Cd := mkcd k_L_part [] [] [(68, cl_X4_part)] [] [(0, 10, 13, 1)] [] 5 1 2
set_option maxHeartbeats 4000000 in
set_option maxRecDepth 20000 in
theorem run_L_part {ER : Option AV → Mm → Prop} {ET : Nat → Mm → Prop} (σ μ : Mm) (c s : Int) (hM : MR fam0 μ) (h_c : in32 c) (h_s : in32 s) (hP : CV μ) (hER : ∀ ov μ', (((((0 ≤ c ∧ c ≤ 5) ∧ (0 ≤ s ∧ s ≤ 3))) → ov = some (vI 0) ∧ μ' 62 0 0 = (partF (al μ) c s) ∧ al μ' = al μ ∧ PB2 μ μ') ∧ ((¬ ((0 ≤ c ∧ c ≤ 5) ∧ (0 ≤ s ∧ s ≤ 3))) → ov = some (vI 1) ∧ μ' = μ)) → ER ov μ') : Run fam0 none cd_L_part ER ET 0 0 [some (vR 0 0), some (vI c), some (vI s), some (vR 62 0), none] [] μ := by
  refine run_k 6 ?_
  show ∃ σ : Mm, cl_X4_part.2.2.1 σ [vR 0 0, vI c, vI s] μ ∧ (∀ ov μ', cl_X4_part.2.2.2.1 σ [vR 0 0, vI c, vI s] μ ov μ' → Run fam0 none cd_L_part ER ET 8 2 [some (vR 0 0), some (vI c), some (vI s), some (vR 62 0), none] (ov.toList ++ [vI 0, vR 62 0]) μ') ∧ ∀ kx, cl_X4_part.2.2.2.2 σ [vR 0 0, vI c, vI s] μ kx → thr cd_L_part ET (Run fam0 none cd_L_part ER ET) 5 2 [some (vR 0 0), some (vI c), some (vI s), some (vR 62 0), none] μ kx
  refine ⟨μ, ⟨rfl, (by first | assumption | exact ⟨by assumption, by assumption⟩)⟩, fun ov μ' hq => ?_, fun kx hk => ?_⟩
  · obtain ⟨hok, hov, hmu, hPB⟩ : (((0 ≤ c ∧ c ≤ 5) ∧ (0 ≤ s ∧ s ≤ 3))) ∧ ov = some (vI (partF (al μ) c s)) ∧ μ' = μ ∧ PB μ μ' := hq
    rw [hov]
    clear hov
    rename Mm => M1
    have hp2 := PB_2 hPB
    have hal : al M1 = al μ := by rw [hmu]
    show Run fam0 none cd_L_part ER ET 8 2 [some (vR 0 0), some (vI c), some (vI s), some (vR 62 0), none] [vI (partF (al μ) c s), vI 0, vR 62 0] M1
    refine run_k 5 ?_
    show (0 ≤ 0 ∧ 0 < 1) ∧ (ER (some (vI 0)) (st M1 62 0 0 (partF (al μ) c s)))
    refine ⟨by omega, ?_⟩
    refine hER _ _ ⟨fun h => ⟨rfl, by rw [st_s], (hp2 _).1.trans hal, (hp2 _).2⟩, fun h => absurd h (by omega)⟩
  · have hk : (kx = 1 ∧ ¬ ((0 ≤ c ∧ c ≤ 5) ∧ (0 ≤ s ∧ s ≤ 3))) := hk
    rcases hk with ⟨rfl, hc⟩
    · show ∀ xq : Nat, Run fam0 none cd_L_part ER ET 13 2 [some (vR 0 0), some (vI c), some (vI s), some (vR 62 0), none] [vX xq] μ
      intro xq
      refine run_k 3 ?_
      show ER (some (vI 1)) μ
      refine hER _ _ ⟨fun h => absurd h (by omega), fun h => ⟨rfl, rfl⟩⟩
theorem vw_L_68 : ∀ w ∈ ([.methodLink RL 68 yX4_part, .instanceMethod yX4_part, .selects RX4 yX4_part yX4_part, .initialized RX4, .code yX4_part cX4_part 3 (some .int)] : List Cond), w ∈ wm := wm_ps _ [605, 606, 607, 50, 608] (by decide +kernel)
set_option maxRecDepth 20000 in
theorem con_L_part (l : Launch) (htr : l.stackTraces = false) (σ : Mm) : CON fam0 63 l yL_part (Cond.codeWith yL_part cL_part 5 (some .int) [(0, 10, 13, 13)] :: wm) 8 124 2 (cl_L_part.2.2.1 σ) (cl_L_part.2.2.2.1 σ) (cl_L_part.2.2.2.2 σ) :=
  con_ofH (cd := cd_L_part) (own := RL) (rk := 1) (maxL := 5) (hh := [(0, 10, 13, 13)]) (sc_of htr (by decide) k_L_part_ok (by decide +kernel) all_nil all_nil (all_cons ⟨RX4, yX4_part, cX4_part, 3, (some .int), 7, 102, 2, con_X4_part l htr, rfl, vw_L_68, ⟨rfl, by decide, by decide, by decide +kernel⟩, ⟨by decide, by decide⟩, fun σ as μ h => ⟨0, 0, _, h.1, rfl, TX4, 17, rfl⟩⟩ all_nil) all_nil all_nil) rfl (by decide +kernel) rfl rfl rfl ⟨⟨rfl, rfl, rfl, by decide, by decide, wcl_13⟩, True.intro⟩ (fun _ => rfl) (fun as μ hs => by rw [hs.1]; exact Nat.le_of_ble_eq_true rfl)
    (fun as μ hs hM hrg => by
      have hs1 := hs.1
      have hmem : ∀ v, v ∈ ([vR 0 0, vI (iaI as 1), vI (iaI as 2), vR 62 0] : List AV) → rg fam0 v := by rw [← hs1]; exact hrg
      have key := run_L_part (ER := cl_L_part.2.2.2.1 σ as μ) (ET := fun k μ' => cl_L_part.2.2.2.2 σ as μ k ∧ μ' = μ) σ μ (iaI as 1) (iaI as 2) hM (hmem (vI (iaI as 1)) (by simp)) (hmem (vI (iaI as 2)) (by simp)) hs.2 (fun ov μ' h => h)
      have e : entL as 5 = [some (vR 0 0), some (vI (iaI as 1)), some (vI (iaI as 2)), some (vR 62 0), none] := by rw [hs1]; rfl
      rw [e]; exact key)
/-! ### the law's partAnew -/
def cl_L_partAnew : Cl := (4, 2, fun σ as μ => as = [vR 0 0, vI (iaI as 1), vI (iaI as 2), vR 62 0] ∧ (CV μ), fun σ as μ ov μ' => ((((0 ≤ (iaI as 1) ∧ (iaI as 1) ≤ 5) ∧ (0 ≤ (iaI as 2) ∧ (iaI as 2) ≤ 3))) → ov = some (vI 0) ∧ μ' 62 0 0 = (partF (al μ) (iaI as 1) (iaI as 2)) ∧ al μ' = al μ ∧ PB2 μ μ') ∧ ((¬ ((0 ≤ (iaI as 1) ∧ (iaI as 1) ≤ 5) ∧ (0 ≤ (iaI as 2) ∧ (iaI as 2) ≤ 3))) → ov = some (vI 1) ∧ μ' = μ), fun σ as μ k => False)
def cd_L_partAnew : Cd := mkcd k_L_partAnew [] [] [(71, cl_X4_partAnew)] [] [(0, 10, 13, 1)] [] 5 1 2
set_option maxHeartbeats 4000000 in
set_option maxRecDepth 20000 in
theorem run_L_partAnew {ER : Option AV → Mm → Prop} {ET : Nat → Mm → Prop} (σ μ : Mm) (c s : Int) (hM : MR fam0 μ) (h_c : in32 c) (h_s : in32 s) (hP : CV μ) (hER : ∀ ov μ', (((((0 ≤ c ∧ c ≤ 5) ∧ (0 ≤ s ∧ s ≤ 3))) → ov = some (vI 0) ∧ μ' 62 0 0 = (partF (al μ) c s) ∧ al μ' = al μ ∧ PB2 μ μ') ∧ ((¬ ((0 ≤ c ∧ c ≤ 5) ∧ (0 ≤ s ∧ s ≤ 3))) → ov = some (vI 1) ∧ μ' = μ)) → ER ov μ') : Run fam0 none cd_L_partAnew ER ET 0 0 [some (vR 0 0), some (vI c), some (vI s), some (vR 62 0), none] [] μ := by
  refine run_k 6 ?_
  show ∃ σ : Mm, cl_X4_partAnew.2.2.1 σ [vR 0 0, vI c, vI s] μ ∧ (∀ ov μ', cl_X4_partAnew.2.2.2.1 σ [vR 0 0, vI c, vI s] μ ov μ' → Run fam0 none cd_L_partAnew ER ET 8 2 [some (vR 0 0), some (vI c), some (vI s), some (vR 62 0), none] (ov.toList ++ [vI 0, vR 62 0]) μ') ∧ ∀ kx, cl_X4_partAnew.2.2.2.2 σ [vR 0 0, vI c, vI s] μ kx → thr cd_L_partAnew ET (Run fam0 none cd_L_partAnew ER ET) 5 2 [some (vR 0 0), some (vI c), some (vI s), some (vR 62 0), none] μ kx
  refine ⟨μ, ⟨rfl, (by first | assumption | exact ⟨by assumption, by assumption⟩)⟩, fun ov μ' hq => ?_, fun kx hk => ?_⟩
  · obtain ⟨hok, hov, hmu, hPB⟩ : (((0 ≤ c ∧ c ≤ 5) ∧ (0 ≤ s ∧ s ≤ 3))) ∧ ov = some (vI (partF (al μ) c s)) ∧ μ' = μ ∧ PB μ μ' := hq
    rw [hov]
    clear hov
    rename Mm => M1
    have hp2 := PB_2 hPB
    have hal : al M1 = al μ := by rw [hmu]
    show Run fam0 none cd_L_partAnew ER ET 8 2 [some (vR 0 0), some (vI c), some (vI s), some (vR 62 0), none] [vI (partF (al μ) c s), vI 0, vR 62 0] M1
    refine run_k 5 ?_
    show (0 ≤ 0 ∧ 0 < 1) ∧ (ER (some (vI 0)) (st M1 62 0 0 (partF (al μ) c s)))
    refine ⟨by omega, ?_⟩
    refine hER _ _ ⟨fun h => ⟨rfl, by rw [st_s], (hp2 _).1.trans hal, (hp2 _).2⟩, fun h => absurd h (by omega)⟩
  · have hk : (kx = 1 ∧ ¬ ((0 ≤ c ∧ c ≤ 5) ∧ (0 ≤ s ∧ s ≤ 3))) := hk
    rcases hk with ⟨rfl, hc⟩
    · show ∀ xq : Nat, Run fam0 none cd_L_partAnew ER ET 13 2 [some (vR 0 0), some (vI c), some (vI s), some (vR 62 0), none] [vX xq] μ
      intro xq
      refine run_k 3 ?_
      show ER (some (vI 1)) μ
      refine hER _ _ ⟨fun h => absurd h (by omega), fun h => ⟨rfl, rfl⟩⟩
theorem vw_L_71 : ∀ w ∈ ([.methodLink RL 71 yX4_partAnew, .instanceMethod yX4_partAnew, .selects RX4 yX4_partAnew yX4_partAnew, .initialized RX4, .code yX4_partAnew cX4_partAnew 3 (some .int)] : List Cond), w ∈ wm := wm_ps _ [612, 613, 614, 50, 615] (by decide +kernel)
set_option maxRecDepth 20000 in
theorem con_L_partAnew (l : Launch) (htr : l.stackTraces = false) (σ : Mm) : CON fam0 63 l yL_partAnew (Cond.codeWith yL_partAnew cL_partAnew 5 (some .int) [(0, 10, 13, 13)] :: wm) 8 124 2 (cl_L_partAnew.2.2.1 σ) (cl_L_partAnew.2.2.2.1 σ) (cl_L_partAnew.2.2.2.2 σ) :=
  con_ofH (cd := cd_L_partAnew) (own := RL) (rk := 1) (maxL := 5) (hh := [(0, 10, 13, 13)]) (sc_of htr (by decide) k_L_partAnew_ok (by decide +kernel) all_nil all_nil (all_cons ⟨RX4, yX4_partAnew, cX4_partAnew, 3, (some .int), 7, 102, 2, con_X4_partAnew l htr, rfl, vw_L_71, ⟨rfl, by decide, by decide, by decide +kernel⟩, ⟨by decide, by decide⟩, fun σ as μ h => ⟨0, 0, _, h.1, rfl, TX4, 17, rfl⟩⟩ all_nil) all_nil all_nil) rfl (by decide +kernel) rfl rfl rfl ⟨⟨rfl, rfl, rfl, by decide, by decide, wcl_13⟩, True.intro⟩ (fun _ => rfl) (fun as μ hs => by rw [hs.1]; exact Nat.le_of_ble_eq_true rfl)
    (fun as μ hs hM hrg => by
      have hs1 := hs.1
      have hmem : ∀ v, v ∈ ([vR 0 0, vI (iaI as 1), vI (iaI as 2), vR 62 0] : List AV) → rg fam0 v := by rw [← hs1]; exact hrg
      have key := run_L_partAnew (ER := cl_L_partAnew.2.2.2.1 σ as μ) (ET := fun k μ' => cl_L_partAnew.2.2.2.2 σ as μ k ∧ μ' = μ) σ μ (iaI as 1) (iaI as 2) hM (hmem (vI (iaI as 1)) (by simp)) (hmem (vI (iaI as 2)) (by simp)) hs.2 (fun ov μ' h => h)
      have e : entL as 5 = [some (vR 0 0), some (vI (iaI as 1)), some (vI (iaI as 2)), some (vR 62 0), none] := by rw [hs1]; rfl
      rw [e]; exact key)
/-! ### the law's clientOf -/
def cl_L_clientOf : Cl := (4, 3, fun σ as μ => as = [vR 0 0, vI (iaI as 1), vI (iaI as 2), vR 62 0] ∧ (CV μ), fun σ as μ ov μ' => (((0 ≤ (iaI as 1) ∧ (iaI as 1) ≤ 5) ∧ (0 ≤ (iaI as 2) ∧ (iaI as 2) ≤ 4)) → ov = some (vI 0) ∧ μ' 62 0 0 = (if (iaI as 2) = 0 then μ 3 0 (iaI as 1) else if (iaI as 2) = 1 then equityF (al μ) (iaI as 1) else if (iaI as 2) = 2 then needF (al μ) (iaI as 1) else if (iaI as 2) = 3 then calledF (al μ) (iaI as 1) else μ 5 0 (iaI as 1)) ∧ al μ' = al μ ∧ PB2 μ μ') ∧ ((¬ (0 ≤ (iaI as 1) ∧ (iaI as 1) ≤ 5)) → ov = some (vI 1) ∧ μ' = μ) ∧ (((0 ≤ (iaI as 1) ∧ (iaI as 1) ≤ 5) ∧ ¬ (0 ≤ (iaI as 2) ∧ (iaI as 2) ≤ 4)) → ov = some (vI 2) ∧ μ' = μ), fun σ as μ k => False)
def cd_L_clientOf : Cd := mkcd k_L_clientOf [] [] [(74, cl_X4_clientOf)] [] [(0, 9, 12, 1), (0, 9, 16, 2)] [] 5 1 3
set_option maxHeartbeats 4000000 in
set_option maxRecDepth 20000 in
theorem run_L_clientOf {ER : Option AV → Mm → Prop} {ET : Nat → Mm → Prop} (σ μ : Mm) (c w : Int) (hM : MR fam0 μ) (h_c : in32 c) (h_w : in32 w) (hP : CV μ) (hER : ∀ ov μ', ((((0 ≤ c ∧ c ≤ 5) ∧ (0 ≤ w ∧ w ≤ 4)) → ov = some (vI 0) ∧ μ' 62 0 0 = (if w = 0 then μ 3 0 c else if w = 1 then equityF (al μ) c else if w = 2 then needF (al μ) c else if w = 3 then calledF (al μ) c else μ 5 0 c) ∧ al μ' = al μ ∧ PB2 μ μ') ∧ ((¬ (0 ≤ c ∧ c ≤ 5)) → ov = some (vI 1) ∧ μ' = μ) ∧ (((0 ≤ c ∧ c ≤ 5) ∧ ¬ (0 ≤ w ∧ w ≤ 4)) → ov = some (vI 2) ∧ μ' = μ)) → ER ov μ') : Run fam0 none cd_L_clientOf ER ET 0 0 [some (vR 0 0), some (vI c), some (vI w), some (vR 62 0), none] [] μ := by
  refine run_k 6 ?_
  show ∃ σ : Mm, cl_X4_clientOf.2.2.1 σ [vR 0 0, vI c, vI w] μ ∧ (∀ ov μ', cl_X4_clientOf.2.2.2.1 σ [vR 0 0, vI c, vI w] μ ov μ' → Run fam0 none cd_L_clientOf ER ET 8 3 [some (vR 0 0), some (vI c), some (vI w), some (vR 62 0), none] (ov.toList ++ [vI 0, vR 62 0]) μ') ∧ ∀ kx, cl_X4_clientOf.2.2.2.2 σ [vR 0 0, vI c, vI w] μ kx → thr cd_L_clientOf ET (Run fam0 none cd_L_clientOf ER ET) 5 3 [some (vR 0 0), some (vI c), some (vI w), some (vR 62 0), none] μ kx
  refine ⟨μ, ⟨rfl, (by first | assumption | exact ⟨by assumption, by assumption⟩)⟩, fun ov μ' hq => ?_, fun kx hk => ?_⟩
  · obtain ⟨hok, hov, hmu, hPB⟩ : ((0 ≤ c ∧ c ≤ 5) ∧ (0 ≤ w ∧ w ≤ 4)) ∧ ov = some (vL (if w = 0 then μ 3 0 c else if w = 1 then equityF (al μ) c else if w = 2 then needF (al μ) c else if w = 3 then calledF (al μ) c else μ 5 0 c)) ∧ μ' = μ ∧ PB μ μ' := hq
    rw [hov]
    clear hov
    rename Mm => M1
    have hp2 := PB_2 hPB
    have hal : al M1 = al μ := by rw [hmu]
    show Run fam0 none cd_L_clientOf ER ET 8 3 [some (vR 0 0), some (vI c), some (vI w), some (vR 62 0), none] [vL (if w = 0 then μ 3 0 c else if w = 1 then equityF (al μ) c else if w = 2 then needF (al μ) c else if w = 3 then calledF (al μ) c else μ 5 0 c), vI 0, vR 62 0] M1
    refine run_k 4 ?_
    show (0 ≤ 0 ∧ 0 < 1) ∧ (ER (some (vI 0)) (st M1 62 0 0 (if w = 0 then μ 3 0 c else if w = 1 then equityF (al μ) c else if w = 2 then needF (al μ) c else if w = 3 then calledF (al μ) c else μ 5 0 c)))
    refine ⟨by omega, ?_⟩
    refine hER _ _ ⟨fun h => ⟨rfl, by rw [st_s], (hp2 _).1.trans hal, (hp2 _).2⟩, fun h => absurd h (by omega), fun h => absurd h (by omega)⟩
  · have hk : (kx = 1 ∧ ¬ (0 ≤ c ∧ c ≤ 5)) ∨ (kx = 2 ∧ (0 ≤ c ∧ c ≤ 5) ∧ ¬ (0 ≤ w ∧ w ≤ 4)) := hk
    rcases hk with ⟨rfl, hc⟩ | ⟨rfl, hc⟩
    · show ∀ xq : Nat, Run fam0 none cd_L_clientOf ER ET 12 3 [some (vR 0 0), some (vI c), some (vI w), some (vR 62 0), none] [vX xq] μ
      intro xq
      refine run_k 3 ?_
      show ER (some (vI 1)) μ
      refine hER _ _ ⟨fun h => absurd h (by omega), fun h => ⟨rfl, rfl⟩, fun h => absurd h (by omega)⟩
    · show ∀ xq : Nat, Run fam0 none cd_L_clientOf ER ET 16 3 [some (vR 0 0), some (vI c), some (vI w), some (vR 62 0), none] [vX xq] μ
      intro xq
      refine run_k 3 ?_
      show ER (some (vI 2)) μ
      refine hER _ _ ⟨fun h => absurd h (by omega), fun h => absurd h (by omega), fun h => ⟨rfl, rfl⟩⟩
theorem vw_L_74 : ∀ w ∈ ([.methodLink RL 74 yX4_clientOf, .instanceMethod yX4_clientOf, .selects RX4 yX4_clientOf yX4_clientOf, .initialized RX4, .code yX4_clientOf cX4_clientOf 3 (some .long)] : List Cond), w ∈ wm := wm_ps _ [623, 624, 625, 50, 626] (by decide +kernel)
set_option maxRecDepth 20000 in
theorem con_L_clientOf (l : Launch) (htr : l.stackTraces = false) (σ : Mm) : CON fam0 63 l yL_clientOf (Cond.codeWith yL_clientOf cL_clientOf 5 (some .int) [(0, 9, 12, 13), (0, 9, 16, 15)] :: wm) 8 126 3 (cl_L_clientOf.2.2.1 σ) (cl_L_clientOf.2.2.2.1 σ) (cl_L_clientOf.2.2.2.2 σ) :=
  con_ofH (cd := cd_L_clientOf) (own := RL) (rk := 1) (maxL := 5) (hh := [(0, 9, 12, 13), (0, 9, 16, 15)]) (sc_of htr (by decide) k_L_clientOf_ok (by decide +kernel) all_nil all_nil (all_cons ⟨RX4, yX4_clientOf, cX4_clientOf, 3, (some .long), 7, 104, 2, con_X4_clientOf l htr, rfl, vw_L_74, ⟨rfl, by decide, by decide, by decide +kernel⟩, ⟨by decide, by decide⟩, fun σ as μ h => ⟨0, 0, _, h.1, rfl, TX4, 17, rfl⟩⟩ all_nil) all_nil all_nil) rfl (by decide +kernel) rfl rfl rfl ⟨⟨rfl, rfl, rfl, by decide, by decide, wcl_13⟩, ⟨⟨rfl, rfl, rfl, by decide, by decide, wcl_15⟩, True.intro⟩⟩ (fun _ => rfl) (fun as μ hs => by rw [hs.1]; exact Nat.le_of_ble_eq_true rfl)
    (fun as μ hs hM hrg => by
      have hs1 := hs.1
      have hmem : ∀ v, v ∈ ([vR 0 0, vI (iaI as 1), vI (iaI as 2), vR 62 0] : List AV) → rg fam0 v := by rw [← hs1]; exact hrg
      have key := run_L_clientOf (ER := cl_L_clientOf.2.2.2.1 σ as μ) (ET := fun k μ' => cl_L_clientOf.2.2.2.2 σ as μ k ∧ μ' = μ) σ μ (iaI as 1) (iaI as 2) hM (hmem (vI (iaI as 1)) (by simp)) (hmem (vI (iaI as 2)) (by simp)) hs.2 (fun ov μ' h => h)
      have e : entL as 5 = [some (vR 0 0), some (vI (iaI as 1)), some (vI (iaI as 2)), some (vR 62 0), none] := by rw [hs1]; rfl
      rw [e]; exact key)
/-! ### the law's lenderOf -/
def cl_L_lenderOf : Cl := (5, 3, fun σ as μ => as = [vR 0 0, vI (iaI as 1), vI (iaI as 2), vI (iaI as 3), vR 62 0] ∧ (CV μ), fun σ as μ ov μ' => ((((0 ≤ (iaI as 1) ∧ (iaI as 1) ≤ 3) ∧ (0 ≤ (iaI as 2) ∧ (iaI as 2) ≤ 3)) ∧ (0 ≤ (iaI as 3) ∧ (iaI as 3) ≤ 3)) → ov = some (vI 0) ∧ μ' 62 0 0 = (if (iaI as 3) = 0 then μ 9 (iaI as 1) (iaI as 2) else if (iaI as 3) = 1 then lentF (al μ) (10 + (iaI as 1)) (iaI as 2) else if (iaI as 3) = 2 then μ 11 (iaI as 1) (iaI as 2) else μ 12 0 (iaI as 1)) ∧ al μ' = al μ ∧ PB2 μ μ') ∧ ((¬ ((0 ≤ (iaI as 1) ∧ (iaI as 1) ≤ 3) ∧ (0 ≤ (iaI as 2) ∧ (iaI as 2) ≤ 3))) → ov = some (vI 1) ∧ μ' = μ) ∧ ((((0 ≤ (iaI as 1) ∧ (iaI as 1) ≤ 3) ∧ (0 ≤ (iaI as 2) ∧ (iaI as 2) ≤ 3)) ∧ ¬ (0 ≤ (iaI as 3) ∧ (iaI as 3) ≤ 3)) → ov = some (vI 2) ∧ μ' = μ), fun σ as μ k => False)
def cd_L_lenderOf : Cd := mkcd k_L_lenderOf [] [] [(77, cl_X4_lenderOf)] [] [(0, 11, 14, 1), (0, 11, 18, 2)] [] 6 1 3
set_option maxHeartbeats 4000000 in
set_option maxRecDepth 20000 in
theorem run_L_lenderOf {ER : Option AV → Mm → Prop} {ET : Nat → Mm → Prop} (σ μ : Mm) (l s w : Int) (hM : MR fam0 μ) (h_l : in32 l) (h_s : in32 s) (h_w : in32 w) (hP : CV μ) (hER : ∀ ov μ', (((((0 ≤ l ∧ l ≤ 3) ∧ (0 ≤ s ∧ s ≤ 3)) ∧ (0 ≤ w ∧ w ≤ 3)) → ov = some (vI 0) ∧ μ' 62 0 0 = (if w = 0 then μ 9 l s else if w = 1 then lentF (al μ) (10 + l) s else if w = 2 then μ 11 l s else μ 12 0 l) ∧ al μ' = al μ ∧ PB2 μ μ') ∧ ((¬ ((0 ≤ l ∧ l ≤ 3) ∧ (0 ≤ s ∧ s ≤ 3))) → ov = some (vI 1) ∧ μ' = μ) ∧ ((((0 ≤ l ∧ l ≤ 3) ∧ (0 ≤ s ∧ s ≤ 3)) ∧ ¬ (0 ≤ w ∧ w ≤ 3)) → ov = some (vI 2) ∧ μ' = μ)) → ER ov μ') : Run fam0 none cd_L_lenderOf ER ET 0 0 [some (vR 0 0), some (vI l), some (vI s), some (vI w), some (vR 62 0), none] [] μ := by
  refine run_k 7 ?_
  show ∃ σ : Mm, cl_X4_lenderOf.2.2.1 σ [vR 0 0, vI l, vI s, vI w] μ ∧ (∀ ov μ', cl_X4_lenderOf.2.2.2.1 σ [vR 0 0, vI l, vI s, vI w] μ ov μ' → Run fam0 none cd_L_lenderOf ER ET 10 3 [some (vR 0 0), some (vI l), some (vI s), some (vI w), some (vR 62 0), none] (ov.toList ++ [vI 0, vR 62 0]) μ') ∧ ∀ kx, cl_X4_lenderOf.2.2.2.2 σ [vR 0 0, vI l, vI s, vI w] μ kx → thr cd_L_lenderOf ET (Run fam0 none cd_L_lenderOf ER ET) 7 3 [some (vR 0 0), some (vI l), some (vI s), some (vI w), some (vR 62 0), none] μ kx
  refine ⟨μ, ⟨rfl, (by first | assumption | exact ⟨by assumption, by assumption⟩)⟩, fun ov μ' hq => ?_, fun kx hk => ?_⟩
  · obtain ⟨hok, hov, hmu, hPB⟩ : (((0 ≤ l ∧ l ≤ 3) ∧ (0 ≤ s ∧ s ≤ 3)) ∧ (0 ≤ w ∧ w ≤ 3)) ∧ ov = some (vL (if w = 0 then μ 9 l s else if w = 1 then lentF (al μ) (10 + l) s else if w = 2 then μ 11 l s else μ 12 0 l)) ∧ μ' = μ ∧ PB μ μ' := hq
    rw [hov]
    clear hov
    rename Mm => M1
    have hp2 := PB_2 hPB
    have hal : al M1 = al μ := by rw [hmu]
    show Run fam0 none cd_L_lenderOf ER ET 10 3 [some (vR 0 0), some (vI l), some (vI s), some (vI w), some (vR 62 0), none] [vL (if w = 0 then μ 9 l s else if w = 1 then lentF (al μ) (10 + l) s else if w = 2 then μ 11 l s else μ 12 0 l), vI 0, vR 62 0] M1
    refine run_k 4 ?_
    show (0 ≤ 0 ∧ 0 < 1) ∧ (ER (some (vI 0)) (st M1 62 0 0 (if w = 0 then μ 9 l s else if w = 1 then lentF (al μ) (10 + l) s else if w = 2 then μ 11 l s else μ 12 0 l)))
    refine ⟨by omega, ?_⟩
    refine hER _ _ ⟨fun h => ⟨rfl, by rw [st_s], (hp2 _).1.trans hal, (hp2 _).2⟩, fun h => absurd h (by omega), fun h => absurd h (by omega)⟩
  · have hk : (kx = 1 ∧ ¬ ((0 ≤ l ∧ l ≤ 3) ∧ (0 ≤ s ∧ s ≤ 3))) ∨ (kx = 2 ∧ ((0 ≤ l ∧ l ≤ 3) ∧ (0 ≤ s ∧ s ≤ 3)) ∧ ¬ (0 ≤ w ∧ w ≤ 3)) := hk
    rcases hk with ⟨rfl, hc⟩ | ⟨rfl, hc⟩
    · show ∀ xq : Nat, Run fam0 none cd_L_lenderOf ER ET 14 3 [some (vR 0 0), some (vI l), some (vI s), some (vI w), some (vR 62 0), none] [vX xq] μ
      intro xq
      refine run_k 3 ?_
      show ER (some (vI 1)) μ
      refine hER _ _ ⟨fun h => absurd h (by omega), fun h => ⟨rfl, rfl⟩, fun h => absurd h (by omega)⟩
    · show ∀ xq : Nat, Run fam0 none cd_L_lenderOf ER ET 18 3 [some (vR 0 0), some (vI l), some (vI s), some (vI w), some (vR 62 0), none] [vX xq] μ
      intro xq
      refine run_k 3 ?_
      show ER (some (vI 2)) μ
      refine hER _ _ ⟨fun h => absurd h (by omega), fun h => absurd h (by omega), fun h => ⟨rfl, rfl⟩⟩
theorem vw_L_77 : ∀ w ∈ ([.methodLink RL 77 yX4_lenderOf, .instanceMethod yX4_lenderOf, .selects RX4 yX4_lenderOf yX4_lenderOf, .initialized RX4, .code yX4_lenderOf cX4_lenderOf 4 (some .long)] : List Cond), w ∈ wm := wm_ps _ [630, 631, 632, 50, 633] (by decide +kernel)
set_option maxRecDepth 20000 in
theorem con_L_lenderOf (l : Launch) (htr : l.stackTraces = false) (σ : Mm) : CON fam0 63 l yL_lenderOf (Cond.codeWith yL_lenderOf cL_lenderOf 6 (some .int) [(0, 11, 14, 13), (0, 11, 18, 15)] :: wm) 8 127 3 (cl_L_lenderOf.2.2.1 σ) (cl_L_lenderOf.2.2.2.1 σ) (cl_L_lenderOf.2.2.2.2 σ) :=
  con_ofH (cd := cd_L_lenderOf) (own := RL) (rk := 1) (maxL := 6) (hh := [(0, 11, 14, 13), (0, 11, 18, 15)]) (sc_of htr (by decide) k_L_lenderOf_ok (by decide +kernel) all_nil all_nil (all_cons ⟨RX4, yX4_lenderOf, cX4_lenderOf, 4, (some .long), 7, 104, 3, con_X4_lenderOf l htr, rfl, vw_L_77, ⟨rfl, by decide, by decide, by decide +kernel⟩, ⟨by decide, by decide⟩, fun σ as μ h => ⟨0, 0, _, h.1, rfl, TX4, 17, rfl⟩⟩ all_nil) all_nil all_nil) rfl (by decide +kernel) rfl rfl rfl ⟨⟨rfl, rfl, rfl, by decide, by decide, wcl_13⟩, ⟨⟨rfl, rfl, rfl, by decide, by decide, wcl_15⟩, True.intro⟩⟩ (fun _ => rfl) (fun as μ hs => by rw [hs.1]; exact Nat.le_of_ble_eq_true rfl)
    (fun as μ hs hM hrg => by
      have hs1 := hs.1
      have hmem : ∀ v, v ∈ ([vR 0 0, vI (iaI as 1), vI (iaI as 2), vI (iaI as 3), vR 62 0] : List AV) → rg fam0 v := by rw [← hs1]; exact hrg
      have key := run_L_lenderOf (ER := cl_L_lenderOf.2.2.2.1 σ as μ) (ET := fun k μ' => cl_L_lenderOf.2.2.2.2 σ as μ k ∧ μ' = μ) σ μ (iaI as 1) (iaI as 2) (iaI as 3) hM (hmem (vI (iaI as 1)) (by simp)) (hmem (vI (iaI as 2)) (by simp)) (hmem (vI (iaI as 3)) (by simp)) hs.2 (fun ov μ' h => h)
      have e : entL as 6 = [some (vR 0 0), some (vI (iaI as 1)), some (vI (iaI as 2)), some (vI (iaI as 3)), some (vR 62 0), none] := by rw [hs1]; rfl
      rw [e]; exact key)
/-! ### the law's stockOf -/
def cl_L_stockOf : Cl := (4, 2, fun σ as μ => as = [vR 0 0, vI (iaI as 1), vI (iaI as 2), vR 62 0] ∧ (CV μ), fun σ as μ ov μ' => (((0 ≤ (iaI as 1) ∧ (iaI as 1) ≤ 3) ∧ (0 ≤ (iaI as 2) ∧ (iaI as 2) ≤ 6)) → ov = some (vI 0) ∧ μ' 62 0 0 = (if (iaI as 2) = 0 then μ 1 0 (iaI as 1) else if (iaI as 2) = 1 then longF (al μ) (iaI as 1) else if (iaI as 2) = 2 then shtF (al μ) (iaI as 1) else if (iaI as 2) = 3 then longF (al μ) (iaI as 1) - lbF (al μ) (iaI as 1) else if (iaI as 2) = 4 then lbF (al μ) (iaI as 1) else if (iaI as 2) = 5 then llF (al μ) (iaI as 1) else μ 2 0 (iaI as 1)) ∧ al μ' = al μ ∧ PB2 μ μ') ∧ ((¬ (0 ≤ (iaI as 1) ∧ (iaI as 1) ≤ 3)) → ov = some (vI 1) ∧ μ' = μ) ∧ (((0 ≤ (iaI as 1) ∧ (iaI as 1) ≤ 3) ∧ ¬ (0 ≤ (iaI as 2) ∧ (iaI as 2) ≤ 6)) → ov = some (vI 2) ∧ μ' = μ), fun σ as μ k => False)
def cd_L_stockOf : Cd := mkcd k_L_stockOf [] [] [(80, cl_X4_stockOf)] [] [(0, 10, 13, 1), (0, 10, 17, 2)] [] 5 1 2
set_option maxHeartbeats 4000000 in
set_option maxRecDepth 20000 in
theorem run_L_stockOf {ER : Option AV → Mm → Prop} {ET : Nat → Mm → Prop} (σ μ : Mm) (s w : Int) (hM : MR fam0 μ) (h_s : in32 s) (h_w : in32 w) (hP : CV μ) (hER : ∀ ov μ', ((((0 ≤ s ∧ s ≤ 3) ∧ (0 ≤ w ∧ w ≤ 6)) → ov = some (vI 0) ∧ μ' 62 0 0 = (if w = 0 then μ 1 0 s else if w = 1 then longF (al μ) s else if w = 2 then shtF (al μ) s else if w = 3 then longF (al μ) s - lbF (al μ) s else if w = 4 then lbF (al μ) s else if w = 5 then llF (al μ) s else μ 2 0 s) ∧ al μ' = al μ ∧ PB2 μ μ') ∧ ((¬ (0 ≤ s ∧ s ≤ 3)) → ov = some (vI 1) ∧ μ' = μ) ∧ (((0 ≤ s ∧ s ≤ 3) ∧ ¬ (0 ≤ w ∧ w ≤ 6)) → ov = some (vI 2) ∧ μ' = μ)) → ER ov μ') : Run fam0 none cd_L_stockOf ER ET 0 0 [some (vR 0 0), some (vI s), some (vI w), some (vR 62 0), none] [] μ := by
  refine run_k 6 ?_
  show ∃ σ : Mm, cl_X4_stockOf.2.2.1 σ [vR 0 0, vI s, vI w] μ ∧ (∀ ov μ', cl_X4_stockOf.2.2.2.1 σ [vR 0 0, vI s, vI w] μ ov μ' → Run fam0 none cd_L_stockOf ER ET 8 2 [some (vR 0 0), some (vI s), some (vI w), some (vR 62 0), none] (ov.toList ++ [vI 0, vR 62 0]) μ') ∧ ∀ kx, cl_X4_stockOf.2.2.2.2 σ [vR 0 0, vI s, vI w] μ kx → thr cd_L_stockOf ET (Run fam0 none cd_L_stockOf ER ET) 5 2 [some (vR 0 0), some (vI s), some (vI w), some (vR 62 0), none] μ kx
  refine ⟨μ, ⟨rfl, (by first | assumption | exact ⟨by assumption, by assumption⟩)⟩, fun ov μ' hq => ?_, fun kx hk => ?_⟩
  · obtain ⟨hok, hov, hmu, hPB⟩ : ((0 ≤ s ∧ s ≤ 3) ∧ (0 ≤ w ∧ w ≤ 6)) ∧ ov = some (vI (if w = 0 then μ 1 0 s else if w = 1 then longF (al μ) s else if w = 2 then shtF (al μ) s else if w = 3 then longF (al μ) s - lbF (al μ) s else if w = 4 then lbF (al μ) s else if w = 5 then llF (al μ) s else μ 2 0 s)) ∧ μ' = μ ∧ PB μ μ' := hq
    rw [hov]
    clear hov
    rename Mm => M1
    have hp2 := PB_2 hPB
    have hal : al M1 = al μ := by rw [hmu]
    show Run fam0 none cd_L_stockOf ER ET 8 2 [some (vR 0 0), some (vI s), some (vI w), some (vR 62 0), none] [vI (if w = 0 then μ 1 0 s else if w = 1 then longF (al μ) s else if w = 2 then shtF (al μ) s else if w = 3 then longF (al μ) s - lbF (al μ) s else if w = 4 then lbF (al μ) s else if w = 5 then llF (al μ) s else μ 2 0 s), vI 0, vR 62 0] M1
    refine run_k 5 ?_
    show (0 ≤ 0 ∧ 0 < 1) ∧ (ER (some (vI 0)) (st M1 62 0 0 (if w = 0 then μ 1 0 s else if w = 1 then longF (al μ) s else if w = 2 then shtF (al μ) s else if w = 3 then longF (al μ) s - lbF (al μ) s else if w = 4 then lbF (al μ) s else if w = 5 then llF (al μ) s else μ 2 0 s)))
    refine ⟨by omega, ?_⟩
    refine hER _ _ ⟨fun h => ⟨rfl, by rw [st_s], (hp2 _).1.trans hal, (hp2 _).2⟩, fun h => absurd h (by omega), fun h => absurd h (by omega)⟩
  · have hk : (kx = 1 ∧ ¬ (0 ≤ s ∧ s ≤ 3)) ∨ (kx = 2 ∧ (0 ≤ s ∧ s ≤ 3) ∧ ¬ (0 ≤ w ∧ w ≤ 6)) := hk
    rcases hk with ⟨rfl, hc⟩ | ⟨rfl, hc⟩
    · show ∀ xq : Nat, Run fam0 none cd_L_stockOf ER ET 13 2 [some (vR 0 0), some (vI s), some (vI w), some (vR 62 0), none] [vX xq] μ
      intro xq
      refine run_k 3 ?_
      show ER (some (vI 1)) μ
      refine hER _ _ ⟨fun h => absurd h (by omega), fun h => ⟨rfl, rfl⟩, fun h => absurd h (by omega)⟩
    · show ∀ xq : Nat, Run fam0 none cd_L_stockOf ER ET 17 2 [some (vR 0 0), some (vI s), some (vI w), some (vR 62 0), none] [vX xq] μ
      intro xq
      refine run_k 3 ?_
      show ER (some (vI 2)) μ
      refine hER _ _ ⟨fun h => absurd h (by omega), fun h => absurd h (by omega), fun h => ⟨rfl, rfl⟩⟩
theorem vw_L_80 : ∀ w ∈ ([.methodLink RL 80 yX4_stockOf, .instanceMethod yX4_stockOf, .selects RX4 yX4_stockOf yX4_stockOf, .initialized RX4, .code yX4_stockOf cX4_stockOf 3 (some .int)] : List Cond), w ∈ wm := wm_ps _ [637, 638, 639, 50, 640] (by decide +kernel)
set_option maxRecDepth 20000 in
theorem con_L_stockOf (l : Launch) (htr : l.stackTraces = false) (σ : Mm) : CON fam0 63 l yL_stockOf (Cond.codeWith yL_stockOf cL_stockOf 5 (some .int) [(0, 10, 13, 13), (0, 10, 17, 15)] :: wm) 8 126 2 (cl_L_stockOf.2.2.1 σ) (cl_L_stockOf.2.2.2.1 σ) (cl_L_stockOf.2.2.2.2 σ) :=
  con_ofH (cd := cd_L_stockOf) (own := RL) (rk := 1) (maxL := 5) (hh := [(0, 10, 13, 13), (0, 10, 17, 15)]) (sc_of htr (by decide) k_L_stockOf_ok (by decide +kernel) all_nil all_nil (all_cons ⟨RX4, yX4_stockOf, cX4_stockOf, 3, (some .int), 7, 104, 2, con_X4_stockOf l htr, rfl, vw_L_80, ⟨rfl, by decide, by decide, by decide +kernel⟩, ⟨by decide, by decide⟩, fun σ as μ h => ⟨0, 0, _, h.1, rfl, TX4, 17, rfl⟩⟩ all_nil) all_nil all_nil) rfl (by decide +kernel) rfl rfl rfl ⟨⟨rfl, rfl, rfl, by decide, by decide, wcl_13⟩, ⟨⟨rfl, rfl, rfl, by decide, by decide, wcl_15⟩, True.intro⟩⟩ (fun _ => rfl) (fun as μ hs => by rw [hs.1]; exact Nat.le_of_ble_eq_true rfl)
    (fun as μ hs hM hrg => by
      have hs1 := hs.1
      have hmem : ∀ v, v ∈ ([vR 0 0, vI (iaI as 1), vI (iaI as 2), vR 62 0] : List AV) → rg fam0 v := by rw [← hs1]; exact hrg
      have key := run_L_stockOf (ER := cl_L_stockOf.2.2.2.1 σ as μ) (ET := fun k μ' => cl_L_stockOf.2.2.2.2 σ as μ k ∧ μ' = μ) σ μ (iaI as 1) (iaI as 2) hM (hmem (vI (iaI as 1)) (by simp)) (hmem (vI (iaI as 2)) (by simp)) hs.2 (fun ov μ' h => h)
      have e : entL as 5 = [some (vR 0 0), some (vI (iaI as 1)), some (vI (iaI as 2)), some (vR 62 0), none] := by rw [hs1]; rfl
      rw [e]; exact key)
/-! ### the law's loanOf -/
def cl_L_loanOf : Cl := (4, 2, fun σ as μ => as = [vR 0 0, vI (iaI as 1), vI (iaI as 2), vR 62 0] ∧ (CV μ), fun σ as μ ov μ' => (((0 ≤ (iaI as 1) ∧ (iaI as 1) < μ 15 0 5) ∧ (0 ≤ (iaI as 2) ∧ (iaI as 2) ≤ 4)) → ov = some (vI 0) ∧ μ' 62 0 0 = (if (iaI as 2) = 0 then μ 16 0 (iaI as 1) else if (iaI as 2) = 1 then μ 17 0 (iaI as 1) else if (iaI as 2) = 2 then μ 18 0 (iaI as 1) else if (iaI as 2) = 3 then μ 19 0 (iaI as 1) else μ 20 0 (iaI as 1)) ∧ al μ' = al μ ∧ PB2 μ μ') ∧ ((¬ (0 ≤ (iaI as 1) ∧ (iaI as 1) < μ 15 0 5)) → ov = some (vI 1) ∧ μ' = μ) ∧ (((0 ≤ (iaI as 1) ∧ (iaI as 1) < μ 15 0 5) ∧ ¬ (0 ≤ (iaI as 2) ∧ (iaI as 2) ≤ 4)) → ov = some (vI 2) ∧ μ' = μ), fun σ as μ k => False)
def cd_L_loanOf : Cd := mkcd k_L_loanOf [] [] [(83, cl_X4_loanOf)] [] [(0, 10, 13, 1), (0, 10, 17, 2)] [] 5 1 2
set_option maxHeartbeats 4000000 in
set_option maxRecDepth 20000 in
theorem run_L_loanOf {ER : Option AV → Mm → Prop} {ET : Nat → Mm → Prop} (σ μ : Mm) (q w : Int) (hM : MR fam0 μ) (h_q : in32 q) (h_w : in32 w) (hP : CV μ) (hER : ∀ ov μ', ((((0 ≤ q ∧ q < μ 15 0 5) ∧ (0 ≤ w ∧ w ≤ 4)) → ov = some (vI 0) ∧ μ' 62 0 0 = (if w = 0 then μ 16 0 q else if w = 1 then μ 17 0 q else if w = 2 then μ 18 0 q else if w = 3 then μ 19 0 q else μ 20 0 q) ∧ al μ' = al μ ∧ PB2 μ μ') ∧ ((¬ (0 ≤ q ∧ q < μ 15 0 5)) → ov = some (vI 1) ∧ μ' = μ) ∧ (((0 ≤ q ∧ q < μ 15 0 5) ∧ ¬ (0 ≤ w ∧ w ≤ 4)) → ov = some (vI 2) ∧ μ' = μ)) → ER ov μ') : Run fam0 none cd_L_loanOf ER ET 0 0 [some (vR 0 0), some (vI q), some (vI w), some (vR 62 0), none] [] μ := by
  refine run_k 6 ?_
  show ∃ σ : Mm, cl_X4_loanOf.2.2.1 σ [vR 0 0, vI q, vI w] μ ∧ (∀ ov μ', cl_X4_loanOf.2.2.2.1 σ [vR 0 0, vI q, vI w] μ ov μ' → Run fam0 none cd_L_loanOf ER ET 8 2 [some (vR 0 0), some (vI q), some (vI w), some (vR 62 0), none] (ov.toList ++ [vI 0, vR 62 0]) μ') ∧ ∀ kx, cl_X4_loanOf.2.2.2.2 σ [vR 0 0, vI q, vI w] μ kx → thr cd_L_loanOf ET (Run fam0 none cd_L_loanOf ER ET) 5 2 [some (vR 0 0), some (vI q), some (vI w), some (vR 62 0), none] μ kx
  refine ⟨μ, ⟨rfl, (by first | assumption | exact ⟨by assumption, by assumption⟩)⟩, fun ov μ' hq => ?_, fun kx hk => ?_⟩
  · obtain ⟨hok, hov, hmu, hPB⟩ : ((0 ≤ q ∧ q < μ 15 0 5) ∧ (0 ≤ w ∧ w ≤ 4)) ∧ ov = some (vI (if w = 0 then μ 16 0 q else if w = 1 then μ 17 0 q else if w = 2 then μ 18 0 q else if w = 3 then μ 19 0 q else μ 20 0 q)) ∧ μ' = μ ∧ PB μ μ' := hq
    rw [hov]
    clear hov
    rename Mm => M1
    have hp2 := PB_2 hPB
    have hal : al M1 = al μ := by rw [hmu]
    show Run fam0 none cd_L_loanOf ER ET 8 2 [some (vR 0 0), some (vI q), some (vI w), some (vR 62 0), none] [vI (if w = 0 then μ 16 0 q else if w = 1 then μ 17 0 q else if w = 2 then μ 18 0 q else if w = 3 then μ 19 0 q else μ 20 0 q), vI 0, vR 62 0] M1
    refine run_k 5 ?_
    show (0 ≤ 0 ∧ 0 < 1) ∧ (ER (some (vI 0)) (st M1 62 0 0 (if w = 0 then μ 16 0 q else if w = 1 then μ 17 0 q else if w = 2 then μ 18 0 q else if w = 3 then μ 19 0 q else μ 20 0 q)))
    refine ⟨by omega, ?_⟩
    refine hER _ _ ⟨fun h => ⟨rfl, by rw [st_s], (hp2 _).1.trans hal, (hp2 _).2⟩, fun h => absurd h (by omega), fun h => absurd h (by omega)⟩
  · have hk : (kx = 1 ∧ ¬ (0 ≤ q ∧ q < μ 15 0 5)) ∨ (kx = 2 ∧ (0 ≤ q ∧ q < μ 15 0 5) ∧ ¬ (0 ≤ w ∧ w ≤ 4)) := hk
    rcases hk with ⟨rfl, hc⟩ | ⟨rfl, hc⟩
    · show ∀ xq : Nat, Run fam0 none cd_L_loanOf ER ET 13 2 [some (vR 0 0), some (vI q), some (vI w), some (vR 62 0), none] [vX xq] μ
      intro xq
      refine run_k 3 ?_
      show ER (some (vI 1)) μ
      refine hER _ _ ⟨fun h => absurd h (by omega), fun h => ⟨rfl, rfl⟩, fun h => absurd h (by omega)⟩
    · show ∀ xq : Nat, Run fam0 none cd_L_loanOf ER ET 17 2 [some (vR 0 0), some (vI q), some (vI w), some (vR 62 0), none] [vX xq] μ
      intro xq
      refine run_k 3 ?_
      show ER (some (vI 2)) μ
      refine hER _ _ ⟨fun h => absurd h (by omega), fun h => absurd h (by omega), fun h => ⟨rfl, rfl⟩⟩
theorem vw_L_83 : ∀ w ∈ ([.methodLink RL 83 yX4_loanOf, .instanceMethod yX4_loanOf, .selects RX4 yX4_loanOf yX4_loanOf, .initialized RX4, .code yX4_loanOf cX4_loanOf 3 (some .int)] : List Cond), w ∈ wm := wm_ps _ [660, 661, 662, 50, 663] (by decide +kernel)
set_option maxRecDepth 20000 in
theorem con_L_loanOf (l : Launch) (htr : l.stackTraces = false) (σ : Mm) : CON fam0 63 l yL_loanOf (Cond.codeWith yL_loanOf cL_loanOf 5 (some .int) [(0, 10, 13, 13), (0, 10, 17, 15)] :: wm) 8 126 2 (cl_L_loanOf.2.2.1 σ) (cl_L_loanOf.2.2.2.1 σ) (cl_L_loanOf.2.2.2.2 σ) :=
  con_ofH (cd := cd_L_loanOf) (own := RL) (rk := 1) (maxL := 5) (hh := [(0, 10, 13, 13), (0, 10, 17, 15)]) (sc_of htr (by decide) k_L_loanOf_ok (by decide +kernel) all_nil all_nil (all_cons ⟨RX4, yX4_loanOf, cX4_loanOf, 3, (some .int), 7, 104, 2, con_X4_loanOf l htr, rfl, vw_L_83, ⟨rfl, by decide, by decide, by decide +kernel⟩, ⟨by decide, by decide⟩, fun σ as μ h => ⟨0, 0, _, h.1, rfl, TX4, 17, rfl⟩⟩ all_nil) all_nil all_nil) rfl (by decide +kernel) rfl rfl rfl ⟨⟨rfl, rfl, rfl, by decide, by decide, wcl_13⟩, ⟨⟨rfl, rfl, rfl, by decide, by decide, wcl_15⟩, True.intro⟩⟩ (fun _ => rfl) (fun as μ hs => by rw [hs.1]; exact Nat.le_of_ble_eq_true rfl)
    (fun as μ hs hM hrg => by
      have hs1 := hs.1
      have hmem : ∀ v, v ∈ ([vR 0 0, vI (iaI as 1), vI (iaI as 2), vR 62 0] : List AV) → rg fam0 v := by rw [← hs1]; exact hrg
      have key := run_L_loanOf (ER := cl_L_loanOf.2.2.2.1 σ as μ) (ET := fun k μ' => cl_L_loanOf.2.2.2.2 σ as μ k ∧ μ' = μ) σ μ (iaI as 1) (iaI as 2) hM (hmem (vI (iaI as 1)) (by simp)) (hmem (vI (iaI as 2)) (by simp)) hs.2 (fun ov μ' h => h)
      have e : entL as 5 = [some (vR 0 0), some (vI (iaI as 1)), some (vI (iaI as 2)), some (vR 62 0), none] := by rw [hs1]; rfl
      rw [e]; exact key)
/-! ### the law's locateOf -/
def cl_L_locateOf : Cl := (4, 2, fun σ as μ => as = [vR 0 0, vI (iaI as 1), vI (iaI as 2), vR 62 0] ∧ (CV μ), fun σ as μ ov μ' => (((0 ≤ (iaI as 1) ∧ (iaI as 1) < μ 21 0 5) ∧ (0 ≤ (iaI as 2) ∧ (iaI as 2) ≤ 3)) → ov = some (vI 0) ∧ μ' 62 0 0 = (if (iaI as 2) = 0 then μ 22 0 (iaI as 1) else if (iaI as 2) = 1 then μ 23 0 (iaI as 1) else if (iaI as 2) = 2 then μ 24 0 (iaI as 1) else holdsF (al μ) (iaI as 1)) ∧ al μ' = al μ ∧ PB2 μ μ') ∧ ((¬ (0 ≤ (iaI as 1) ∧ (iaI as 1) < μ 21 0 5)) → ov = some (vI 1) ∧ μ' = μ) ∧ (((0 ≤ (iaI as 1) ∧ (iaI as 1) < μ 21 0 5) ∧ ¬ (0 ≤ (iaI as 2) ∧ (iaI as 2) ≤ 3)) → ov = some (vI 2) ∧ μ' = μ), fun σ as μ k => False)
def cd_L_locateOf : Cd := mkcd k_L_locateOf [] [] [(86, cl_X4_locateOf)] [] [(0, 10, 13, 1), (0, 10, 17, 2)] [] 5 1 2
set_option maxHeartbeats 4000000 in
set_option maxRecDepth 20000 in
theorem run_L_locateOf {ER : Option AV → Mm → Prop} {ET : Nat → Mm → Prop} (σ μ : Mm) (q w : Int) (hM : MR fam0 μ) (h_q : in32 q) (h_w : in32 w) (hP : CV μ) (hER : ∀ ov μ', ((((0 ≤ q ∧ q < μ 21 0 5) ∧ (0 ≤ w ∧ w ≤ 3)) → ov = some (vI 0) ∧ μ' 62 0 0 = (if w = 0 then μ 22 0 q else if w = 1 then μ 23 0 q else if w = 2 then μ 24 0 q else holdsF (al μ) q) ∧ al μ' = al μ ∧ PB2 μ μ') ∧ ((¬ (0 ≤ q ∧ q < μ 21 0 5)) → ov = some (vI 1) ∧ μ' = μ) ∧ (((0 ≤ q ∧ q < μ 21 0 5) ∧ ¬ (0 ≤ w ∧ w ≤ 3)) → ov = some (vI 2) ∧ μ' = μ)) → ER ov μ') : Run fam0 none cd_L_locateOf ER ET 0 0 [some (vR 0 0), some (vI q), some (vI w), some (vR 62 0), none] [] μ := by
  refine run_k 6 ?_
  show ∃ σ : Mm, cl_X4_locateOf.2.2.1 σ [vR 0 0, vI q, vI w] μ ∧ (∀ ov μ', cl_X4_locateOf.2.2.2.1 σ [vR 0 0, vI q, vI w] μ ov μ' → Run fam0 none cd_L_locateOf ER ET 8 2 [some (vR 0 0), some (vI q), some (vI w), some (vR 62 0), none] (ov.toList ++ [vI 0, vR 62 0]) μ') ∧ ∀ kx, cl_X4_locateOf.2.2.2.2 σ [vR 0 0, vI q, vI w] μ kx → thr cd_L_locateOf ET (Run fam0 none cd_L_locateOf ER ET) 5 2 [some (vR 0 0), some (vI q), some (vI w), some (vR 62 0), none] μ kx
  refine ⟨μ, ⟨rfl, (by first | assumption | exact ⟨by assumption, by assumption⟩)⟩, fun ov μ' hq => ?_, fun kx hk => ?_⟩
  · obtain ⟨hok, hov, hmu, hPB⟩ : ((0 ≤ q ∧ q < μ 21 0 5) ∧ (0 ≤ w ∧ w ≤ 3)) ∧ ov = some (vI (if w = 0 then μ 22 0 q else if w = 1 then μ 23 0 q else if w = 2 then μ 24 0 q else holdsF (al μ) q)) ∧ μ' = μ ∧ PB μ μ' := hq
    rw [hov]
    clear hov
    rename Mm => M1
    have hp2 := PB_2 hPB
    have hal : al M1 = al μ := by rw [hmu]
    show Run fam0 none cd_L_locateOf ER ET 8 2 [some (vR 0 0), some (vI q), some (vI w), some (vR 62 0), none] [vI (if w = 0 then μ 22 0 q else if w = 1 then μ 23 0 q else if w = 2 then μ 24 0 q else holdsF (al μ) q), vI 0, vR 62 0] M1
    refine run_k 5 ?_
    show (0 ≤ 0 ∧ 0 < 1) ∧ (ER (some (vI 0)) (st M1 62 0 0 (if w = 0 then μ 22 0 q else if w = 1 then μ 23 0 q else if w = 2 then μ 24 0 q else holdsF (al μ) q)))
    refine ⟨by omega, ?_⟩
    refine hER _ _ ⟨fun h => ⟨rfl, by rw [st_s], (hp2 _).1.trans hal, (hp2 _).2⟩, fun h => absurd h (by omega), fun h => absurd h (by omega)⟩
  · have hk : (kx = 1 ∧ ¬ (0 ≤ q ∧ q < μ 21 0 5)) ∨ (kx = 2 ∧ (0 ≤ q ∧ q < μ 21 0 5) ∧ ¬ (0 ≤ w ∧ w ≤ 3)) := hk
    rcases hk with ⟨rfl, hc⟩ | ⟨rfl, hc⟩
    · show ∀ xq : Nat, Run fam0 none cd_L_locateOf ER ET 13 2 [some (vR 0 0), some (vI q), some (vI w), some (vR 62 0), none] [vX xq] μ
      intro xq
      refine run_k 3 ?_
      show ER (some (vI 1)) μ
      refine hER _ _ ⟨fun h => absurd h (by omega), fun h => ⟨rfl, rfl⟩, fun h => absurd h (by omega)⟩
    · show ∀ xq : Nat, Run fam0 none cd_L_locateOf ER ET 17 2 [some (vR 0 0), some (vI q), some (vI w), some (vR 62 0), none] [vX xq] μ
      intro xq
      refine run_k 3 ?_
      show ER (some (vI 2)) μ
      refine hER _ _ ⟨fun h => absurd h (by omega), fun h => absurd h (by omega), fun h => ⟨rfl, rfl⟩⟩
theorem vw_L_86 : ∀ w ∈ ([.methodLink RL 86 yX4_locateOf, .instanceMethod yX4_locateOf, .selects RX4 yX4_locateOf yX4_locateOf, .initialized RX4, .code yX4_locateOf cX4_locateOf 3 (some .int)] : List Cond), w ∈ wm := wm_ps _ [672, 673, 674, 50, 675] (by decide +kernel)
set_option maxRecDepth 20000 in
theorem con_L_locateOf (l : Launch) (htr : l.stackTraces = false) (σ : Mm) : CON fam0 63 l yL_locateOf (Cond.codeWith yL_locateOf cL_locateOf 5 (some .int) [(0, 10, 13, 13), (0, 10, 17, 15)] :: wm) 8 126 2 (cl_L_locateOf.2.2.1 σ) (cl_L_locateOf.2.2.2.1 σ) (cl_L_locateOf.2.2.2.2 σ) :=
  con_ofH (cd := cd_L_locateOf) (own := RL) (rk := 1) (maxL := 5) (hh := [(0, 10, 13, 13), (0, 10, 17, 15)]) (sc_of htr (by decide) k_L_locateOf_ok (by decide +kernel) all_nil all_nil (all_cons ⟨RX4, yX4_locateOf, cX4_locateOf, 3, (some .int), 7, 104, 2, con_X4_locateOf l htr, rfl, vw_L_86, ⟨rfl, by decide, by decide, by decide +kernel⟩, ⟨by decide, by decide⟩, fun σ as μ h => ⟨0, 0, _, h.1, rfl, TX4, 17, rfl⟩⟩ all_nil) all_nil all_nil) rfl (by decide +kernel) rfl rfl rfl ⟨⟨rfl, rfl, rfl, by decide, by decide, wcl_13⟩, ⟨⟨rfl, rfl, rfl, by decide, by decide, wcl_15⟩, True.intro⟩⟩ (fun _ => rfl) (fun as μ hs => by rw [hs.1]; exact Nat.le_of_ble_eq_true rfl)
    (fun as μ hs hM hrg => by
      have hs1 := hs.1
      have hmem : ∀ v, v ∈ ([vR 0 0, vI (iaI as 1), vI (iaI as 2), vR 62 0] : List AV) → rg fam0 v := by rw [← hs1]; exact hrg
      have key := run_L_locateOf (ER := cl_L_locateOf.2.2.2.1 σ as μ) (ET := fun k μ' => cl_L_locateOf.2.2.2.2 σ as μ k ∧ μ' = μ) σ μ (iaI as 1) (iaI as 2) hM (hmem (vI (iaI as 1)) (by simp)) (hmem (vI (iaI as 2)) (by simp)) hs.2 (fun ov μ' h => h)
      have e : entL as 5 = [some (vR 0 0), some (vI (iaI as 1)), some (vI (iaI as 2)), some (vR 62 0), none] := by rw [hs1]; rfl
      rw [e]; exact key)
/-! ### the law's count -/
def cl_L_count : Cl := (3, 1, fun σ as μ => as = [vR 0 0, vI (iaI as 1), vR 62 0] ∧ (CV μ), fun σ as μ ov μ' => (((0 ≤ (iaI as 1) ∧ (iaI as 1) ≤ 4)) → ov = some (vI 0) ∧ μ' 62 0 0 = (if (iaI as 1) = 0 then μ 15 0 5 else if (iaI as 1) = 1 then opF (al μ) (μ 15 0 5).toNat else if (iaI as 1) = 2 then μ 0 0 15 else if (iaI as 1) = 3 then μ 0 0 16 else mtF μ) ∧ al μ' = al μ ∧ PB2 μ μ') ∧ ((¬ (0 ≤ (iaI as 1) ∧ (iaI as 1) ≤ 4)) → ov = some (vI 1) ∧ μ' = μ), fun σ as μ k => False)
def cd_L_count : Cd := mkcd k_L_count [] [] [(89, cl_X4_count)] [] [(0, 8, 11, 2)] [] 4 1 1
set_option maxHeartbeats 4000000 in
set_option maxRecDepth 20000 in
theorem run_L_count {ER : Option AV → Mm → Prop} {ET : Nat → Mm → Prop} (σ μ : Mm) (w : Int) (hM : MR fam0 μ) (h_w : in32 w) (hP : CV μ) (hER : ∀ ov μ', ((((0 ≤ w ∧ w ≤ 4)) → ov = some (vI 0) ∧ μ' 62 0 0 = (if w = 0 then μ 15 0 5 else if w = 1 then opF (al μ) (μ 15 0 5).toNat else if w = 2 then μ 0 0 15 else if w = 3 then μ 0 0 16 else mtF μ) ∧ al μ' = al μ ∧ PB2 μ μ') ∧ ((¬ (0 ≤ w ∧ w ≤ 4)) → ov = some (vI 1) ∧ μ' = μ)) → ER ov μ') : Run fam0 none cd_L_count ER ET 0 0 [some (vR 0 0), some (vI w), some (vR 62 0), none] [] μ := by
  refine run_k 5 ?_
  show ∃ σ : Mm, cl_X4_count.2.2.1 σ [vR 0 0, vI w] μ ∧ (∀ ov μ', cl_X4_count.2.2.2.1 σ [vR 0 0, vI w] μ ov μ' → Run fam0 none cd_L_count ER ET 7 1 [some (vR 0 0), some (vI w), some (vR 62 0), none] (ov.toList ++ [vI 0, vR 62 0]) μ') ∧ ∀ kx, cl_X4_count.2.2.2.2 σ [vR 0 0, vI w] μ kx → thr cd_L_count ET (Run fam0 none cd_L_count ER ET) 4 1 [some (vR 0 0), some (vI w), some (vR 62 0), none] μ kx
  refine ⟨μ, ⟨rfl, (by first | assumption | exact ⟨by assumption, by assumption⟩)⟩, fun ov μ' hq => ?_, fun kx hk => ?_⟩
  · obtain ⟨hok, hov, hmu, hPB⟩ : ((0 ≤ w ∧ w ≤ 4)) ∧ ov = some (vL (if w = 0 then μ 15 0 5 else if w = 1 then opF (al μ) (μ 15 0 5).toNat else if w = 2 then μ 0 0 15 else if w = 3 then μ 0 0 16 else mtF μ)) ∧ μ' = μ ∧ PB μ μ' := hq
    rw [hov]
    clear hov
    rename Mm => M1
    have hp2 := PB_2 hPB
    have hal : al M1 = al μ := by rw [hmu]
    show Run fam0 none cd_L_count ER ET 7 1 [some (vR 0 0), some (vI w), some (vR 62 0), none] [vL (if w = 0 then μ 15 0 5 else if w = 1 then opF (al μ) (μ 15 0 5).toNat else if w = 2 then μ 0 0 15 else if w = 3 then μ 0 0 16 else mtF μ), vI 0, vR 62 0] M1
    refine run_k 4 ?_
    show (0 ≤ 0 ∧ 0 < 1) ∧ (ER (some (vI 0)) (st M1 62 0 0 (if w = 0 then μ 15 0 5 else if w = 1 then opF (al μ) (μ 15 0 5).toNat else if w = 2 then μ 0 0 15 else if w = 3 then μ 0 0 16 else mtF μ)))
    refine ⟨by omega, ?_⟩
    refine hER _ _ ⟨fun h => ⟨rfl, by rw [st_s], (hp2 _).1.trans hal, (hp2 _).2⟩, fun h => absurd h (by omega)⟩
  · have hk : (kx = 2 ∧ ¬ (0 ≤ w ∧ w ≤ 4)) := hk
    rcases hk with ⟨rfl, hc⟩
    · show ∀ xq : Nat, Run fam0 none cd_L_count ER ET 11 1 [some (vR 0 0), some (vI w), some (vR 62 0), none] [vX xq] μ
      intro xq
      refine run_k 3 ?_
      show ER (some (vI 1)) μ
      refine hER _ _ ⟨fun h => absurd h (by omega), fun h => ⟨rfl, rfl⟩⟩
theorem vw_L_89 : ∀ w ∈ ([.methodLink RL 89 yX4_count, .instanceMethod yX4_count, .selects RX4 yX4_count yX4_count, .initialized RX4, .code yX4_count cX4_count 2 (some .long)] : List Cond), w ∈ wm := wm_ps _ [679, 680, 681, 50, 682] (by decide +kernel)
set_option maxRecDepth 20000 in
theorem con_L_count (l : Launch) (htr : l.stackTraces = false) (σ : Mm) : CON fam0 63 l yL_count (Cond.codeWith yL_count cL_count 4 (some .int) [(0, 8, 11, 15)] :: wm) 8 125 1 (cl_L_count.2.2.1 σ) (cl_L_count.2.2.2.1 σ) (cl_L_count.2.2.2.2 σ) :=
  con_ofH (cd := cd_L_count) (own := RL) (rk := 1) (maxL := 4) (hh := [(0, 8, 11, 15)]) (sc_of htr (by decide) k_L_count_ok (by decide +kernel) all_nil all_nil (all_cons ⟨RX4, yX4_count, cX4_count, 2, (some .long), 7, 104, 1, con_X4_count l htr, rfl, vw_L_89, ⟨rfl, by decide, by decide, by decide +kernel⟩, ⟨by decide, by decide⟩, fun σ as μ h => ⟨0, 0, _, h.1, rfl, TX4, 17, rfl⟩⟩ all_nil) all_nil all_nil) rfl (by decide +kernel) rfl rfl rfl ⟨⟨rfl, rfl, rfl, by decide, by decide, wcl_15⟩, True.intro⟩ (fun _ => rfl) (fun as μ hs => by rw [hs.1]; exact Nat.le_of_ble_eq_true rfl)
    (fun as μ hs hM hrg => by
      have hs1 := hs.1
      have hmem : ∀ v, v ∈ ([vR 0 0, vI (iaI as 1), vR 62 0] : List AV) → rg fam0 v := by rw [← hs1]; exact hrg
      have key := run_L_count (ER := cl_L_count.2.2.2.1 σ as μ) (ET := fun k μ' => cl_L_count.2.2.2.2 σ as μ k ∧ μ' = μ) σ μ (iaI as 1) hM (hmem (vI (iaI as 1)) (by simp)) hs.2 (fun ov μ' h => h)
      have e : entL as 4 = [some (vR 0 0), some (vI (iaI as 1)), some (vR 62 0), none] := by rw [hs1]; rfl
      rw [e]; exact key)
