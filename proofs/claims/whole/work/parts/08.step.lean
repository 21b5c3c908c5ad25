theorem ald_e {fam : Nat → Fam} {kd : Nat} {S : List AV} {f : Nat → Int → Int → List AV → Prop} (h : ald fam kd S f) : ∃ i g r S', S = vI i :: vR g r :: S' ∧ (fam g).1 = kd ∧ (0 ≤ i ∧ i < ((fam g).2.2.1 : Int)) ∧ f g r i S' := by
  obtain ⟨i, S1, rfl, h⟩ := pI_e h
  obtain ⟨g, r, S2, rfl, h⟩ := pR_e h
  obtain ⟨h1, h2⟩ := bT_e h
  exact ⟨i, g, r, S2, rfl, Nat.eq_of_beq_eq_true h1, h2⟩
theorem elr_0 {fam : Nat → Fam} {ad : Nat → Nat → Nat} {cy : Nat → ClassId} {f : Nat} {w : Int → Int} (h : (fam f).1 = 0) : elr fam ad cy f w = .inr ((fam f).2.2.1, fsv ad w 0 (fam f).2.2.2.2) := by unfold elr; rw [h]; rfl
theorem elr_1 {fam : Nat → Fam} {ad : Nat → Nat → Nat} {cy : Nat → ClassId} {f : Nat} {w : Int → Int} (h : (fam f).1 = 1) : elr fam ad cy f w = .inl (cy 1, (fam f).2.2.1, .inl (fun j => Int32.ofInt (w j))) := by unfold elr; rw [h]; rfl
theorem elr_2 {fam : Nat → Fam} {ad : Nat → Nat → Nat} {cy : Nat → ClassId} {f : Nat} {w : Int → Int} (h : (fam f).1 = 2) : elr fam ad cy f w = .inl (cy 2, (fam f).2.2.1, .inr (.inl (fun j => Int64.ofInt (w j)))) := by unfold elr; rw [h]; rfl
theorem elr_3 {fam : Nat → Fam} {ad : Nat → Nat → Nat} {cy : Nat → ClassId} {f : Nat} {w : Int → Int} (h : (fam f).1 = 3) : elr fam ad cy f w = .inl (cy 3, (fam f).2.2.1, .inl (fun j => Int32.ofInt (w j))) := by unfold elr; rw [h]; rfl
theorem elr_4 {fam : Nat → Fam} {ad : Nat → Nat → Nat} {cy : Nat → ClassId} {f : Nat} {w : Int → Int} (h : (fam f).1 = 4) : elr fam ad cy f w = .inl (cy 4, (fam f).2.2.1, .inr (.inr (.inr (.inr (fun j => some (ad (fam f).2.2.2.1 j)))))) := by unfold elr; rw [h]; rfl
theorem nI_of0 {i : Int} (h : 0 ≤ i) : ∃ n : Nat, i = (n : Int) := Int.eq_ofNat_of_zero_le h
theorem upd_of (w : Int → Int) (i : Nat) (v : Int) : upd (fun j : Nat => Int32.ofInt (w j)) i (Int32.ofInt v) = fun j : Nat => Int32.ofInt ((fun j : Int => if j = (i : Int) then v else w j) j) := by
  funext j
  unfold upd
  by_cases h : j = i
  · subst h; simp
  · rw [if_neg h]
    have : ¬ ((j : Int) = (i : Int)) := by omega
    simp [this]
theorem updL_of (w : Int → Int) (i : Nat) (v : Int) : vp_updL (fun j : Nat => Int64.ofInt (w j)) i (Int64.ofInt v) = fun j : Nat => Int64.ofInt ((fun j : Int => if j = (i : Int) then v else w j) j) := by
  funext j
  unfold vp_updL
  by_cases h : j = i
  · subst h; simp
  · rw [if_neg h]
    have : ¬ ((j : Int) = (i : Int)) := by omega
    simp [this]
theorem catS_sum {ad : Nat → Nat → Nat} : ∀ (S : List AV), ((S.map (cv ad)).map fun v => v.category).sum = catS S
  | [] => rfl
  | v :: S => by
    show (cv ad v).category + ((S.map (cv ad)).map fun v => v.category).sum = (bif is1 v then 1 else 2) + catS S
    rw [catS_sum S]
    rcases v with x | x | ⟨f, r⟩ | a <;> rfl
theorem rg_cons {fam : Nat → Fam} {v : AV} {S : List AV} (h : rg fam v) (hS : ∀ w ∈ S, rg fam w) : ∀ w ∈ v :: S, rg fam w := fun w hw => (List.mem_cons.mp hw).elim (fun e => by rw [e]; exact h) (hS w)
theorem rg_hd {fam : Nat → Fam} {v : AV} {S : List AV} (hS : ∀ w ∈ v :: S, rg fam w) : rg fam v := hS v List.mem_cons_self
theorem rg_tl {fam : Nat → Fam} {v : AV} {S : List AV} (hS : ∀ w ∈ v :: S, rg fam w) : ∀ w ∈ S, rg fam w := fun w hw => hS w (List.mem_cons_of_mem _ hw)
/-- an entry of the table that k passes -/
def pasz (own : String) (s : State) (args : Array Value) (pc k : Nat) (z : ExceptionTableEntry) : Prop := covers z pc = false ∨ (z.catchType ≠ 0 ∧ ∃ nm : String, (Cond.classLink own z.catchType nm).before args s = true ∧ va_Nc (exn k) nm s)
theorem hrel_of {own : String} {s : State} {args : Array Value} {pc k : Nat} (hk : k = 1 ∨ k = 2 ∨ k = 3) (hN : ∀ j k : Nat, exn j ≠ exn k → va_Nc (exn j) (exn k) s) : ∀ (hs : List Hn) (zs pre : List ExceptionTableEntry), HRel own s args hs zs → (∀ z ∈ pre, pasz own s args pc k z) →
    match fH pc k hs with
    | some h => ∃ (pre' : List ExceptionTableEntry) (x : ExceptionTableEntry) (suf : List ExceptionTableEntry), pre ++ zs = pre' ++ x :: suf ∧ (∀ z ∈ pre', pasz own s args pc k z) ∧ covers x pc = true ∧ x.catchType ≠ 0 ∧ (Cond.classLink own x.catchType (exn k)).before args s = true ∧ x.handlerPc = h
    | none => ∀ z ∈ pre ++ zs, pasz own s args pc k z
  | [], [], pre, _, hp => by
    show ∀ z ∈ pre ++ [], _
    rw [List.append_nil]; exact hp
  | [], _ :: _, _, h, _ => h.elim
  | _ :: _, [], _, h, _ => h.elim
  | (a, b, h, j) :: hs, z :: zs, pre, ⟨⟨h1, h2, h3, h4, h5, h6⟩, hr⟩, hp => by
    unfold fH
    cases hc : (Nat.ble a pc && Nat.blt pc b && Nat.beq j k) with
    | true =>
      simp only [Bool.and_eq_true] at hc
      have e : j = k := Nat.eq_of_beq_eq_true hc.2
      subst e
      refine ⟨pre, z, zs, rfl, hp, ?_, h4, h6, h3⟩
      have c1 : a ≤ pc := Nat.le_of_ble_eq_true hc.1.1
      have c2 : pc < b := Nat.le_of_ble_eq_true hc.1.2
      simp [covers, h1, h2, c1, c2]
    | false =>
      have hz : pasz own s args pc k z := by
        by_cases hcov : covers z pc = true
        · refine Or.inr ⟨h4, exn j, h6, hN k j ?_⟩
          have hjk : j ≠ k := by
            intro e
            subst e
            simp only [covers, h1, h2, Bool.and_eq_true, decide_eq_true_eq] at hcov
            have c1 : Nat.ble a pc = true := Nat.ble_eq_true_of_le hcov.1
            have c2 : Nat.blt pc b = true := Nat.ble_eq_true_of_le hcov.2
            have c3 : Nat.beq j j = true := Nat.beq_refl j
            rw [c1, c2, c3] at hc
            cases hc
          rcases hk with rfl | rfl | rfl <;> rcases h5 with rfl | rfl | rfl <;> first | (exact absurd rfl hjk) | (unfold exn; decide)
        · exact Or.inl (by simpa using hcov)
      have := hrel_of hk hN hs zs (pre ++ [z]) hr (fun w hw => (List.mem_append.mp hw).elim (hp w) (fun q => by rw [List.mem_singleton.mp q]; exact hz))
      rw [List.append_assoc] at this
      exact this
section
variable {fam : Nat → Fam} {N : Nat} {ad : Nat → Nat → Nat} {cy : Nat → ClassId} {D : va_G} {sa : Nat → Nat} {scr : Option (Nat × Int × (Int → Int))} {cd : Cd} {ER : Option AV → Mm → Prop} {ET : Nat → Mm → Prop}
variable {p : Program} {l : Launch} {e : Env} {R : Room} {s : State} {m : MethodId} {args : Array Value} {below : List Frame} {meth : Method} {c : Code} {Q : State → Prop}
/-- behind a call, of any kind of answer -/
theorem callA {H : Heap} {locs : List Loc} {cells slots mc ms pc : Nat} {ls : Array Slot} {st0 : List Value} {rest : List AV} {A0 A1 free : Nat → Prop} {H0 : Heap} {a : Array Value} {post : Option AV → Mm → Prop} {pT : Nat → Mm → Prop} (hr : vx_Run p l e R s m args below meth c H locs cells slots mc ms (F0 m pc ls st0) (rest.map (cv ad)) (QcA fam N ad cy D post A1 a) (XcA fam N ad cy D pT A1) free)
    (hS : va_S A0 H0 H locs) (hA : ∀ q, q < H.size → A1 q → A0 q) (hf : ∀ q, free q → A0 q)
    (kx : ∀ (k : Nat) (ce : Cell) (q9 : Addr) (μ' : Mm) (H1 : Heap) (locs1 : List Loc), (k = 1 ∨ k = 2 ∨ k = 3) → pT k μ' → va_P D vwCl (wl fam N ad cy μ') H1 → MR fam μ' → va_S A0 H0 H1 locs1 → H1[q9]? = some ce → ce.vm = .none → s.vm.findClass (exn k) = some ce.cls → vx_W p l e R s m args below meth c H1 locs1 (cells + mc) (slots + ms) Q (F0 m pc ls (rest.map (cv ad))) q9)
    (kk : ∀ (ov : Option AV) (μ' : Mm) (H1 : Heap) (locs1 : List Loc), post ov μ' → (∀ v, ov = some v → rg fam v) → va_P D vwCl (wl fam N ad cy μ') H1 → MR fam μ' → va_S A0 H0 H1 locs1 → W p l e R s m args below meth c H1 locs1 (cells + mc) (slots + ms) Q (F0 m (pc + 3) ls ((ov.toList ++ rest).map (cv ad)))) :
    W p l e R s m args below meth c H locs cells slots Q (F0 m pc ls st0) := by
  intro T hT X
  rcases hr T hT X with ⟨v, st₀, t, T', Lc, h0, X', hLc, e1, e2, ⟨⟨ov, μ', hv, hp, hrg, hP', hM'⟩, hF⟩, hst⟩ | ⟨q, st₀, t, T', Lc, E, ce, h0, X', hLc, e1, e2, ⟨⟨k, μ', hE, hk, hp, hP', hM'⟩, hF⟩, hce, hcv, hcl, hst⟩
  · cases hv
    obtain ⟨k1, k2, k3⟩ := vx_keep h0 e1 hS hA hf hLc hF
    obtain ⟨t2, a1, b1⟩ := kk ov μ' T'.heap (locs ++ Lc) hp hrg (by rw [e1]; exact hP') hM' k3 T' rfl X'
    refine ⟨t2, hst t2 ?_, b1⟩
    have ee : (ov.toList ++ rest).map (cv ad) = (ov.map (cv ad)).toList ++ rest.map (cv ad) := by cases ov <;> rfl
    rw [ee] at a1
    exact a1
  · subst hE
    obtain ⟨k1, k2, k3⟩ := vx_keep h0 e1 hS hA hf hLc hF
    obtain ⟨t2, a1, b1⟩ := kx k ce q μ' T'.heap (locs ++ Lc) hk hp (by rw [e1]; exact hP') hM' k3 (by rw [e1]; exact hce) hcv hcl T' rfl X'
    exact ⟨t2, hst.trans a1, b1⟩
end
