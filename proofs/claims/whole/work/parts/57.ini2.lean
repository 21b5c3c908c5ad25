def wsX2u (cy : Nat → ClassId) (h0 : Nat) (u : Nat → Nat) : va_W := [(h0, .inr (2, [.ref (u 0), .ref (u 1), .ref (u 2), .ref (u 3), .ref (u 4), .int 0])), (u 0, .inl (cy 1, 60, .inl fun _ => 0)), (u 1, .inl (cy 1, 60, .inl fun _ => 0)), (u 2, .inl (cy 1, 60, .inl fun _ => 0)), (u 3, .inl (cy 1, 60, .inl fun _ => 0)), (u 4, .inl (cy 3, 60, .inl fun _ => 0))]
set_option maxHeartbeats 8000000 in
set_option maxRecDepth 100000 in
theorem c_X2_init (l : Launch) (D : va_G) (cy : Nat → ClassId) (h0 sz : Nat) : Met l yX2_init (Cond.code yX2_init cX2_init 1 none :: wm) ({ frames := 1, cells := 5, slots := 300, locals := 12 }) (va_Pc [.ref h0] (fun U => U.heap.size = sz ∧ va_P D vwCl [(h0, .inr (2, [.null, .null, .null, .null, .null, .int 0]))] U.heap ∧ va_K D vwCl (TY cy) U ∧ va_D (fun _ => True) [(h0, .inr (2, [.null, .null, .null, .null, .null, .int 0]))] ∧ IW U)) (va_Qv (fun _ : Nat → Nat => True) (fun u t => va_P D vwCl (wsX2u cy h0 u) t.heap ∧ va_D (va_A [(h0, .inr (2, [.null, .null, .null, .null, .null, .int 0]))] sz) (wsX2u cy h0 u)) (va_A [(h0, .inr (2, [.null, .null, .null, .null, .null, .int 0]))] sz)) 5 300 (va_A [(h0, .inr (2, [.null, .null, .null, .null, .null, .int 0]))] sz) := by
  refine Met.ofW (cc := cX2_init) (maxL := 1) (ret := none) (by decide) rfl ?_
  intro p e s m args below meth c s₁ B hml hv
  obtain ⟨rfl, hsz, hP, hK, hD0, hI⟩ := hv
  have hx := B.exec
  have hb := B.bytes
  have hr := B.returns
  have hts := atoms_spec (ws := Cond.code yX2_init cX2_init 1 none :: wm) B.pre
  have hw : ∀ (w : Cond) (i : Nat), (lw_tbl[i]? = some w ∧ goodWord w = true) → w.before #[Value.ref h0] s = true := fun w i h => hts w (List.mem_cons_of_mem _ (wm_p1 w i h))
  have hown : s.vm.findClass RX2 = some m.cls := findClass_of_methodNamed B.named
  have hin : meth.name = "<init>" := (name_of_methodNamed B.named B.method).1
  subst hsz
  have hD := hD0.self (sz := s.heap.size)
  generalize hAe : va_A [(h0, .inr (2, [.null, .null, .null, .null, .null, .int 0]))] s.heap.size = A at hD ⊢
  have hA : ∀ q : Nat, s.heap.size ≤ q → A q := fun q h => by rw [← hAe]; exact Or.inr h
  have hS : va_S A s.heap s.heap [] := va_S.rf
  have hP : va_P D vwCl [(h0, .inr (2, [.null, .null, .null, .null, .null, .int 0]))] s.heap := hP
  have hl := lv_entry ([.ref h0]) (n := 1) (Nat.le_of_ble_eq_true rfl)
  rw [lg_entry_eq]
  generalize (lg_sl ([.ref h0]) ++ List.replicate (1 - (lg_sl ([.ref h0])).length) Slot.unset).toArray = ls at hl ⊢
  generalize hHe : s.heap = H at hP hS ⊢
  have hS : va_S A s.heap H [] := by rw [hHe]; exact hS
  have hl : lv_has ls 1 [(0, .ref h0)] := hl
  refine lv_aload_n hx hb (show decode cX2_init 0 = .ok (.aload_n 0, 1) by decide +kernel) rfl (lv_at hl 0 rfl) ?_
  refine W.objInit hx hb hown (hw (.methodLink RX2 3 Lib.objectInit) 112 (by decide +kernel)) (hw (.instanceMethod Lib.objectInit) 69 (by decide +kernel)) (hw (.code Lib.objectInit ⟨#[177]⟩ 1 none) 70 (by decide +kernel)) rfl (by rw [hml]; exact hl.1) rfl (show decode cX2_init 1 = .ok (.invokespecial 3, 3) by decide +kernel) (Nat.le_of_ble_eq_true rfl) (Nat.le_of_ble_eq_true rfl) ?_
  refine W.eq (g2 := F0 m 4 ls []) rfl ?_
  refine lv_aload_n hx hb (show decode cX2_init 4 = .ok (.aload_n 0, 1) by decide +kernel) rfl (lv_at hl 0 rfl) ?_
  refine lv_bipush (v := 60) hx hb (show decode cX2_init 5 = .ok (.bipush 60, 2) by decide +kernel) (by decide +kernel) ?_
  refine ini_i (cy := cy) hx hb 60 (hw (.arrayClass .int) 104 (by decide +kernel)) hK hP hD hS hA n_60.1 n_60.2 (Nat.le_of_ble_eq_true rfl) (Nat.le_of_ble_eq_true rfl) (Nat.le_of_ble_eq_true rfl) (show decode cX2_init 7 = .ok (.newarray .int, 2) by decide +kernel) (fun q1 H hP hD hS => ?_)
  refine W.widen (k := 1) (n := 60) (Nat.le_of_ble_eq_true rfl) (Nat.le_of_ble_eq_true rfl) ?_
  have hP : va_P D vwCl [(h0, .inr (2, [.null, .null, .null, .null, .null, .int 0])), (q1, .inl (cy 1, 60, .inl fun _ => 0))] H := hP
  have hD : va_D A [(h0, .inr (2, [.null, .null, .null, .null, .null, .int 0])), (q1, .inl (cy 1, 60, .inl fun _ => 0))] := hD
  refine va_putF (D := D) (ci := 2) (v := .ref q1) (ty := .array .int) (C := RX2) (T := TX2) (N := 6) hx hb hts (fun w h => List.mem_cons_of_mem _ (inwX2 w h)) tyX2 tyX2_ok nmX2 hown hK hP hD hS 0 rfl rfl 0 (by decide) (hw (.fieldLink RX2 9 "Primeborrow$Locates" "client" "[I") 113 (by decide +kernel)) (fun _ h9 => h9) rfl hin rfl (by decide +kernel) rfl rfl (Nat.le_of_ble_eq_true rfl) (show decode cX2_init 9 = .ok (.putfield 9, 3) by decide +kernel) (fun H locs hP hD hS => ?_)
  have hP : va_P D vwCl [(h0, .inr (2, [.ref q1, .null, .null, .null, .null, .int 0])), (q1, .inl (cy 1, 60, .inl fun _ => 0))] H := hP
  have hD : va_D A [(h0, .inr (2, [.ref q1, .null, .null, .null, .null, .int 0])), (q1, .inl (cy 1, 60, .inl fun _ => 0))] := hD
  refine lv_aload_n hx hb (show decode cX2_init 12 = .ok (.aload_n 0, 1) by decide +kernel) rfl (lv_at hl 0 rfl) ?_
  refine lv_bipush (v := 60) hx hb (show decode cX2_init 13 = .ok (.bipush 60, 2) by decide +kernel) (by decide +kernel) ?_
  refine ini_i (cy := cy) hx hb 60 (hw (.arrayClass .int) 104 (by decide +kernel)) hK hP hD hS hA n_60.1 n_60.2 (Nat.le_of_ble_eq_true rfl) (Nat.le_of_ble_eq_true rfl) (Nat.le_of_ble_eq_true rfl) (show decode cX2_init 15 = .ok (.newarray .int, 2) by decide +kernel) (fun q2 H hP hD hS => ?_)
  refine W.widen (k := 2) (n := 120) (Nat.le_of_ble_eq_true rfl) (Nat.le_of_ble_eq_true rfl) ?_
  have hP : va_P D vwCl [(h0, .inr (2, [.ref q1, .null, .null, .null, .null, .int 0])), (q1, .inl (cy 1, 60, .inl fun _ => 0)), (q2, .inl (cy 1, 60, .inl fun _ => 0))] H := hP
  have hD : va_D A [(h0, .inr (2, [.ref q1, .null, .null, .null, .null, .int 0])), (q1, .inl (cy 1, 60, .inl fun _ => 0)), (q2, .inl (cy 1, 60, .inl fun _ => 0))] := hD
  refine va_putF (D := D) (ci := 2) (v := .ref q2) (ty := .array .int) (C := RX2) (T := TX2) (N := 6) hx hb hts (fun w h => List.mem_cons_of_mem _ (inwX2 w h)) tyX2 tyX2_ok nmX2 hown hK hP hD hS 0 rfl rfl 1 (by decide) (hw (.fieldLink RX2 15 "Primeborrow$Locates" "stock" "[I") 115 (by decide +kernel)) (fun _ h9 => h9) rfl hin rfl (by decide +kernel) rfl rfl (Nat.le_of_ble_eq_true rfl) (show decode cX2_init 17 = .ok (.putfield 15, 3) by decide +kernel) (fun H locs hP hD hS => ?_)
  have hP : va_P D vwCl [(h0, .inr (2, [.ref q1, .ref q2, .null, .null, .null, .int 0])), (q1, .inl (cy 1, 60, .inl fun _ => 0)), (q2, .inl (cy 1, 60, .inl fun _ => 0))] H := hP
  have hD : va_D A [(h0, .inr (2, [.ref q1, .ref q2, .null, .null, .null, .int 0])), (q1, .inl (cy 1, 60, .inl fun _ => 0)), (q2, .inl (cy 1, 60, .inl fun _ => 0))] := hD
  refine lv_aload_n hx hb (show decode cX2_init 20 = .ok (.aload_n 0, 1) by decide +kernel) rfl (lv_at hl 0 rfl) ?_
  refine lv_bipush (v := 60) hx hb (show decode cX2_init 21 = .ok (.bipush 60, 2) by decide +kernel) (by decide +kernel) ?_
  refine ini_i (cy := cy) hx hb 60 (hw (.arrayClass .int) 104 (by decide +kernel)) hK hP hD hS hA n_60.1 n_60.2 (Nat.le_of_ble_eq_true rfl) (Nat.le_of_ble_eq_true rfl) (Nat.le_of_ble_eq_true rfl) (show decode cX2_init 23 = .ok (.newarray .int, 2) by decide +kernel) (fun q3 H hP hD hS => ?_)
  refine W.widen (k := 3) (n := 180) (Nat.le_of_ble_eq_true rfl) (Nat.le_of_ble_eq_true rfl) ?_
  have hP : va_P D vwCl [(h0, .inr (2, [.ref q1, .ref q2, .null, .null, .null, .int 0])), (q1, .inl (cy 1, 60, .inl fun _ => 0)), (q2, .inl (cy 1, 60, .inl fun _ => 0)), (q3, .inl (cy 1, 60, .inl fun _ => 0))] H := hP
  have hD : va_D A [(h0, .inr (2, [.ref q1, .ref q2, .null, .null, .null, .int 0])), (q1, .inl (cy 1, 60, .inl fun _ => 0)), (q2, .inl (cy 1, 60, .inl fun _ => 0)), (q3, .inl (cy 1, 60, .inl fun _ => 0))] := hD
  refine va_putF (D := D) (ci := 2) (v := .ref q3) (ty := .array .int) (C := RX2) (T := TX2) (N := 6) hx hb hts (fun w h => List.mem_cons_of_mem _ (inwX2 w h)) tyX2 tyX2_ok nmX2 hown hK hP hD hS 0 rfl rfl 2 (by decide) (hw (.fieldLink RX2 18 "Primeborrow$Locates" "shares" "[I") 117 (by decide +kernel)) (fun _ h9 => h9) rfl hin rfl (by decide +kernel) rfl rfl (Nat.le_of_ble_eq_true rfl) (show decode cX2_init 25 = .ok (.putfield 18, 3) by decide +kernel) (fun H locs hP hD hS => ?_)
  have hP : va_P D vwCl [(h0, .inr (2, [.ref q1, .ref q2, .ref q3, .null, .null, .int 0])), (q1, .inl (cy 1, 60, .inl fun _ => 0)), (q2, .inl (cy 1, 60, .inl fun _ => 0)), (q3, .inl (cy 1, 60, .inl fun _ => 0))] H := hP
  have hD : va_D A [(h0, .inr (2, [.ref q1, .ref q2, .ref q3, .null, .null, .int 0])), (q1, .inl (cy 1, 60, .inl fun _ => 0)), (q2, .inl (cy 1, 60, .inl fun _ => 0)), (q3, .inl (cy 1, 60, .inl fun _ => 0))] := hD
  refine lv_aload_n hx hb (show decode cX2_init 28 = .ok (.aload_n 0, 1) by decide +kernel) rfl (lv_at hl 0 rfl) ?_
  refine lv_bipush (v := 60) hx hb (show decode cX2_init 29 = .ok (.bipush 60, 2) by decide +kernel) (by decide +kernel) ?_
  refine ini_i (cy := cy) hx hb 60 (hw (.arrayClass .int) 104 (by decide +kernel)) hK hP hD hS hA n_60.1 n_60.2 (Nat.le_of_ble_eq_true rfl) (Nat.le_of_ble_eq_true rfl) (Nat.le_of_ble_eq_true rfl) (show decode cX2_init 31 = .ok (.newarray .int, 2) by decide +kernel) (fun q4 H hP hD hS => ?_)
  refine W.widen (k := 4) (n := 240) (Nat.le_of_ble_eq_true rfl) (Nat.le_of_ble_eq_true rfl) ?_
  have hP : va_P D vwCl [(h0, .inr (2, [.ref q1, .ref q2, .ref q3, .null, .null, .int 0])), (q1, .inl (cy 1, 60, .inl fun _ => 0)), (q2, .inl (cy 1, 60, .inl fun _ => 0)), (q3, .inl (cy 1, 60, .inl fun _ => 0)), (q4, .inl (cy 1, 60, .inl fun _ => 0))] H := hP
  have hD : va_D A [(h0, .inr (2, [.ref q1, .ref q2, .ref q3, .null, .null, .int 0])), (q1, .inl (cy 1, 60, .inl fun _ => 0)), (q2, .inl (cy 1, 60, .inl fun _ => 0)), (q3, .inl (cy 1, 60, .inl fun _ => 0)), (q4, .inl (cy 1, 60, .inl fun _ => 0))] := hD
  refine va_putF (D := D) (ci := 2) (v := .ref q4) (ty := .array .int) (C := RX2) (T := TX2) (N := 6) hx hb hts (fun w h => List.mem_cons_of_mem _ (inwX2 w h)) tyX2 tyX2_ok nmX2 hown hK hP hD hS 0 rfl rfl 3 (by decide) (hw (.fieldLink RX2 21 "Primeborrow$Locates" "lastDay" "[I") 119 (by decide +kernel)) (fun _ h9 => h9) rfl hin rfl (by decide +kernel) rfl rfl (Nat.le_of_ble_eq_true rfl) (show decode cX2_init 33 = .ok (.putfield 21, 3) by decide +kernel) (fun H locs hP hD hS => ?_)
  have hP : va_P D vwCl [(h0, .inr (2, [.ref q1, .ref q2, .ref q3, .ref q4, .null, .int 0])), (q1, .inl (cy 1, 60, .inl fun _ => 0)), (q2, .inl (cy 1, 60, .inl fun _ => 0)), (q3, .inl (cy 1, 60, .inl fun _ => 0)), (q4, .inl (cy 1, 60, .inl fun _ => 0))] H := hP
  have hD : va_D A [(h0, .inr (2, [.ref q1, .ref q2, .ref q3, .ref q4, .null, .int 0])), (q1, .inl (cy 1, 60, .inl fun _ => 0)), (q2, .inl (cy 1, 60, .inl fun _ => 0)), (q3, .inl (cy 1, 60, .inl fun _ => 0)), (q4, .inl (cy 1, 60, .inl fun _ => 0))] := hD
  refine lv_aload_n hx hb (show decode cX2_init 36 = .ok (.aload_n 0, 1) by decide +kernel) rfl (lv_at hl 0 rfl) ?_
  refine lv_bipush (v := 60) hx hb (show decode cX2_init 37 = .ok (.bipush 60, 2) by decide +kernel) (by decide +kernel) ?_
  refine ini_z (cy := cy) hx hb 60 (hw (.arrayClass .boolean) 106 (by decide +kernel)) hK hP hD hS hA n_60.1 n_60.2 (Nat.le_of_ble_eq_true rfl) (Nat.le_of_ble_eq_true rfl) (Nat.le_of_ble_eq_true rfl) (show decode cX2_init 39 = .ok (.newarray .boolean, 2) by decide +kernel) (fun q5 H hP hD hS => ?_)
  refine W.widen (k := 5) (n := 300) (Nat.le_of_ble_eq_true rfl) (Nat.le_of_ble_eq_true rfl) ?_
  have hP : va_P D vwCl [(h0, .inr (2, [.ref q1, .ref q2, .ref q3, .ref q4, .null, .int 0])), (q1, .inl (cy 1, 60, .inl fun _ => 0)), (q2, .inl (cy 1, 60, .inl fun _ => 0)), (q3, .inl (cy 1, 60, .inl fun _ => 0)), (q4, .inl (cy 1, 60, .inl fun _ => 0)), (q5, .inl (cy 3, 60, .inl fun _ => 0))] H := hP
  have hD : va_D A [(h0, .inr (2, [.ref q1, .ref q2, .ref q3, .ref q4, .null, .int 0])), (q1, .inl (cy 1, 60, .inl fun _ => 0)), (q2, .inl (cy 1, 60, .inl fun _ => 0)), (q3, .inl (cy 1, 60, .inl fun _ => 0)), (q4, .inl (cy 1, 60, .inl fun _ => 0)), (q5, .inl (cy 3, 60, .inl fun _ => 0))] := hD
  refine va_putF (D := D) (ci := 2) (v := .ref q5) (ty := .array .boolean) (C := RX2) (T := TX2) (N := 6) hx hb hts (fun w h => List.mem_cons_of_mem _ (inwX2 w h)) tyX2 tyX2_ok nmX2 hown hK hP hD hS 0 rfl rfl 4 (by decide) (hw (.fieldLink RX2 24 "Primeborrow$Locates" "used" "[Z") 121 (by decide +kernel)) (fun _ h9 => h9) rfl hin rfl (by decide +kernel) rfl rfl (Nat.le_of_ble_eq_true rfl) (show decode cX2_init 41 = .ok (.putfield 24, 3) by decide +kernel) (fun H locs hP hD hS => ?_)
  have hP : va_P D vwCl [(h0, .inr (2, [.ref q1, .ref q2, .ref q3, .ref q4, .ref q5, .int 0])), (q1, .inl (cy 1, 60, .inl fun _ => 0)), (q2, .inl (cy 1, 60, .inl fun _ => 0)), (q3, .inl (cy 1, 60, .inl fun _ => 0)), (q4, .inl (cy 1, 60, .inl fun _ => 0)), (q5, .inl (cy 3, 60, .inl fun _ => 0))] H := hP
  have hD : va_D A [(h0, .inr (2, [.ref q1, .ref q2, .ref q3, .ref q4, .ref q5, .int 0])), (q1, .inl (cy 1, 60, .inl fun _ => 0)), (q2, .inl (cy 1, 60, .inl fun _ => 0)), (q3, .inl (cy 1, 60, .inl fun _ => 0)), (q4, .inl (cy 1, 60, .inl fun _ => 0)), (q5, .inl (cy 3, 60, .inl fun _ => 0))] := hD
  have hrel : crel [(h0, .inr (2, [.ref q1, .ref q2, .ref q3, .ref q4, .ref q5, .int 0])), (q1, .inl (cy 1, 60, .inl fun _ => 0)), (q2, .inl (cy 1, 60, .inl fun _ => 0)), (q3, .inl (cy 1, 60, .inl fun _ => 0)), (q4, .inl (cy 1, 60, .inl fun _ => 0)), (q5, .inl (cy 3, 60, .inl fun _ => 0))] (wsX2u cy h0 (fun k => ([q1, q2, q3, q4, q5] : List Nat).getD k 0)) := ⟨ceq.rf, ceq.rf, ceq.rf, ceq.rf, ceq.rf, ceq.rf, trivial⟩
  exact W.vret hx hb hr (fun t ht hW => ⟨⟨(fun k => ([q1, q2, q3, q4, q5] : List Nat).getD k 0), rfl, trivial, by rw [ht]; exact va_P_rel hrel hP, va_D_rel hrel hD⟩, hS.F ht⟩) hS.2.2 (show decode cX2_init 44 = .ok (.return_, 1) by decide +kernel)
def wsX3u (cy : Nat → ClassId) (h0 : Nat) (u : Nat → Nat) : va_W := [(h0, .inr (3, [.ref (u 0), .ref (u 1), .ref (u 2), .ref (u 3), .ref (u 4), .int 0])), (u 0, .inl (cy 1, 40, .inl fun _ => 0)), (u 1, .inl (cy 1, 40, .inl fun _ => 0)), (u 2, .inl (cy 1, 40, .inl fun _ => 0)), (u 3, .inl (cy 1, 40, .inl fun _ => 0)), (u 4, .inl (cy 3, 40, .inl fun _ => 0))]
set_option maxHeartbeats 8000000 in
set_option maxRecDepth 100000 in
theorem c_X3_init (l : Launch) (D : va_G) (cy : Nat → ClassId) (h0 sz : Nat) : Met l yX3_init (Cond.code yX3_init cX3_init 1 none :: wm) ({ frames := 1, cells := 5, slots := 200, locals := 12 }) (va_Pc [.ref h0] (fun U => U.heap.size = sz ∧ va_P D vwCl [(h0, .inr (3, [.null, .null, .null, .null, .null, .int 0]))] U.heap ∧ va_K D vwCl (TY cy) U ∧ va_D (fun _ => True) [(h0, .inr (3, [.null, .null, .null, .null, .null, .int 0]))] ∧ IW U)) (va_Qv (fun _ : Nat → Nat => True) (fun u t => va_P D vwCl (wsX3u cy h0 u) t.heap ∧ va_D (va_A [(h0, .inr (3, [.null, .null, .null, .null, .null, .int 0]))] sz) (wsX3u cy h0 u)) (va_A [(h0, .inr (3, [.null, .null, .null, .null, .null, .int 0]))] sz)) 5 200 (va_A [(h0, .inr (3, [.null, .null, .null, .null, .null, .int 0]))] sz) := by
  refine Met.ofW (cc := cX3_init) (maxL := 1) (ret := none) (by decide) rfl ?_
  intro p e s m args below meth c s₁ B hml hv
  obtain ⟨rfl, hsz, hP, hK, hD0, hI⟩ := hv
  have hx := B.exec
  have hb := B.bytes
  have hr := B.returns
  have hts := atoms_spec (ws := Cond.code yX3_init cX3_init 1 none :: wm) B.pre
  have hw : ∀ (w : Cond) (i : Nat), (lw_tbl[i]? = some w ∧ goodWord w = true) → w.before #[Value.ref h0] s = true := fun w i h => hts w (List.mem_cons_of_mem _ (wm_p1 w i h))
  have hown : s.vm.findClass RX3 = some m.cls := findClass_of_methodNamed B.named
  have hin : meth.name = "<init>" := (name_of_methodNamed B.named B.method).1
  subst hsz
  have hD := hD0.self (sz := s.heap.size)
  generalize hAe : va_A [(h0, .inr (3, [.null, .null, .null, .null, .null, .int 0]))] s.heap.size = A at hD ⊢
  have hA : ∀ q : Nat, s.heap.size ≤ q → A q := fun q h => by rw [← hAe]; exact Or.inr h
  have hS : va_S A s.heap s.heap [] := va_S.rf
  have hP : va_P D vwCl [(h0, .inr (3, [.null, .null, .null, .null, .null, .int 0]))] s.heap := hP
  have hl := lv_entry ([.ref h0]) (n := 1) (Nat.le_of_ble_eq_true rfl)
  rw [lg_entry_eq]
  generalize (lg_sl ([.ref h0]) ++ List.replicate (1 - (lg_sl ([.ref h0])).length) Slot.unset).toArray = ls at hl ⊢
  generalize hHe : s.heap = H at hP hS ⊢
  have hS : va_S A s.heap H [] := by rw [hHe]; exact hS
  have hl : lv_has ls 1 [(0, .ref h0)] := hl
  refine lv_aload_n hx hb (show decode cX3_init 0 = .ok (.aload_n 0, 1) by decide +kernel) rfl (lv_at hl 0 rfl) ?_
  refine W.objInit hx hb hown (hw (.methodLink RX3 3 Lib.objectInit) 143 (by decide +kernel)) (hw (.instanceMethod Lib.objectInit) 69 (by decide +kernel)) (hw (.code Lib.objectInit ⟨#[177]⟩ 1 none) 70 (by decide +kernel)) rfl (by rw [hml]; exact hl.1) rfl (show decode cX3_init 1 = .ok (.invokespecial 3, 3) by decide +kernel) (Nat.le_of_ble_eq_true rfl) (Nat.le_of_ble_eq_true rfl) ?_
  refine W.eq (g2 := F0 m 4 ls []) rfl ?_
  refine lv_aload_n hx hb (show decode cX3_init 4 = .ok (.aload_n 0, 1) by decide +kernel) rfl (lv_at hl 0 rfl) ?_
  refine lv_bipush (v := 40) hx hb (show decode cX3_init 5 = .ok (.bipush 40, 2) by decide +kernel) (by decide +kernel) ?_
  refine ini_i (cy := cy) hx hb 40 (hw (.arrayClass .int) 104 (by decide +kernel)) hK hP hD hS hA n_40.1 n_40.2 (Nat.le_of_ble_eq_true rfl) (Nat.le_of_ble_eq_true rfl) (Nat.le_of_ble_eq_true rfl) (show decode cX3_init 7 = .ok (.newarray .int, 2) by decide +kernel) (fun q1 H hP hD hS => ?_)
  refine W.widen (k := 1) (n := 40) (Nat.le_of_ble_eq_true rfl) (Nat.le_of_ble_eq_true rfl) ?_
  have hP : va_P D vwCl [(h0, .inr (3, [.null, .null, .null, .null, .null, .int 0])), (q1, .inl (cy 1, 40, .inl fun _ => 0))] H := hP
  have hD : va_D A [(h0, .inr (3, [.null, .null, .null, .null, .null, .int 0])), (q1, .inl (cy 1, 40, .inl fun _ => 0))] := hD
  refine va_putF (D := D) (ci := 3) (v := .ref q1) (ty := .array .int) (C := RX3) (T := TX3) (N := 6) hx hb hts (fun w h => List.mem_cons_of_mem _ (inwX3 w h)) tyX3 tyX3_ok nmX3 hown hK hP hD hS 0 rfl rfl 0 (by decide) (hw (.fieldLink RX3 9 "Primeborrow$Recalls" "lender" "[I") 144 (by decide +kernel)) (fun _ h9 => h9) rfl hin rfl (by decide +kernel) rfl rfl (Nat.le_of_ble_eq_true rfl) (show decode cX3_init 9 = .ok (.putfield 9, 3) by decide +kernel) (fun H locs hP hD hS => ?_)
  have hP : va_P D vwCl [(h0, .inr (3, [.ref q1, .null, .null, .null, .null, .int 0])), (q1, .inl (cy 1, 40, .inl fun _ => 0))] H := hP
  have hD : va_D A [(h0, .inr (3, [.ref q1, .null, .null, .null, .null, .int 0])), (q1, .inl (cy 1, 40, .inl fun _ => 0))] := hD
  refine lv_aload_n hx hb (show decode cX3_init 12 = .ok (.aload_n 0, 1) by decide +kernel) rfl (lv_at hl 0 rfl) ?_
  refine lv_bipush (v := 40) hx hb (show decode cX3_init 13 = .ok (.bipush 40, 2) by decide +kernel) (by decide +kernel) ?_
  refine ini_i (cy := cy) hx hb 40 (hw (.arrayClass .int) 104 (by decide +kernel)) hK hP hD hS hA n_40.1 n_40.2 (Nat.le_of_ble_eq_true rfl) (Nat.le_of_ble_eq_true rfl) (Nat.le_of_ble_eq_true rfl) (show decode cX3_init 15 = .ok (.newarray .int, 2) by decide +kernel) (fun q2 H hP hD hS => ?_)
  refine W.widen (k := 2) (n := 80) (Nat.le_of_ble_eq_true rfl) (Nat.le_of_ble_eq_true rfl) ?_
  have hP : va_P D vwCl [(h0, .inr (3, [.ref q1, .null, .null, .null, .null, .int 0])), (q1, .inl (cy 1, 40, .inl fun _ => 0)), (q2, .inl (cy 1, 40, .inl fun _ => 0))] H := hP
  have hD : va_D A [(h0, .inr (3, [.ref q1, .null, .null, .null, .null, .int 0])), (q1, .inl (cy 1, 40, .inl fun _ => 0)), (q2, .inl (cy 1, 40, .inl fun _ => 0))] := hD
  refine va_putF (D := D) (ci := 3) (v := .ref q2) (ty := .array .int) (C := RX3) (T := TX3) (N := 6) hx hb hts (fun w h => List.mem_cons_of_mem _ (inwX3 w h)) tyX3 tyX3_ok nmX3 hown hK hP hD hS 0 rfl rfl 1 (by decide) (hw (.fieldLink RX3 15 "Primeborrow$Recalls" "stock" "[I") 146 (by decide +kernel)) (fun _ h9 => h9) rfl hin rfl (by decide +kernel) rfl rfl (Nat.le_of_ble_eq_true rfl) (show decode cX3_init 17 = .ok (.putfield 15, 3) by decide +kernel) (fun H locs hP hD hS => ?_)
  have hP : va_P D vwCl [(h0, .inr (3, [.ref q1, .ref q2, .null, .null, .null, .int 0])), (q1, .inl (cy 1, 40, .inl fun _ => 0)), (q2, .inl (cy 1, 40, .inl fun _ => 0))] H := hP
  have hD : va_D A [(h0, .inr (3, [.ref q1, .ref q2, .null, .null, .null, .int 0])), (q1, .inl (cy 1, 40, .inl fun _ => 0)), (q2, .inl (cy 1, 40, .inl fun _ => 0))] := hD
  refine lv_aload_n hx hb (show decode cX3_init 20 = .ok (.aload_n 0, 1) by decide +kernel) rfl (lv_at hl 0 rfl) ?_
  refine lv_bipush (v := 40) hx hb (show decode cX3_init 21 = .ok (.bipush 40, 2) by decide +kernel) (by decide +kernel) ?_
  refine ini_i (cy := cy) hx hb 40 (hw (.arrayClass .int) 104 (by decide +kernel)) hK hP hD hS hA n_40.1 n_40.2 (Nat.le_of_ble_eq_true rfl) (Nat.le_of_ble_eq_true rfl) (Nat.le_of_ble_eq_true rfl) (show decode cX3_init 23 = .ok (.newarray .int, 2) by decide +kernel) (fun q3 H hP hD hS => ?_)
  refine W.widen (k := 3) (n := 120) (Nat.le_of_ble_eq_true rfl) (Nat.le_of_ble_eq_true rfl) ?_
  have hP : va_P D vwCl [(h0, .inr (3, [.ref q1, .ref q2, .null, .null, .null, .int 0])), (q1, .inl (cy 1, 40, .inl fun _ => 0)), (q2, .inl (cy 1, 40, .inl fun _ => 0)), (q3, .inl (cy 1, 40, .inl fun _ => 0))] H := hP
  have hD : va_D A [(h0, .inr (3, [.ref q1, .ref q2, .null, .null, .null, .int 0])), (q1, .inl (cy 1, 40, .inl fun _ => 0)), (q2, .inl (cy 1, 40, .inl fun _ => 0)), (q3, .inl (cy 1, 40, .inl fun _ => 0))] := hD
  refine va_putF (D := D) (ci := 3) (v := .ref q3) (ty := .array .int) (C := RX3) (T := TX3) (N := 6) hx hb hts (fun w h => List.mem_cons_of_mem _ (inwX3 w h)) tyX3 tyX3_ok nmX3 hown hK hP hD hS 0 rfl rfl 2 (by decide) (hw (.fieldLink RX3 18 "Primeborrow$Recalls" "shares" "[I") 148 (by decide +kernel)) (fun _ h9 => h9) rfl hin rfl (by decide +kernel) rfl rfl (Nat.le_of_ble_eq_true rfl) (show decode cX3_init 25 = .ok (.putfield 18, 3) by decide +kernel) (fun H locs hP hD hS => ?_)
  have hP : va_P D vwCl [(h0, .inr (3, [.ref q1, .ref q2, .ref q3, .null, .null, .int 0])), (q1, .inl (cy 1, 40, .inl fun _ => 0)), (q2, .inl (cy 1, 40, .inl fun _ => 0)), (q3, .inl (cy 1, 40, .inl fun _ => 0))] H := hP
  have hD : va_D A [(h0, .inr (3, [.ref q1, .ref q2, .ref q3, .null, .null, .int 0])), (q1, .inl (cy 1, 40, .inl fun _ => 0)), (q2, .inl (cy 1, 40, .inl fun _ => 0)), (q3, .inl (cy 1, 40, .inl fun _ => 0))] := hD
  refine lv_aload_n hx hb (show decode cX3_init 28 = .ok (.aload_n 0, 1) by decide +kernel) rfl (lv_at hl 0 rfl) ?_
  refine lv_bipush (v := 40) hx hb (show decode cX3_init 29 = .ok (.bipush 40, 2) by decide +kernel) (by decide +kernel) ?_
  refine ini_i (cy := cy) hx hb 40 (hw (.arrayClass .int) 104 (by decide +kernel)) hK hP hD hS hA n_40.1 n_40.2 (Nat.le_of_ble_eq_true rfl) (Nat.le_of_ble_eq_true rfl) (Nat.le_of_ble_eq_true rfl) (show decode cX3_init 31 = .ok (.newarray .int, 2) by decide +kernel) (fun q4 H hP hD hS => ?_)
  refine W.widen (k := 4) (n := 160) (Nat.le_of_ble_eq_true rfl) (Nat.le_of_ble_eq_true rfl) ?_
  have hP : va_P D vwCl [(h0, .inr (3, [.ref q1, .ref q2, .ref q3, .null, .null, .int 0])), (q1, .inl (cy 1, 40, .inl fun _ => 0)), (q2, .inl (cy 1, 40, .inl fun _ => 0)), (q3, .inl (cy 1, 40, .inl fun _ => 0)), (q4, .inl (cy 1, 40, .inl fun _ => 0))] H := hP
  have hD : va_D A [(h0, .inr (3, [.ref q1, .ref q2, .ref q3, .null, .null, .int 0])), (q1, .inl (cy 1, 40, .inl fun _ => 0)), (q2, .inl (cy 1, 40, .inl fun _ => 0)), (q3, .inl (cy 1, 40, .inl fun _ => 0)), (q4, .inl (cy 1, 40, .inl fun _ => 0))] := hD
  refine va_putF (D := D) (ci := 3) (v := .ref q4) (ty := .array .int) (C := RX3) (T := TX3) (N := 6) hx hb hts (fun w h => List.mem_cons_of_mem _ (inwX3 w h)) tyX3 tyX3_ok nmX3 hown hK hP hD hS 0 rfl rfl 3 (by decide) (hw (.fieldLink RX3 21 "Primeborrow$Recalls" "dueDay" "[I") 150 (by decide +kernel)) (fun _ h9 => h9) rfl hin rfl (by decide +kernel) rfl rfl (Nat.le_of_ble_eq_true rfl) (show decode cX3_init 33 = .ok (.putfield 21, 3) by decide +kernel) (fun H locs hP hD hS => ?_)
  have hP : va_P D vwCl [(h0, .inr (3, [.ref q1, .ref q2, .ref q3, .ref q4, .null, .int 0])), (q1, .inl (cy 1, 40, .inl fun _ => 0)), (q2, .inl (cy 1, 40, .inl fun _ => 0)), (q3, .inl (cy 1, 40, .inl fun _ => 0)), (q4, .inl (cy 1, 40, .inl fun _ => 0))] H := hP
  have hD : va_D A [(h0, .inr (3, [.ref q1, .ref q2, .ref q3, .ref q4, .null, .int 0])), (q1, .inl (cy 1, 40, .inl fun _ => 0)), (q2, .inl (cy 1, 40, .inl fun _ => 0)), (q3, .inl (cy 1, 40, .inl fun _ => 0)), (q4, .inl (cy 1, 40, .inl fun _ => 0))] := hD
  refine lv_aload_n hx hb (show decode cX3_init 36 = .ok (.aload_n 0, 1) by decide +kernel) rfl (lv_at hl 0 rfl) ?_
  refine lv_bipush (v := 40) hx hb (show decode cX3_init 37 = .ok (.bipush 40, 2) by decide +kernel) (by decide +kernel) ?_
  refine ini_z (cy := cy) hx hb 40 (hw (.arrayClass .boolean) 106 (by decide +kernel)) hK hP hD hS hA n_40.1 n_40.2 (Nat.le_of_ble_eq_true rfl) (Nat.le_of_ble_eq_true rfl) (Nat.le_of_ble_eq_true rfl) (show decode cX3_init 39 = .ok (.newarray .boolean, 2) by decide +kernel) (fun q5 H hP hD hS => ?_)
  refine W.widen (k := 5) (n := 200) (Nat.le_of_ble_eq_true rfl) (Nat.le_of_ble_eq_true rfl) ?_
  have hP : va_P D vwCl [(h0, .inr (3, [.ref q1, .ref q2, .ref q3, .ref q4, .null, .int 0])), (q1, .inl (cy 1, 40, .inl fun _ => 0)), (q2, .inl (cy 1, 40, .inl fun _ => 0)), (q3, .inl (cy 1, 40, .inl fun _ => 0)), (q4, .inl (cy 1, 40, .inl fun _ => 0)), (q5, .inl (cy 3, 40, .inl fun _ => 0))] H := hP
  have hD : va_D A [(h0, .inr (3, [.ref q1, .ref q2, .ref q3, .ref q4, .null, .int 0])), (q1, .inl (cy 1, 40, .inl fun _ => 0)), (q2, .inl (cy 1, 40, .inl fun _ => 0)), (q3, .inl (cy 1, 40, .inl fun _ => 0)), (q4, .inl (cy 1, 40, .inl fun _ => 0)), (q5, .inl (cy 3, 40, .inl fun _ => 0))] := hD
  refine va_putF (D := D) (ci := 3) (v := .ref q5) (ty := .array .boolean) (C := RX3) (T := TX3) (N := 6) hx hb hts (fun w h => List.mem_cons_of_mem _ (inwX3 w h)) tyX3 tyX3_ok nmX3 hown hK hP hD hS 0 rfl rfl 4 (by decide) (hw (.fieldLink RX3 24 "Primeborrow$Recalls" "met" "[Z") 152 (by decide +kernel)) (fun _ h9 => h9) rfl hin rfl (by decide +kernel) rfl rfl (Nat.le_of_ble_eq_true rfl) (show decode cX3_init 41 = .ok (.putfield 24, 3) by decide +kernel) (fun H locs hP hD hS => ?_)
  have hP : va_P D vwCl [(h0, .inr (3, [.ref q1, .ref q2, .ref q3, .ref q4, .ref q5, .int 0])), (q1, .inl (cy 1, 40, .inl fun _ => 0)), (q2, .inl (cy 1, 40, .inl fun _ => 0)), (q3, .inl (cy 1, 40, .inl fun _ => 0)), (q4, .inl (cy 1, 40, .inl fun _ => 0)), (q5, .inl (cy 3, 40, .inl fun _ => 0))] H := hP
  have hD : va_D A [(h0, .inr (3, [.ref q1, .ref q2, .ref q3, .ref q4, .ref q5, .int 0])), (q1, .inl (cy 1, 40, .inl fun _ => 0)), (q2, .inl (cy 1, 40, .inl fun _ => 0)), (q3, .inl (cy 1, 40, .inl fun _ => 0)), (q4, .inl (cy 1, 40, .inl fun _ => 0)), (q5, .inl (cy 3, 40, .inl fun _ => 0))] := hD
  have hrel : crel [(h0, .inr (3, [.ref q1, .ref q2, .ref q3, .ref q4, .ref q5, .int 0])), (q1, .inl (cy 1, 40, .inl fun _ => 0)), (q2, .inl (cy 1, 40, .inl fun _ => 0)), (q3, .inl (cy 1, 40, .inl fun _ => 0)), (q4, .inl (cy 1, 40, .inl fun _ => 0)), (q5, .inl (cy 3, 40, .inl fun _ => 0))] (wsX3u cy h0 (fun k => ([q1, q2, q3, q4, q5] : List Nat).getD k 0)) := ⟨ceq.rf, ceq.rf, ceq.rf, ceq.rf, ceq.rf, ceq.rf, trivial⟩
  exact W.vret hx hb hr (fun t ht hW => ⟨⟨(fun k => ([q1, q2, q3, q4, q5] : List Nat).getD k 0), rfl, trivial, by rw [ht]; exact va_P_rel hrel hP, va_D_rel hrel hD⟩, hS.F ht⟩) hS.2.2 (show decode cX3_init 44 = .ok (.return_, 1) by decide +kernel)
def wsX0u (cy : Nat → ClassId) (h0 : Nat) (u : Nat → Nat) : va_W := [(h0, .inr (0, [.ref (u 0), .ref (u 5)])), (u 0, .inl (cy 4, 4, .inr (.inr (.inr (.inr fun i => if i < 4 then some (u (1 + i)) else none))))), (u 1, .inl (cy 1, 3000, .inl fun _ => 0)), (u 2, .inl (cy 1, 3000, .inl fun _ => 0)), (u 3, .inl (cy 1, 3000, .inl fun _ => 0)), (u 4, .inl (cy 1, 3000, .inl fun _ => 0)), (u 5, .inl (cy 4, 4, .inr (.inr (.inr (.inr fun i => if i < 4 then some (u (6 + i)) else none))))), (u 6, .inl (cy 1, 3000, .inl fun _ => 0)), (u 7, .inl (cy 1, 3000, .inl fun _ => 0)), (u 8, .inl (cy 1, 3000, .inl fun _ => 0)), (u 9, .inl (cy 1, 3000, .inl fun _ => 0))]
set_option maxHeartbeats 8000000 in
set_option maxRecDepth 100000 in
theorem c_X0_init (l : Launch) (D : va_G) (cy : Nat → ClassId) (h0 sz : Nat) : Met l yX0_init (Cond.code yX0_init cX0_init 1 none :: wm) ({ frames := 1, cells := 10, slots := 24008, locals := 12 }) (va_Pc [.ref h0] (fun U => U.heap.size = sz ∧ va_P D vwCl [(h0, .inr (0, [.null, .null]))] U.heap ∧ va_K D vwCl (TY cy) U ∧ va_D (fun _ => True) [(h0, .inr (0, [.null, .null]))] ∧ IW U)) (va_Qv (fun _ : Nat → Nat => True) (fun u t => va_P D vwCl (wsX0u cy h0 u) t.heap ∧ va_D (va_A [(h0, .inr (0, [.null, .null]))] sz) (wsX0u cy h0 u)) (va_A [(h0, .inr (0, [.null, .null]))] sz)) 10 24008 (va_A [(h0, .inr (0, [.null, .null]))] sz) := by
  refine Met.ofW (cc := cX0_init) (maxL := 1) (ret := none) (by decide) rfl ?_
  intro p e s m args below meth c s₁ B hml hv
  obtain ⟨rfl, hsz, hP, hK, hD0, hI⟩ := hv
  have hx := B.exec
  have hb := B.bytes
  have hr := B.returns
  have hts := atoms_spec (ws := Cond.code yX0_init cX0_init 1 none :: wm) B.pre
  have hw : ∀ (w : Cond) (i : Nat), (lw_tbl[i]? = some w ∧ goodWord w = true) → w.before #[Value.ref h0] s = true := fun w i h => hts w (List.mem_cons_of_mem _ (wm_p1 w i h))
  have hown : s.vm.findClass RX0 = some m.cls := findClass_of_methodNamed B.named
  have hin : meth.name = "<init>" := (name_of_methodNamed B.named B.method).1
  subst hsz
  have hD := hD0.self (sz := s.heap.size)
  generalize hAe : va_A [(h0, .inr (0, [.null, .null]))] s.heap.size = A at hD ⊢
  have hA : ∀ q : Nat, s.heap.size ≤ q → A q := fun q h => by rw [← hAe]; exact Or.inr h
  have hS : va_S A s.heap s.heap [] := va_S.rf
  have hP : va_P D vwCl [(h0, .inr (0, [.null, .null]))] s.heap := hP
  have hl := lv_entry ([.ref h0]) (n := 1) (Nat.le_of_ble_eq_true rfl)
  rw [lg_entry_eq]
  generalize (lg_sl ([.ref h0]) ++ List.replicate (1 - (lg_sl ([.ref h0])).length) Slot.unset).toArray = ls at hl ⊢
  generalize hHe : s.heap = H at hP hS ⊢
  have hS : va_S A s.heap H [] := by rw [hHe]; exact hS
  have hl : lv_has ls 1 [(0, .ref h0)] := hl
  refine lv_aload_n hx hb (show decode cX0_init 0 = .ok (.aload_n 0, 1) by decide +kernel) rfl (lv_at hl 0 rfl) ?_
  refine W.objInit hx hb hown (hw (.methodLink RX0 3 Lib.objectInit) 174 (by decide +kernel)) (hw (.instanceMethod Lib.objectInit) 69 (by decide +kernel)) (hw (.code Lib.objectInit ⟨#[177]⟩ 1 none) 70 (by decide +kernel)) rfl (by rw [hml]; exact hl.1) rfl (show decode cX0_init 1 = .ok (.invokespecial 3, 3) by decide +kernel) (Nat.le_of_ble_eq_true rfl) (Nat.le_of_ble_eq_true rfl) ?_
  refine W.eq (g2 := F0 m 4 ls []) rfl ?_
  refine lv_aload_n hx hb (show decode cX0_init 4 = .ok (.aload_n 0, 1) by decide +kernel) rfl (lv_at hl 0 rfl) ?_
  refine lv_iconst (v := 4) hx hb (show decode cX0_init 5 = .ok (.iconst 4, 1) by decide +kernel) (by decide +kernel) ?_
  refine lv_sipush (v := 3000) hx hb (show decode cX0_init 6 = .ok (.sipush 3000, 3) by decide +kernel) (by decide +kernel) ?_
  refine ini_mna (cy := cy) hx hb 4 3000 hown (hw (.classLink RX0 9 "[[I") 175 (by decide +kernel)) hI.1 (hw (.arrayClass .int) 104 (by decide +kernel)) hK hP hD hS hA n_4.1 n_3000.1 n_4.2 n_3000.2 (Nat.le_of_ble_eq_true rfl) (Nat.le_of_ble_eq_true rfl) (Nat.le_of_ble_eq_true rfl) (Nat.le_of_ble_eq_true rfl) (Nat.le_of_ble_eq_true rfl) (show decode cX0_init 9 = .ok (.multianewarray 9 2, 4) by decide +kernel) (fun q1 r1 H hP hD hS => ?_)
  refine W.widen (k := 5) (n := 12004) (Nat.le_of_ble_eq_true rfl) (Nat.le_of_ble_eq_true rfl) ?_
  have hP : va_P D vwCl [(h0, .inr (0, [.null, .null])), (q1, .inl (cy 4, 4, .inr (.inr (.inr (.inr fun i => if i < 4 then some (r1 i) else none))))), (r1 0, .inl (cy 1, 3000, .inl fun _ => 0)), (r1 1, .inl (cy 1, 3000, .inl fun _ => 0)), (r1 2, .inl (cy 1, 3000, .inl fun _ => 0)), (r1 3, .inl (cy 1, 3000, .inl fun _ => 0))] H := hP
  have hD : va_D A [(h0, .inr (0, [.null, .null])), (q1, .inl (cy 4, 4, .inr (.inr (.inr (.inr fun i => if i < 4 then some (r1 i) else none))))), (r1 0, .inl (cy 1, 3000, .inl fun _ => 0)), (r1 1, .inl (cy 1, 3000, .inl fun _ => 0)), (r1 2, .inl (cy 1, 3000, .inl fun _ => 0)), (r1 3, .inl (cy 1, 3000, .inl fun _ => 0))] := hD
  refine va_putF (D := D) (ci := 0) (v := .ref q1) (ty := .array (.array .int)) (C := RX0) (T := TX0) (N := 2) hx hb hts (fun w h => List.mem_cons_of_mem _ (inwX0 w h)) tyX0 tyX0_ok nmX0 hown hK hP hD hS 0 rfl rfl 0 (by decide) (hw (.fieldLink RX0 11 "Primeborrow$Hands" "name" "[[I") 176 (by decide +kernel)) (fun _ h9 => h9) rfl hin rfl (by decide +kernel) rfl rfl (Nat.le_of_ble_eq_true rfl) (show decode cX0_init 13 = .ok (.putfield 11, 3) by decide +kernel) (fun H locs hP hD hS => ?_)
  have hP : va_P D vwCl [(h0, .inr (0, [.ref q1, .null])), (q1, .inl (cy 4, 4, .inr (.inr (.inr (.inr fun i => if i < 4 then some (r1 i) else none))))), (r1 0, .inl (cy 1, 3000, .inl fun _ => 0)), (r1 1, .inl (cy 1, 3000, .inl fun _ => 0)), (r1 2, .inl (cy 1, 3000, .inl fun _ => 0)), (r1 3, .inl (cy 1, 3000, .inl fun _ => 0))] H := hP
  have hD : va_D A [(h0, .inr (0, [.ref q1, .null])), (q1, .inl (cy 4, 4, .inr (.inr (.inr (.inr fun i => if i < 4 then some (r1 i) else none))))), (r1 0, .inl (cy 1, 3000, .inl fun _ => 0)), (r1 1, .inl (cy 1, 3000, .inl fun _ => 0)), (r1 2, .inl (cy 1, 3000, .inl fun _ => 0)), (r1 3, .inl (cy 1, 3000, .inl fun _ => 0))] := hD
  refine lv_aload_n hx hb (show decode cX0_init 16 = .ok (.aload_n 0, 1) by decide +kernel) rfl (lv_at hl 0 rfl) ?_
  refine lv_iconst (v := 4) hx hb (show decode cX0_init 17 = .ok (.iconst 4, 1) by decide +kernel) (by decide +kernel) ?_
  refine lv_sipush (v := 3000) hx hb (show decode cX0_init 18 = .ok (.sipush 3000, 3) by decide +kernel) (by decide +kernel) ?_
  refine ini_mna (cy := cy) hx hb 4 3000 hown (hw (.classLink RX0 9 "[[I") 175 (by decide +kernel)) hI.1 (hw (.arrayClass .int) 104 (by decide +kernel)) hK hP hD hS hA n_4.1 n_3000.1 n_4.2 n_3000.2 (Nat.le_of_ble_eq_true rfl) (Nat.le_of_ble_eq_true rfl) (Nat.le_of_ble_eq_true rfl) (Nat.le_of_ble_eq_true rfl) (Nat.le_of_ble_eq_true rfl) (show decode cX0_init 21 = .ok (.multianewarray 9 2, 4) by decide +kernel) (fun q2 r2 H hP hD hS => ?_)
  refine W.widen (k := 10) (n := 24008) (Nat.le_of_ble_eq_true rfl) (Nat.le_of_ble_eq_true rfl) ?_
  have hP : va_P D vwCl [(h0, .inr (0, [.ref q1, .null])), (q1, .inl (cy 4, 4, .inr (.inr (.inr (.inr fun i => if i < 4 then some (r1 i) else none))))), (r1 0, .inl (cy 1, 3000, .inl fun _ => 0)), (r1 1, .inl (cy 1, 3000, .inl fun _ => 0)), (r1 2, .inl (cy 1, 3000, .inl fun _ => 0)), (r1 3, .inl (cy 1, 3000, .inl fun _ => 0)), (q2, .inl (cy 4, 4, .inr (.inr (.inr (.inr fun i => if i < 4 then some (r2 i) else none))))), (r2 0, .inl (cy 1, 3000, .inl fun _ => 0)), (r2 1, .inl (cy 1, 3000, .inl fun _ => 0)), (r2 2, .inl (cy 1, 3000, .inl fun _ => 0)), (r2 3, .inl (cy 1, 3000, .inl fun _ => 0))] H := hP
  have hD : va_D A [(h0, .inr (0, [.ref q1, .null])), (q1, .inl (cy 4, 4, .inr (.inr (.inr (.inr fun i => if i < 4 then some (r1 i) else none))))), (r1 0, .inl (cy 1, 3000, .inl fun _ => 0)), (r1 1, .inl (cy 1, 3000, .inl fun _ => 0)), (r1 2, .inl (cy 1, 3000, .inl fun _ => 0)), (r1 3, .inl (cy 1, 3000, .inl fun _ => 0)), (q2, .inl (cy 4, 4, .inr (.inr (.inr (.inr fun i => if i < 4 then some (r2 i) else none))))), (r2 0, .inl (cy 1, 3000, .inl fun _ => 0)), (r2 1, .inl (cy 1, 3000, .inl fun _ => 0)), (r2 2, .inl (cy 1, 3000, .inl fun _ => 0)), (r2 3, .inl (cy 1, 3000, .inl fun _ => 0))] := hD
  refine va_putF (D := D) (ci := 0) (v := .ref q2) (ty := .array (.array .int)) (C := RX0) (T := TX0) (N := 2) hx hb hts (fun w h => List.mem_cons_of_mem _ (inwX0 w h)) tyX0 tyX0_ok nmX0 hown hK hP hD hS 0 rfl rfl 1 (by decide) (hw (.fieldLink RX0 16 "Primeborrow$Hands" "hand" "[[I") 177 (by decide +kernel)) (fun _ h9 => h9) rfl hin rfl (by decide +kernel) rfl rfl (Nat.le_of_ble_eq_true rfl) (show decode cX0_init 25 = .ok (.putfield 16, 3) by decide +kernel) (fun H locs hP hD hS => ?_)
  have hP : va_P D vwCl [(h0, .inr (0, [.ref q1, .ref q2])), (q1, .inl (cy 4, 4, .inr (.inr (.inr (.inr fun i => if i < 4 then some (r1 i) else none))))), (r1 0, .inl (cy 1, 3000, .inl fun _ => 0)), (r1 1, .inl (cy 1, 3000, .inl fun _ => 0)), (r1 2, .inl (cy 1, 3000, .inl fun _ => 0)), (r1 3, .inl (cy 1, 3000, .inl fun _ => 0)), (q2, .inl (cy 4, 4, .inr (.inr (.inr (.inr fun i => if i < 4 then some (r2 i) else none))))), (r2 0, .inl (cy 1, 3000, .inl fun _ => 0)), (r2 1, .inl (cy 1, 3000, .inl fun _ => 0)), (r2 2, .inl (cy 1, 3000, .inl fun _ => 0)), (r2 3, .inl (cy 1, 3000, .inl fun _ => 0))] H := hP
  have hD : va_D A [(h0, .inr (0, [.ref q1, .ref q2])), (q1, .inl (cy 4, 4, .inr (.inr (.inr (.inr fun i => if i < 4 then some (r1 i) else none))))), (r1 0, .inl (cy 1, 3000, .inl fun _ => 0)), (r1 1, .inl (cy 1, 3000, .inl fun _ => 0)), (r1 2, .inl (cy 1, 3000, .inl fun _ => 0)), (r1 3, .inl (cy 1, 3000, .inl fun _ => 0)), (q2, .inl (cy 4, 4, .inr (.inr (.inr (.inr fun i => if i < 4 then some (r2 i) else none))))), (r2 0, .inl (cy 1, 3000, .inl fun _ => 0)), (r2 1, .inl (cy 1, 3000, .inl fun _ => 0)), (r2 2, .inl (cy 1, 3000, .inl fun _ => 0)), (r2 3, .inl (cy 1, 3000, .inl fun _ => 0))] := hD
  have hrel : crel [(h0, .inr (0, [.ref q1, .ref q2])), (q1, .inl (cy 4, 4, .inr (.inr (.inr (.inr fun i => if i < 4 then some (r1 i) else none))))), (r1 0, .inl (cy 1, 3000, .inl fun _ => 0)), (r1 1, .inl (cy 1, 3000, .inl fun _ => 0)), (r1 2, .inl (cy 1, 3000, .inl fun _ => 0)), (r1 3, .inl (cy 1, 3000, .inl fun _ => 0)), (q2, .inl (cy 4, 4, .inr (.inr (.inr (.inr fun i => if i < 4 then some (r2 i) else none))))), (r2 0, .inl (cy 1, 3000, .inl fun _ => 0)), (r2 1, .inl (cy 1, 3000, .inl fun _ => 0)), (r2 2, .inl (cy 1, 3000, .inl fun _ => 0)), (r2 3, .inl (cy 1, 3000, .inl fun _ => 0))] (wsX0u cy h0 (fun k => ([q1, r1 0, r1 1, r1 2, r1 3, q2, r2 0, r2 1, r2 2, r2 3] : List Nat).getD k 0)) := ⟨ceq.rf, ceq.o (fun j hj => by rcases (show j = 0 ∨ j = 1 ∨ j = 2 ∨ j = 3 by omega) with rfl | rfl | rfl | rfl <;> rfl), ceq.rf, ceq.rf, ceq.rf, ceq.rf, ceq.o (fun j hj => by rcases (show j = 0 ∨ j = 1 ∨ j = 2 ∨ j = 3 by omega) with rfl | rfl | rfl | rfl <;> rfl), ceq.rf, ceq.rf, ceq.rf, ceq.rf, trivial⟩
  exact W.vret hx hb hr (fun t ht hW => ⟨⟨(fun k => ([q1, r1 0, r1 1, r1 2, r1 3, q2, r2 0, r2 1, r2 2, r2 3] : List Nat).getD k 0), rfl, trivial, by rw [ht]; exact va_P_rel hrel hP, va_D_rel hrel hD⟩, hS.F ht⟩) hS.2.2 (show decode cX0_init 28 = .ok (.return_, 1) by decide +kernel)
