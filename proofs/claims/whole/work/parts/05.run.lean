/-! ===== the abstract machine's runs: the least set closed under a step backwards ===== -/
theorem pI_m {S : List AV} {f g : Int → List AV → Prop} (h : ∀ x S', f x S' → g x S') : pI S f → pI S g := by
  unfold pI; split
  · exact h _ _
  · exact id
theorem pL_m {S : List AV} {f g : Int → List AV → Prop} (h : ∀ x S', f x S' → g x S') : pL S f → pL S g := by
  unfold pL; split
  · exact h _ _
  · exact id
theorem pQ_m {S : List AV} {f g : (Nat × Int) ⊕ Nat → List AV → Prop} (h : ∀ x S', f x S' → g x S') : pQ S f → pQ S g := by
  unfold pQ; split
  · exact h _ _
  · exact id
theorem pR_m {S : List AV} {f g : Nat → Int → List AV → Prop} (h : ∀ x r S', f x r S' → g x r S') : pR S f → pR S g := by
  unfold pR; split
  · exact h _ _ _
  · exact id
theorem pV_m {S : List AV} {f g : AV → List AV → Prop} (h : ∀ x S', f x S' → g x S') : pV S f → pV S g := by
  unfold pV; split
  · exact h _ _
  · exact id
theorem gI_m {L : Lo} {k : Nat} {f g : Int → Prop} (h : ∀ x, f x → g x) : gI L k f → gI L k g := by
  unfold gI; split
  · exact h _
  · exact id
theorem gL_m {L : Lo} {k : Nat} {f g : Int → Prop} (h : ∀ x, f x → g x) : gL L k f → gL L k g := by
  unfold gL; split
  · exact h _
  · exact id
theorem gQ_m {L : Lo} {k : Nat} {f g : (Nat × Int) ⊕ Nat → Prop} (h : ∀ x, f x → g x) : gQ L k f → gQ L k g := by
  unfold gQ; split
  · exact h _
  · exact id
theorem bT_m {b : Bool} {A B : Prop} (h : A → B) : bT b A → bT b B := by
  cases b
  · exact id
  · exact h
theorem jmp_m {pc : Nat} {o : Int} {f g : Nat → Prop} (h : ∀ t, f t → g t) : jmp pc o f → jmp pc o g := by
  unfold jmp; split
  · exact h _
  · exact id
theorem cnd_m {c : ClassFile.Cond} {x y : Int} {A B A' B' : Prop} (h : A → A') (h' : B → B') : cnd c x y A B → cnd c x y A' B' := by
  cases c <;> exact fun q => ⟨fun z => h (q.1 z), fun z => h' (q.2 z)⟩
theorem swi_m {pc : Nat} {x : Int} {f g : Nat → Prop} (h : ∀ t, f t → g t) : ∀ (os : List Int) (lo : Int), swi pc x f lo os → swi pc x g lo os
  | [], _, _ => True.intro
  | _ :: os, lo, q => ⟨fun z => jmp_m h (q.1 z), swi_m h os (lo + 1) q.2⟩
section
variable {fam : Nat → Fam} {scr : Option (Nat × Int × (Int → Int))} {cd : Cd} {ER : Option AV → Mm → Prop} {ET : Nat → Mm → Prop} {K K' : Kt}
theorem thr_m (hK : ∀ pc n L S μ, K pc n L S μ → K' pc n L S μ) {pc n : Nat} {L : Lo} {μ : Mm} {k : Nat} : thr cd ET K pc n L μ k → thr cd ET K' pc n L μ k := by
  unfold thr; split
  · exact fun q z => hK _ _ _ _ _ (q z)
  · exact id
theorem ivk_m (hK : ∀ pc n L S μ, K pc n L S μ → K' pc n L S μ) {i pc len n : Nat} {L : Lo} {S : List AV} {μ : Mm} : ivk cd ET K i pc len n L S μ → ivk cd ET K' i pc len n L S μ := by
  unfold ivk; split
  · exact id
  · exact bT_m (fun ⟨σ, q⟩ => ⟨σ, q.1, fun ov μ' z => hK _ _ _ _ _ (q.2.1 ov μ' z), fun k z => thr_m hK (q.2.2 k z)⟩)
theorem ald_m {kd : Nat} {S : List AV} {f g : Nat → Int → Int → List AV → Prop} (h : ∀ a r i S', f a r i S' → g a r i S') : ald fam kd S f → ald fam kd S g :=
  pI_m fun _ _ => pR_m fun _ _ _ => bT_m fun q => ⟨q.1, h _ _ _ _ q.2⟩
theorem ald1_m {S : List AV} {A A' : Int → List AV → Prop} {f g : Nat → Int → Int → List AV → Prop} (hA : ∀ x S', A x S' → A' x S') (h : ∀ a r i S', f a r i S' → g a r i S') : ald1 fam scr S A f → ald1 fam scr S A' g :=
  pI_m fun _ _ => pQ_m fun z _ => by
    cases z with
    | inl z => exact bT_m fun q => ⟨q.1, h _ _ _ _ q.2⟩
    | inr a =>
      dsimp only
      split
      · exact id
      · exact fun q => ⟨q.1, q.2.1, hA _ _ q.2.2⟩
set_option maxHeartbeats 4000000 in
theorem stp_m (hK : ∀ pc n L S μ, K pc n L S μ → K' pc n L S μ) {pc n : Nat} {L : Lo} {S : List AV} {μ : Mm} : stp fam scr cd ER ET K pc n L S μ → stp fam scr cd ER ET K' pc n L S μ := by
  unfold stp
  cases cd.1 pc with
  | none => exact id
  | some il =>
    obtain ⟨i, len⟩ := il
    cases i
    case iload_n k => exact gI_m fun _ => hK _ _ _ _ _
    case iload k => exact gI_m fun _ => hK _ _ _ _ _
    case lload_n k => exact gL_m fun _ => hK _ _ _ _ _
    case lload k => exact gL_m fun _ => hK _ _ _ _ _
    case aload_n k => exact gQ_m fun _ => hK _ _ _ _ _
    case aload k => exact gQ_m fun _ => hK _ _ _ _ _
    case istore_n k => exact pI_m fun _ _ => bT_m (hK _ _ _ _ _)
    case istore k => exact pI_m fun _ _ => bT_m (hK _ _ _ _ _)
    case lstore_n k => exact pL_m fun _ _ => bT_m (hK _ _ _ _ _)
    case lstore k => exact pL_m fun _ _ => bT_m (hK _ _ _ _ _)
    case astore_n k => exact pQ_m fun _ _ => bT_m (hK _ _ _ _ _)
    case astore k => exact pQ_m fun _ _ => bT_m (hK _ _ _ _ _)
    case iinc k d => exact gI_m fun _ => bT_m (hK _ _ _ _ _)
    case iconst v => exact bT_m (hK _ _ _ _ _)
    case bipush v => exact bT_m (hK _ _ _ _ _)
    case sipush v => exact bT_m (hK _ _ _ _ _)
    case lconst k => exact hK _ _ _ _ _
    case ldc j =>
      dsimp only
      split
      · exact bT_m (hK _ _ _ _ _)
      · exact id
    case ldc_w j =>
      dsimp only
      split
      · exact bT_m (hK _ _ _ _ _)
      · exact id
    case ldc2_w j =>
      dsimp only
      split
      · exact bT_m (hK _ _ _ _ _)
      · exact id
    case iadd => exact pI_m fun _ _ => pI_m fun _ _ => hK _ _ _ _ _
    case isub => exact pI_m fun _ _ => pI_m fun _ _ => hK _ _ _ _ _
    case imul => exact pI_m fun _ _ => pI_m fun _ _ => hK _ _ _ _ _
    case ineg => exact pI_m fun _ _ => hK _ _ _ _ _
    case iand => exact pI_m fun _ _ => pI_m fun _ _ => bT_m (hK _ _ _ _ _)
    case i2l => exact pI_m fun _ _ => hK _ _ _ _ _
    case ladd => exact pL_m fun _ _ => pL_m fun _ _ => hK _ _ _ _ _
    case lsub => exact pL_m fun _ _ => pL_m fun _ _ => hK _ _ _ _ _
    case lmul => exact pL_m fun _ _ => pL_m fun _ _ => hK _ _ _ _ _
    case ldiv => exact pL_m fun _ _ => pL_m fun _ _ q => ⟨q.1, hK _ _ _ _ _ q.2⟩
    case lneg => exact pL_m fun _ _ => hK _ _ _ _ _
    case lcmp => exact pL_m fun _ _ => pL_m fun _ _ => hK _ _ _ _ _
    case dup => exact pV_m fun _ _ => bT_m (hK _ _ _ _ _)
    case dup2 => exact pV_m fun _ _ => pV_m fun _ _ => bT_m (hK _ _ _ _ _)
    case pop => exact pV_m fun _ _ => bT_m (hK _ _ _ _ _)
    case goto off => exact jmp_m fun _ => hK _ _ _ _ _
    case ifCond c off => exact pI_m fun _ _ => cnd_m (jmp_m fun _ => hK _ _ _ _ _) (hK _ _ _ _ _)
    case if_icmp c off => exact pI_m fun _ _ => pI_m fun _ _ => cnd_m (jmp_m fun _ => hK _ _ _ _ _) (hK _ _ _ _ _)
    case tableswitch d lo hi offs => exact pI_m fun _ _ q => ⟨swi_m (fun _ => hK _ _ _ _ _) _ _ q.1, fun z => jmp_m (fun _ => hK _ _ _ _ _) (q.2.1 z), q.2.2⟩
    case getfield j =>
      refine pR_m fun f r S => ?_
      split
      · exact id
      · refine bT_m ?_
        split
        · exact hK _ _ _ _ _
        · exact hK _ _ _ _ _
        · exact bT_m (hK _ _ _ _ _)
        · exact id
    case putfield j =>
      dsimp only
      split
      · exact id
      · split
        · exact bT_m (hK _ _ _ _ _)
        · exact bT_m (hK _ _ _ _ _)
        · exact id
    case iaload => exact ald1_m (fun _ _ => hK _ _ _ _ _) (fun _ _ _ _ => hK _ _ _ _ _)
    case baload => exact ald_m (fun _ _ _ _ => hK _ _ _ _ _)
    case laload => exact ald_m (fun _ _ _ _ => hK _ _ _ _ _)
    case aaload => exact ald_m (fun _ _ _ _ => bT_m (hK _ _ _ _ _))
    case iastore => exact pI_m fun _ _ => ald_m (fun _ _ _ _ => hK _ _ _ _ _)
    case bastore => exact pI_m fun _ _ => ald_m (fun _ _ _ _ q => ⟨q.1, hK _ _ _ _ _ q.2⟩)
    case lastore => exact pL_m fun _ _ => ald_m (fun _ _ _ _ => hK _ _ _ _ _)
    case arraylength =>
      refine pQ_m fun z S => ?_
      split
      · exact fun q => ⟨q.1, hK _ _ _ _ _ q.2⟩
      · exact id
    case invokevirtual j => exact ivk_m hK
    case invokestatic j => exact ivk_m hK
    all_goals exact id
def wpk (fam : Nat → Fam) (scr : Option (Nat × Int × (Int → Int))) (cd : Cd) (ER : Option AV → Mm → Prop) (ET : Nat → Mm → Prop) (K : Kt) : Nat → Kt
  | 0 => K
  | n + 1 => stp fam scr cd ER ET (wpk fam scr cd ER ET K n)
/-- fewer locals known -/
def subL : Lo → Lo → Prop
  | [], _ => True
  | none :: a, _ :: b => subL a b
  | some v :: a, w :: b => w = some v ∧ subL a b
  | _ :: _, [] => False
theorem subL_get {v : AV} : ∀ {a b : Lo} {k : Nat}, subL a b → nthO a k = some v → nthO b k = some v
  | [], _, k, _, h => by cases k <;> cases h
  | none :: a, _ :: b, 0, _, h => by cases h
  | none :: a, _ :: b, k + 1, q, h => subL_get (a := a) (b := b) q h
  | some w :: a, u :: b, 0, q, h => by
    have h : some w = some v := h
    show u = some v
    rw [q.1]; exact h
  | some w :: a, u :: b, k + 1, q, h => subL_get (a := a) (b := b) q.2 h
  | none :: _, [], _, q, _ => q.elim
  | some _ :: _, [], _, q, _ => q.elim
def Run (fam : Nat → Fam) (scr : Option (Nat × Int × (Int → Int))) (cd : Cd) (ER : Option AV → Mm → Prop) (ET : Nat → Mm → Prop) : Kt := fun pc n L S μ =>
  ∀ X : Kt, (∀ pc n L S μ, stp fam scr cd ER ET X pc n L S μ → X pc n L S μ) → (∀ pc n L L' S μ, subL L' L → X pc n L' S μ → X pc n L S μ) → X pc n L S μ
theorem run_1 {pc n : Nat} {L : Lo} {S : List AV} {μ : Mm} (h : stp fam scr cd ER ET (Run fam scr cd ER ET) pc n L S μ) : Run fam scr cd ER ET pc n L S μ := fun X hX hW =>
  hX _ _ _ _ _ (stp_m (fun _ _ _ _ _ z => z X hX hW) h)
theorem run_w {pc n : Nat} {L L' : Lo} {S : List AV} {μ : Mm} (hs : subL L' L) (h : Run fam scr cd ER ET pc n L' S μ) : Run fam scr cd ER ET pc n L S μ := fun X hX hW =>
  hW _ _ _ _ _ _ hs (h X hX hW)
theorem run_k (k : Nat) {pc n : Nat} {L : Lo} {S : List AV} {μ : Mm} (h : wpk fam scr cd ER ET (Run fam scr cd ER ET) k pc n L S μ) : Run fam scr cd ER ET pc n L S μ := by
  have key : ∀ (k : Nat) (pc n : Nat) (L : Lo) (S : List AV) (μ : Mm), wpk fam scr cd ER ET (Run fam scr cd ER ET) k pc n L S μ → Run fam scr cd ER ET pc n L S μ := by
    intro k
    induction k with
    | zero => exact fun _ _ _ _ _ h => h
    | succ k ih => exact fun _ _ _ _ _ h => run_1 (stp_m ih h)
  exact key k _ _ _ _ _ h
end
