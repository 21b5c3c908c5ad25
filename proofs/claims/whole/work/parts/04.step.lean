/-! ===== an abstract machine over whole numbers: values, memory, one step as a condition on what comes next ===== -/
abbrev AV : Type := Int ⊕ (Int ⊕ ((Nat × Int) ⊕ Nat))
abbrev Mm : Type := Nat → Int → Int → Int
abbrev vI (x : Int) : AV := Sum.inl x
abbrev vL (x : Int) : AV := Sum.inr (Sum.inl x)
abbrev vR (f : Nat) (r : Int) : AV := Sum.inr (Sum.inr (Sum.inl (f, r)))
abbrev vX (a : Nat) : AV := Sum.inr (Sum.inr (Sum.inr a))
abbrev Lo : Type := List (Option AV)
abbrev Kt : Type := Nat → Nat → Lo → List AV → Mm → Prop
def w32 (x : Int) : Int := x.bmod 4294967296
def w64 (x : Int) : Int := x.bmod 18446744073709551616
def st (μ : Mm) (f : Nat) (r i v : Int) : Mm := fun g s j => if g = f ∧ s = r ∧ j = i then v else μ g s j
def ok32 (x : Int) : Bool := decide (-2147483648 ≤ x) && decide (x ≤ 2147483647)
def ok64 (x : Int) : Bool := decide (-9223372036854775808 ≤ x) && decide (x ≤ 9223372036854775807)
def cmpL (x y : Int) : Int := if y < x then 1 else if x = y then 0 else -1
/-- a family of cells: kind (0 an object, 1 ints, 2 longs, 3 booleans, 4 rows), how many, its class or its length, whose rows, the fields (0 int, 1 long, 3 a cell of the family) -/
abbrev Fam : Type := Nat × Nat × Nat × Nat × List (Nat × Nat)
def nthF : List Fam → Nat → Fam
  | [], _ => (9, 0, 0, 0, [])
  | a :: _, 0 => a
  | _ :: l, n + 1 => nthF l n
def nthP : List (Nat × Nat) → Nat → Nat × Nat
  | [], _ => (9, 0)
  | a :: _, 0 => a
  | _ :: l, n + 1 => nthP l n
def nthO : Lo → Nat → Option AV
  | [], _ => none
  | a :: _, 0 => a
  | _ :: l, n + 1 => nthO l n
def setO : Lo → Nat → Option AV → Lo
  | [], _, _ => []
  | _ :: l, 0, v => v :: l
  | a :: l, n + 1, v => a :: setO l n v
def isLo : Option AV → Bool
  | some (Sum.inr (Sum.inl _)) => true
  | _ => false
def clr (L : Lo) : Nat → Lo
  | 0 => L
  | k + 1 => bif isLo (nthO L k) then setO L k none else L
def st1 (L : Lo) (k : Nat) (v : AV) : Lo := setO (clr L k) k (some v)
def st2 (L : Lo) (k : Nat) (v : AV) : Lo := setO (setO (clr L k) k (some v)) (k + 1) none
def is1 : AV → Bool
  | Sum.inr (Sum.inl _) => false
  | _ => true
def catS : List AV → Nat
  | [] => 0
  | v :: S => (bif is1 v then 1 else 2) + catS S
def pI (S : List AV) (f : Int → List AV → Prop) : Prop := match S with
  | Sum.inl x :: S' => f x S'
  | _ => False
def pL (S : List AV) (f : Int → List AV → Prop) : Prop := match S with
  | Sum.inr (Sum.inl x) :: S' => f x S'
  | _ => False
def pQ (S : List AV) (f : (Nat × Int) ⊕ Nat → List AV → Prop) : Prop := match S with
  | Sum.inr (Sum.inr z) :: S' => f z S'
  | _ => False
def pR (S : List AV) (f : Nat → Int → List AV → Prop) : Prop := match S with
  | Sum.inr (Sum.inr (Sum.inl (g, r))) :: S' => f g r S'
  | _ => False
def pV (S : List AV) (f : AV → List AV → Prop) : Prop := match S with
  | v :: S' => f v S'
  | _ => False
def pE (S : List AV) (A : Prop) : Prop := match S with
  | [] => A
  | _ => False
def gI (L : Lo) (k : Nat) (f : Int → Prop) : Prop := match nthO L k with
  | some (Sum.inl x) => f x
  | _ => False
def gL (L : Lo) (k : Nat) (f : Int → Prop) : Prop := match nthO L k with
  | some (Sum.inr (Sum.inl x)) => f x
  | _ => False
def gQ (L : Lo) (k : Nat) (f : (Nat × Int) ⊕ Nat → Prop) : Prop := match nthO L k with
  | some (Sum.inr (Sum.inr z)) => f z
  | _ => False
def jmp (pc : Nat) (off : Int) (f : Nat → Prop) : Prop := match (pc : Int) + off with
  | Int.ofNat t => f t
  | Int.negSucc _ => False
def bT (b : Bool) (A : Prop) : Prop := bif b then A else False
def cnd (c : ClassFile.Cond) (x y : Int) (A B : Prop) : Prop := match c with
  | .eq => (x = y → A) ∧ (x ≠ y → B)
  | .ne => (x ≠ y → A) ∧ (x = y → B)
  | .lt => (x < y → A) ∧ (y ≤ x → B)
  | .ge => (y ≤ x → A) ∧ (x < y → B)
  | .gt => (y < x → A) ∧ (x ≤ y → B)
  | .le => (x ≤ y → A) ∧ (y < x → B)
def swi (pc : Nat) (x : Int) (f : Nat → Prop) : Int → List Int → Prop
  | _, [] => True
  | lo, o :: os => (x = lo → jmp pc o f) ∧ swi pc x f (lo + 1) os
/-- a callee: how many values it takes, its room, pre, post, and by which class of exception it may end; each under a memory that only the proof knows -/
abbrev Cl : Type := Nat × Nat × (Mm → List AV → Mm → Prop) × (Mm → List AV → Mm → Option AV → Mm → Prop) × (Mm → List AV → Mm → Nat → Prop)
abbrev Hn : Type := Nat × Nat × Nat × Nat
def fH (pc k : Nat) : List Hn → Option Nat
  | [] => none
  | (a, b, h, j) :: l => bif Nat.ble a pc && Nat.blt pc b && Nat.beq j k then some h else fH pc k l
/-- a method: its instructions; constants, fields, callees by their numbers in the pool; its handlers; its throws; locals, kind of answer (0 none, 1 int, 2 long, 3 boolean), room -/
abbrev Cd : Type := (Nat → Option (Instr × Nat)) × (Nat → Option AV) × (Nat → Option (Nat × Nat)) × (Nat → Option Cl) × List Hn × (Nat → Option Nat) × Nat × Nat × Nat
section
variable (fam : Nat → Fam) (scr : Option (Nat × Int × (Int → Int))) (cd : Cd) (ER : Option AV → Mm → Prop) (ET : Nat → Mm → Prop) (K : Kt)
def thr (pc n : Nat) (L : Lo) (μ : Mm) (k : Nat) : Prop := match fH pc k cd.2.2.2.2.1 with
  | some h => ∀ q : Nat, K h n L [vX q] μ
  | none => ET k μ
def ivk (i pc len n : Nat) (L : Lo) (S : List AV) (μ : Mm) : Prop := match cd.2.2.2.1 i with
  | none => False
  | some (na, u, pre, post, pT) => bT (Nat.ble na S.length && Nat.ble (catS (S.drop na)) 8 && Nat.ble (n + u) cd.2.2.2.2.2.2.2.2)
      (∃ σ : Mm, pre σ (S.take na).reverse μ ∧ (∀ ov μ', post σ (S.take na).reverse μ ov μ' → K (pc + len) (n + u) L (ov.toList ++ S.drop na) μ') ∧ ∀ k, pT σ (S.take na).reverse μ k → thr cd ET K pc (n + u) L μ k)
def ald (kd : Nat) (S : List AV) (f : Nat → Int → Int → List AV → Prop) : Prop := pI S fun i S => pR S fun g r S => bT (Nat.beq (fam g).1 kd) ((0 ≤ i ∧ i < ((fam g).2.2.1 : Int)) ∧ f g r i S)
def ald1 (S : List AV) (A : Int → List AV → Prop) (f : Nat → Int → Int → List AV → Prop) : Prop := pI S fun i S => pQ S fun z S => match z with
  | Sum.inl (g, r) => bT (Nat.beq (fam g).1 1) ((0 ≤ i ∧ i < ((fam g).2.2.1 : Int)) ∧ f g r i S)
  | Sum.inr a => match scr with
    | none => False
    | some (b, L, xs) => a = b ∧ (0 ≤ i ∧ i < L) ∧ A (xs i) S
/-- one step: what must hold now for K to hold next -/
def stp (pc n : Nat) (L : Lo) (S : List AV) (μ : Mm) : Prop := match cd.1 pc with
  | none => False
  | some (i, len) => match i with
    | .iload_n k => gI L k fun x => K (pc + len) n L (vI x :: S) μ
    | .iload k => gI L k fun x => K (pc + len) n L (vI x :: S) μ
    | .lload_n k => gL L k fun x => K (pc + len) n L (vL x :: S) μ
    | .lload k => gL L k fun x => K (pc + len) n L (vL x :: S) μ
    | .aload_n k => gQ L k fun z => K (pc + len) n L (Sum.inr (Sum.inr z) :: S) μ
    | .aload k => gQ L k fun z => K (pc + len) n L (Sum.inr (Sum.inr z) :: S) μ
    | .istore_n k => pI S fun x S => bT (Nat.blt k cd.2.2.2.2.2.2.1) (K (pc + len) n (st1 L k (vI x)) S μ)
    | .istore k => pI S fun x S => bT (Nat.blt k cd.2.2.2.2.2.2.1) (K (pc + len) n (st1 L k (vI x)) S μ)
    | .lstore_n k => pL S fun x S => bT (Nat.blt (k + 1) cd.2.2.2.2.2.2.1) (K (pc + len) n (st2 L k (vL x)) S μ)
    | .lstore k => pL S fun x S => bT (Nat.blt (k + 1) cd.2.2.2.2.2.2.1) (K (pc + len) n (st2 L k (vL x)) S μ)
    | .astore_n k => pQ S fun z S => bT (Nat.blt k cd.2.2.2.2.2.2.1) (K (pc + len) n (st1 L k (Sum.inr (Sum.inr z))) S μ)
    | .astore k => pQ S fun z S => bT (Nat.blt k cd.2.2.2.2.2.2.1) (K (pc + len) n (st1 L k (Sum.inr (Sum.inr z))) S μ)
    | .iinc k d => gI L k fun x => bT (Nat.blt k cd.2.2.2.2.2.2.1) (K (pc + len) n (st1 L k (vI (w32 (x + d)))) S μ)
    | .iconst v => bT (ok32 v) (K (pc + len) n L (vI v :: S) μ)
    | .bipush v => bT (decide (-128 ≤ v) && decide (v ≤ 127)) (K (pc + len) n L (vI v :: S) μ)
    | .sipush v => bT (decide (-32768 ≤ v) && decide (v ≤ 32767)) (K (pc + len) n L (vI v :: S) μ)
    | .lconst k => K (pc + len) n L (vL (k.val : Int) :: S) μ
    | .ldc j => match cd.2.1 j with
      | some (Sum.inl v) => bT (ok32 v) (K (pc + len) n L (vI v :: S) μ)
      | _ => False
    | .ldc_w j => match cd.2.1 j with
      | some (Sum.inl v) => bT (ok32 v) (K (pc + len) n L (vI v :: S) μ)
      | _ => False
    | .ldc2_w j => match cd.2.1 j with
      | some (Sum.inr (Sum.inl v)) => bT (ok64 v) (K (pc + len) n L (vL v :: S) μ)
      | _ => False
    | .iadd => pI S fun y S => pI S fun x S => K (pc + len) n L (vI (w32 (x + y)) :: S) μ
    | .isub => pI S fun y S => pI S fun x S => K (pc + len) n L (vI (w32 (x - y)) :: S) μ
    | .imul => pI S fun y S => pI S fun x S => K (pc + len) n L (vI (w32 (x * y)) :: S) μ
    | .ineg => pI S fun x S => K (pc + len) n L (vI (w32 (-x)) :: S) μ
    | .iand => pI S fun y S => pI S fun x S => bT (decide (y = 31)) (K (pc + len) n L (vI (x % 32) :: S) μ)
    | .i2l => pI S fun x S => K (pc + len) n L (vL x :: S) μ
    | .ladd => pL S fun y S => pL S fun x S => K (pc + len) n L (vL (w64 (x + y)) :: S) μ
    | .lsub => pL S fun y S => pL S fun x S => K (pc + len) n L (vL (w64 (x - y)) :: S) μ
    | .lmul => pL S fun y S => pL S fun x S => K (pc + len) n L (vL (w64 (x * y)) :: S) μ
    | .ldiv => pL S fun y S => pL S fun x S => y ≠ 0 ∧ K (pc + len) n L (vL (w64 (x.tdiv y)) :: S) μ
    | .lneg => pL S fun x S => K (pc + len) n L (vL (w64 (-x)) :: S) μ
    | .lcmp => pL S fun y S => pL S fun x S => K (pc + len) n L (vI (cmpL x y) :: S) μ
    | .dup => pV S fun v S => bT (is1 v) (K (pc + len) n L (v :: v :: S) μ)
    | .dup2 => pV S fun v S => pV S fun w S => bT (is1 v && is1 w) (K (pc + len) n L (v :: w :: v :: w :: S) μ)
    | .pop => pV S fun v S => bT (is1 v) (K (pc + len) n L S μ)
    | .goto off => jmp pc off fun t => K t n L S μ
    | .ifCond c off => pI S fun x S => cnd c x 0 (jmp pc off fun t => K t n L S μ) (K (pc + len) n L S μ)
    | .if_icmp c off => pI S fun y S => pI S fun x S => cnd c x y (jmp pc off fun t => K t n L S μ) (K (pc + len) n L S μ)
    | .tableswitch d lo hi offs => pI S fun x S => swi pc x (fun t => K t n L S μ) lo offs.toList ∧ (x < lo ∨ lo + (offs.toList.length : Int) ≤ x → jmp pc d fun t => K t n L S μ) ∧ lo + (offs.toList.length : Int) = hi + 1
    | .getfield j => pR S fun f r S => match cd.2.2.1 j with
      | none => False
      | some (ci, k) => bT (Nat.beq (fam f).1 0 && Nat.beq (fam f).2.2.1 ci) (match nthP (fam f).2.2.2.2 k with
        | (0, _) => K (pc + len) n L (vI (μ f r k) :: S) μ
        | (1, _) => K (pc + len) n L (vL (μ f r k) :: S) μ
        | (3, g) => bT (Nat.blt 0 (fam g).2.1) (K (pc + len) n L (vR g 0 :: S) μ)
        | _ => False)
    | .putfield j => match cd.2.2.1 j with
      | none => False
      | some (ci, k) => match S with
        | Sum.inl v :: Sum.inr (Sum.inr (Sum.inl (f, r))) :: S => bT (Nat.beq (fam f).1 0 && Nat.beq (fam f).2.2.1 ci && Nat.beq (nthP (fam f).2.2.2.2 k).1 0) (K (pc + len) n L S (st μ f r k v))
        | Sum.inr (Sum.inl v) :: Sum.inr (Sum.inr (Sum.inl (f, r))) :: S => bT (Nat.beq (fam f).1 0 && Nat.beq (fam f).2.2.1 ci && Nat.beq (nthP (fam f).2.2.2.2 k).1 1) (K (pc + len) n L S (st μ f r k v))
        | _ => False
    | .iaload => ald1 fam scr S (fun x S => K (pc + len) n L (vI x :: S) μ) fun f r i S => K (pc + len) n L (vI (μ f r i) :: S) μ
    | .baload => ald fam 3 S fun f r i S => K (pc + len) n L (vI (μ f r i) :: S) μ
    | .laload => ald fam 2 S fun f r i S => K (pc + len) n L (vL (μ f r i) :: S) μ
    | .aaload => ald fam 4 S fun f _ i S => bT (Nat.ble (fam f).2.2.1 (fam (fam f).2.2.2.1).2.1) (K (pc + len) n L (vR (fam f).2.2.2.1 i :: S) μ)
    | .iastore => pI S fun v S => ald fam 1 S fun f r i S => K (pc + len) n L S (st μ f r i v)
    | .bastore => pI S fun v S => ald fam 3 S fun f r i S => (v = 0 ∨ v = 1) ∧ K (pc + len) n L S (st μ f r i v)
    | .lastore => pL S fun v S => ald fam 2 S fun f r i S => K (pc + len) n L S (st μ f r i v)
    | .arraylength => pQ S fun z S => match z, scr with
      | Sum.inr a, some (b, N, _) => a = b ∧ K (pc + len) n L (vI N :: S) μ
      | _, _ => False
    | .invokevirtual j => ivk cd ET K j pc len n L S μ
    | .invokestatic j => ivk cd ET K j pc len n L S μ
    | .new _ => pE S (match cd.2.2.2.2.2.1 pc with
      | some k => bT (Nat.blt n cd.2.2.2.2.2.2.2.2) (ET k μ)
      | none => False)
    | .ireturn => pI S fun x S => pE S (bT (Nat.ble n cd.2.2.2.2.2.2.2.2) (match cd.2.2.2.2.2.2.2.1 with
      | 1 => ER (some (vI x)) μ
      | 3 => (x = 0 ∨ x = 1) ∧ ER (some (vI x)) μ
      | _ => False))
    | .lreturn => pL S fun x S => pE S (bT (Nat.ble n cd.2.2.2.2.2.2.2.2 && Nat.beq cd.2.2.2.2.2.2.2.1 2) (ER (some (vL x)) μ))
    | .return_ => pE S (bT (Nat.ble n cd.2.2.2.2.2.2.2.2 && Nat.beq cd.2.2.2.2.2.2.2.1 0) (ER none μ))
    | _ => False
end
