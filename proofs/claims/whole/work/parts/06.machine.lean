/-! A small machine over a small heap, that runs the lists of instructions. Values: an int, a long, a reference (none: null). -/
abbrev zV : Type := Int32 ⊕ (Int64 ⊕ Option Nat)
abbrev vI (x : Int32) : zV := .inl x
abbrev vL (x : Int64) : zV := .inr (.inl x)
abbrev vR (r : Option Nat) : zV := .inr (.inr r)
/-- the heap: the next address, slots used, what a cell is (number of its type, length), its ints, its references -/
abbrev zH : Type := Nat × Nat × (Nat → Nat × Nat) × (Nat → Nat → Int32) × (Nat → Nat → Option Nat)
def zn (h : zH) : Nat := h.1
def zs (h : zH) : Nat := h.2.1
def zk (h : zH) (a : Nat) : Nat × Nat := h.2.2.1 a
def zi (h : zH) (a k : Nat) : Int32 := h.2.2.2.1 a k
def zr (h : zH) (a k : Nat) : Option Nat := h.2.2.2.2 a k
def zui (h : zH) (a k : Nat) (x : Int32) : zH := (h.1, h.2.1, h.2.2.1, (fun b j => if b = a ∧ j = k then x else h.2.2.2.1 b j), h.2.2.2.2)
def zur (h : zH) (a k : Nat) (x : Option Nat) : zH := (h.1, h.2.1, h.2.2.1, h.2.2.2.1, (fun b j => if b = a ∧ j = k then x else h.2.2.2.2 b j))
def znw (h : zH) (t N : Nat) : zH := (h.1 + 1, h.2.1 + N, (fun b => if b = h.1 then (t, N) else h.2.2.1 b), (fun b j => if b = h.1 then 0 else h.2.2.2.1 b j), (fun b j => if b = h.1 then none else h.2.2.2.2 b j))
def zcy (h : zH) (a b sp dp n : Nat) : zH := (h.1, h.2.1, h.2.2.1, h.2.2.2.1, (fun c j => if c = b then va_cpy (h.2.2.2.2 a) (h.2.2.2.2 b) sp dp n j else h.2.2.2.2 c j))
/-- a field of an object of class t; a place of an array; a cell that is an object -/
abbrev zok (h : zH) (a t k : Nat) : Prop := 8 ≤ a ∧ a < zn h ∧ (zk h a).1 = t ∧ k < (zk h a).2
abbrev zix (h : zH) (a t : Nat) (i : Int32) : Prop := a < zn h ∧ (zk h a).1 = t ∧ ¬ i < 0 ∧ i.toNatClampNeg < (zk h a).2
abbrev zob (h : zH) (a : Nat) : Prop := 8 ≤ a ∧ a < zn h ∧ ((zk h a).1 = 1 ∨ (zk h a).1 = 2)
section ZC
variable {α : Type}
def zgI (h : zH) (r : Option Nat) (t k : Nat) (f : Int32 → Option α) : Option α := match r with
  | none => none
  | some a => if zok h a t k then f (zi h a k) else none
def zgR (h : zH) (r : Option Nat) (t k : Nat) (f : Option Nat → Option α) : Option α := match r with
  | none => none
  | some a => if zok h a t k then f (zr h a k) else none
def zpI (h : zH) (r : Option Nat) (t k : Nat) (x : Int32) (f : zH → Option α) : Option α := match r with
  | none => none
  | some a => if zok h a t k then f (zui h a k x) else none
def zpZ (h : zH) (r : Option Nat) (t k : Nat) (x : Int32) (f : zH → Option α) : Option α := match r with
  | none => none
  | some a => if zok h a t k ∧ (x = 0 ∨ x = 1) then f (zui h a k x) else none
def zpR (h : zH) (r : Option Nat) (t k : Nat) (x : Option Nat) (f : zH → Option α) : Option α := match r with
  | none => none
  | some a => if zok h a t k then f (zur h a k x) else none
def zaI (h : zH) (r : Option Nat) (i : Int32) (f : Int32 → Option α) : Option α := match r with
  | none => none
  | some a => if zix h a 100 i then f (zi h a i.toNatClampNeg) else none
def zaB (h : zH) (r : Option Nat) (i : Int32) (f : Int32 → Option α) : Option α := match r with
  | none => none
  | some a => if 8 ≤ a ∧ (zix h a 101 i ∨ zix h a 102 i) then f (zi h a i.toNatClampNeg) else none
def zaR (h : zH) (r : Option Nat) (i : Int32) (f : Option Nat → Option α) : Option α := match r with
  | none => none
  | some a => if 8 ≤ a ∧ zix h a 103 i then f (zr h a i.toNatClampNeg) else none
def ztI (h : zH) (r : Option Nat) (i x : Int32) (f : zH → Option α) : Option α := match r with
  | none => none
  | some a => if 8 ≤ a ∧ zix h a 100 i then f (zui h a i.toNatClampNeg x) else none
def ztB (h : zH) (r : Option Nat) (i x : Int32) (f : zH → Option α) : Option α := match r with
  | none => none
  | some a => if 8 ≤ a ∧ zix h a 101 i then f (zui h a i.toNatClampNeg x.toInt8.toInt32) else if 8 ≤ a ∧ zix h a 102 i ∧ (x = 0 ∨ x = 1) then f (zui h a i.toNatClampNeg x) else none
def ztR (h : zH) (r : Option Nat) (i : Int32) (x : Option Nat) (f : zH → Option α) : Option α := match r with
  | none => none
  | some a => if 8 ≤ a ∧ zix h a 103 i ∧ (x.all fun y => decide (zob h y)) = true then f (zur h a i.toNatClampNeg x) else none
def zal (h : zH) (r : Option Nat) (f : Int32 → Option α) : Option α := match r with
  | none => none
  | some a => if a < zn h ∧ 100 ≤ (zk h a).1 then f (Int32.ofNat (zk h a).2) else none
def zno (h : zH) (t : Nat) (f : Option Nat → zH → Option α) : Option α := f (some (zn h)) (znw h t (zcl t).2.2)
def zna (h : zH) (t : Nat) (n : Int32) (f : Option Nat → zH → Option α) : Option α := if ¬ n < 0 ∧ n.toNatClampNeg ≤ 100000 then f (some (zn h)) (znw h t n.toNatClampNeg) else none
def zca (h : zH) (t : Nat) (r : Option Nat) (f : Option α) : Option α := match r with
  | none => f
  | some a => if 8 ≤ a ∧ a < zn h ∧ (zk h a).1 = t then f else none
def zcO (h : zH) (r : Option Nat) (n : Int32) (f : Option Nat → zH → Option α) : Option α := match r with
  | none => none
  | some a => if 8 ≤ a ∧ a < zn h ∧ (zk h a).1 = 103 ∧ ¬ n < 0 ∧ n.toNatClampNeg ≤ 100000 ∧ (zk h a).2 ≤ n.toNatClampNeg ∧ (∀ i, i < (zk h a).2 → ((zr h a i).all fun y => decide (zob h y)) = true) then f (some (zn h)) (zcy (znw h 103 n.toNatClampNeg) a (zn h) 0 0 (zk h a).2) else none
def zcM (h : zH) (r : Option Nat) (sp : Int32) (q : Option Nat) (dp n : Int32) (f : zH → Option α) : Option α := match r, q with
  | some a, some b => if 8 ≤ a ∧ a < zn h ∧ 8 ≤ b ∧ b < zn h ∧ (zk h a).1 = 103 ∧ (zk h b).1 = 103 ∧ ¬ sp < 0 ∧ ¬ dp < 0 ∧ ¬ n < 0 ∧ sp.toNatClampNeg + n.toNatClampNeg ≤ (zk h a).2 ∧ dp.toNatClampNeg + n.toNatClampNeg ≤ (zk h b).2 ∧ (∀ i, i < n.toNatClampNeg → ((zr h a (sp.toNatClampNeg + i)).all fun y => decide (zob h y)) = true) then f (zcy h a b sp.toNatClampNeg dp.toNatClampNeg n.toNatClampNeg) else none
  | _, _ => none
def zdv (y : Int32) (f : Option α) : Option α := if y = 0 then none else f
def zac (x y : Option Nat) (f g : Option α) : Option α := if (x.all fun a => decide (7 ≤ a)) = true ∧ (y.all fun a => decide (7 ≤ a)) = true then (if x = y then f else g) else none
end ZC
abbrev zLs : Type := List (Option zV)
/-- storing into a local: never over the second half of a long -/
def zsto (ls : zLs) (i : Nat) (v : zV) : Option zLs := if i < ls.length then (match i with
  | 0 => some (ls.set 0 (some v))
  | j + 1 => match ls[j]? with
    | some (some (.inr (.inl _))) => none
    | _ => some (ls.set (j + 1) (some v))) else none
def zstl2 (ls : zLs) (i : Nat) (v : zV) : Option zLs := if i + 1 < ls.length then (match i with
  | 0 => some ((ls.set 0 (some v)).set 1 none)
  | j + 1 => match ls[j]? with
    | some (some (.inr (.inl _))) => none
    | _ => some ((ls.set (j + 1) (some v)).set (j + 2) none)) else none
def zsm (v : zV) : Bool := match v with
  | .inr (.inl _) => false
  | _ => true
def zct (v : zV) : Nat := match v with
  | .inr (.inl _) => 2
  | _ => 1
def zcs (st : List zV) : Nat := (st.map zct).sum
abbrev zP : Type := Nat × zLs × List zV
def zj1 (c : Jvm.ClassFile.Cond) (x : Int32) : Bool := match c with
  | .eq => decide (x = 0)
  | .ne => decide (¬ x = 0)
  | .lt => decide (x < 0)
  | .ge => decide (0 ≤ x)
  | .gt => decide (0 < x)
  | .le => decide (x ≤ 0)
def zj2 (c : Jvm.ClassFile.Cond) (x y : Int32) : Bool := match c with
  | .eq => decide (x = y)
  | .ne => decide (¬ x = y)
  | .lt => decide (x < y)
  | .ge => decide (y ≤ x)
  | .gt => decide (y < x)
  | .le => decide (x ≤ y)
/-- the instructions that touch no heap -/
def zp1 (i : Instr) (a : Nat) (n : Int) (pc : Nat) (ls : zLs) (st : List zV) : Option zP :=
  match i with
  | .aconst_null => some (pc + 1, ls, vR none :: st)
  | .iconst k => some (pc + 1, ls, vI (Int32.ofInt k) :: st)
  | .lconst k => some (pc + 1, ls, vL (Int64.ofNat k.val) :: st)
  | .bipush k => some (pc + 2, ls, vI (Int8.ofInt k).toInt32 :: st)
  | .sipush k => some (pc + 3, ls, vI (Int16.ofInt k).toInt32 :: st)
  | .ldc _ => some (pc + 2, ls, vI (Int32.ofInt n) :: st)
  | .ldc2_w _ => some (pc + 3, ls, vL (Int64.ofInt n) :: st)
  | .iload k => match ls[k]? with
    | some (some (.inl x)) => some (pc + 2, ls, vI x :: st)
    | _ => none
  | .iload_n k => match ls[k.val]? with
    | some (some (.inl x)) => some (pc + 1, ls, vI x :: st)
    | _ => none
  | .lload k => match ls[k]? with
    | some (some (.inr (.inl x))) => some (pc + 2, ls, vL x :: st)
    | _ => none
  | .lload_n k => match ls[k.val]? with
    | some (some (.inr (.inl x))) => some (pc + 1, ls, vL x :: st)
    | _ => none
  | .aload k => match ls[k]? with
    | some (some (.inr (.inr x))) => some (pc + 2, ls, vR x :: st)
    | _ => none
  | .aload_n k => match ls[k.val]? with
    | some (some (.inr (.inr x))) => some (pc + 1, ls, vR x :: st)
    | _ => none
  | .istore k => match st with
    | .inl x :: st => (zsto ls k (vI x)).map fun ls' => (pc + 2, ls', st)
    | _ => none
  | .istore_n k => match st with
    | .inl x :: st => (zsto ls k.val (vI x)).map fun ls' => (pc + 1, ls', st)
    | _ => none
  | .astore k => match st with
    | .inr (.inr x) :: st => (zsto ls k (vR x)).map fun ls' => (pc + 2, ls', st)
    | _ => none
  | .astore_n k => match st with
    | .inr (.inr x) :: st => (zsto ls k.val (vR x)).map fun ls' => (pc + 1, ls', st)
    | _ => none
  | .lstore k => match st with
    | .inr (.inl x) :: st => (zstl2 ls k (vL x)).map fun ls' => (pc + 2, ls', st)
    | _ => none
  | .lstore_n k => match st with
    | .inr (.inl x) :: st => (zstl2 ls k.val (vL x)).map fun ls' => (pc + 1, ls', st)
    | _ => none
  | .iinc k c => match ls[k]? with
    | some (some (.inl x)) => (zsto ls k (vI (x + Int32.ofInt c))).map fun ls' => (pc + 3, ls', st)
    | _ => none
  | .iadd => match st with
    | .inl y :: .inl x :: st => some (pc + 1, ls, vI (x + y) :: st)
    | _ => none
  | .isub => match st with
    | .inl y :: .inl x :: st => some (pc + 1, ls, vI (x - y) :: st)
    | _ => none
  | .imul => match st with
    | .inl y :: .inl x :: st => some (pc + 1, ls, vI (x * y) :: st)
    | _ => none
  | .iand => match st with
    | .inl y :: .inl x :: st => some (pc + 1, ls, vI (x &&& y) :: st)
    | _ => none
  | .ishr => match st with
    | .inl y :: .inl x :: st => some (pc + 1, ls, vI (x >>> (y &&& 31)) :: st)
    | _ => none
  | .ineg => match st with
    | .inl x :: st => some (pc + 1, ls, vI (-x) :: st)
    | _ => none
  | .idiv => match st with
    | .inl y :: .inl x :: st => zdv y (some (pc + 1, ls, vI (x / y) :: st))
    | _ => none
  | .irem => match st with
    | .inl y :: .inl x :: st => zdv y (some (pc + 1, ls, vI (x - x / y * y) :: st))
    | _ => none
  | .land => match st with
    | .inr (.inl y) :: .inr (.inl x) :: st => some (pc + 1, ls, vL (x &&& y) :: st)
    | _ => none
  | .lor => match st with
    | .inr (.inl y) :: .inr (.inl x) :: st => some (pc + 1, ls, vL (x ||| y) :: st)
    | _ => none
  | .lshl => match st with
    | .inl y :: .inr (.inl x) :: st => some (pc + 1, ls, vL (x <<< (y.toInt64 &&& 63)) :: st)
    | _ => none
  | .lshr => match st with
    | .inl y :: .inr (.inl x) :: st => some (pc + 1, ls, vL (x >>> (y.toInt64 &&& 63)) :: st)
    | _ => none
  | .lcmp => match st with
    | .inr (.inl y) :: .inr (.inl x) :: st => some (pc + 1, ls, vI (lg_cmp x y) :: st)
    | _ => none
  | .i2l => match st with
    | .inl x :: st => some (pc + 1, ls, vL x.toInt64 :: st)
    | _ => none
  | .l2i => match st with
    | .inr (.inl x) :: st => some (pc + 1, ls, vI x.toInt32 :: st)
    | _ => none
  | .i2b => match st with
    | .inl x :: st => some (pc + 1, ls, vI x.toInt8.toInt32 :: st)
    | _ => none
  | .pop => match st with
    | v :: st => if zsm v then some (pc + 1, ls, st) else none
    | _ => none
  | .dup => match st with
    | v :: st => if zsm v then some (pc + 1, ls, v :: v :: st) else none
    | _ => none
  | .dup_x1 => match st with
    | v :: w :: st => if zsm v && zsm w then some (pc + 1, ls, v :: w :: v :: st) else none
    | _ => none
  | .dup2 => match st with
    | v :: w :: st => if zsm v && zsm w then some (pc + 1, ls, v :: w :: v :: w :: st) else none
    | _ => none
  | .ifCond c _ => match st with
    | .inl x :: st => if zj1 c x then some (a, ls, st) else some (pc + 3, ls, st)
    | _ => none
  | .if_icmp c _ => match st with
    | .inl y :: .inl x :: st => if zj2 c x y then some (a, ls, st) else some (pc + 3, ls, st)
    | _ => none
  | .if_acmp .eq _ => match st with
    | .inr (.inr y) :: .inr (.inr x) :: st => zac x y (some (a, ls, st)) (some (pc + 3, ls, st))
    | _ => none
  | .if_acmp .ne _ => match st with
    | .inr (.inr y) :: .inr (.inr x) :: st => zac x y (some (pc + 3, ls, st)) (some (a, ls, st))
    | _ => none
  | .ifnull _ => match st with
    | .inr (.inr none) :: st => some (a, ls, st)
    | .inr (.inr (some _)) :: st => some (pc + 3, ls, st)
    | _ => none
  | .ifnonnull _ => match st with
    | .inr (.inr none) :: st => some (pc + 3, ls, st)
    | .inr (.inr (some _)) :: st => some (a, ls, st)
    | _ => none
  | .goto _ => some (a, ls, st)
  | .tableswitch d lo hi offs => match st with
    | .inl x :: st => if x.toInt < lo ∨ hi < x.toInt then some (((pc : Int) + d).toNat, ls, st) else (offs[(x.toInt - lo).toNat]?).map fun o => (((pc : Int) + o).toNat, ls, st)
    | _ => none
  | .lookupswitch d ps => match st with
    | .inl x :: st => some (((pc : Int) + Op.lookupswitch.offset ps.toList d x.toInt).toNat, ls, st)
    | _ => none
  | .getstatic _ => some (pc + 3, ls, vR (some a) :: st)
  | _ => none
abbrev zQ : Type := Nat × zLs × List zV × zH
def zft (t k : Nat) : Nat := match ztf t k with
  | .int => 0
  | .boolean => 1
  | _ => 2
/-- the instructions that read or write the heap, and stay in the method -/
def zh1 (i : Instr) (a b : Nat) (pc : Nat) (ls : zLs) (st : List zV) (h : zH) : Option zQ :=
  match i with
  | .getfield _ => match st with
    | .inr (.inr r) :: st => if zft a b = 2 then zgR h r a b (fun x => some (pc + 3, ls, vR x :: st, h)) else zgI h r a b (fun x => some (pc + 3, ls, vI x :: st, h))
    | _ => none
  | .putfield _ => match st with
    | .inl x :: .inr (.inr r) :: st => if zft a b = 0 then zpI h r a b x (fun h => some (pc + 3, ls, st, h)) else if zft a b = 1 then zpZ h r a b x (fun h => some (pc + 3, ls, st, h)) else none
    | .inr (.inr x) :: .inr (.inr r) :: st => if zft a b = 2 then zpR h r a b x (fun h => some (pc + 3, ls, st, h)) else none
    | _ => none
  | .iaload => match st with
    | .inl i :: .inr (.inr r) :: st => zaI h r i (fun x => some (pc + 1, ls, vI x :: st, h))
    | _ => none
  | .baload => match st with
    | .inl i :: .inr (.inr r) :: st => zaB h r i (fun x => some (pc + 1, ls, vI x :: st, h))
    | _ => none
  | .aaload => match st with
    | .inl i :: .inr (.inr r) :: st => zaR h r i (fun x => some (pc + 1, ls, vR x :: st, h))
    | _ => none
  | .iastore => match st with
    | .inl x :: .inl i :: .inr (.inr r) :: st => ztI h r i x (fun h => some (pc + 1, ls, st, h))
    | _ => none
  | .bastore => match st with
    | .inl x :: .inl i :: .inr (.inr r) :: st => ztB h r i x (fun h => some (pc + 1, ls, st, h))
    | _ => none
  | .aastore => match st with
    | .inr (.inr x) :: .inl i :: .inr (.inr r) :: st => ztR h r i x (fun h => some (pc + 1, ls, st, h))
    | _ => none
  | .arraylength => match st with
    | .inr (.inr r) :: st => zal h r (fun x => some (pc + 1, ls, vI x :: st, h))
    | _ => none
  | .new _ => zno h a (fun r h => some (pc + 3, ls, vR r :: st, h))
  | .newarray _ => match st with
    | .inl n :: st => zna h a n (fun r h => some (pc + 2, ls, vR r :: st, h))
    | _ => none
  | .anewarray _ => match st with
    | .inl n :: st => zna h 103 n (fun r h => some (pc + 3, ls, vR r :: st, h))
    | _ => none
  | .checkcast _ => match st with
    | .inr (.inr r) :: st => zca h a r (some (pc + 3, ls, vR r :: st, h))
    | _ => none
  | .invokespecial _ => if a = 1 then (match st with
    | .inr (.inr (some _)) :: st => if zcs st ≤ 8 then some (pc + 3, ls, st, h) else none
    | _ => none) else none
  | .invokestatic _ => if a = 1000 then (match st with
    | .inl n :: .inl dp :: .inr (.inr q) :: .inl sp :: .inr (.inr r) :: st => if zcs st ≤ 8 then zcM h r sp q dp n (fun h => some (pc + 3, ls, st, h)) else none
    | _ => none) else if a = 36 then (match st with
    | .inl n :: .inr (.inr r) :: st => if zcs st ≤ 8 then zcO h r n (fun q h => some (pc + 3, ls, vR q :: st, h)) else none
    | _ => none) else none
  | _ => none
/-- the arguments off the stack -/
def zpop : Nat → List zV → List zV → Option (List zV × List zV)
  | 0, as, st => some (as, st)
  | n + 1, as, v :: st => zpop n (v :: as) st
  | _ + 1, _, [] => none
/-- the locals with which a method begins -/
def zexp : List zV → zLs
  | [] => []
  | .inr (.inl x) :: as => some (vL x) :: none :: zexp as
  | v :: as => some v :: zexp as
def zent (m : Nat) (as : List zV) : zLs := zexp as ++ List.replicate (zL m - (zexp as).length) none
abbrev zA : Type := zQ ⊕ ((Option zV × zH) ⊕ (Nat × List zV × zQ))
def zrt (m : Nat) : Nat := match zRt m with
  | none => 0
  | some .int => 1
  | some .boolean => 2
  | some (.object _) => 3
  | some (.array _) => 3
  | _ => 4
/-- calls and returns -/
def zc1 (m : Nat) (i : Instr) (a b : Nat) (pc : Nat) (ls : zLs) (st : List zV) (h : zH) : Option zA :=
  match i with
  | .invokevirtual _ => match zpop b [] st with
    | some (as, .inr (.inr (some r)) :: st) => if 8 ≤ r ∧ r < zn h ∧ (zk h r).1 = zcn a ∧ zcs st ≤ 8 ∧ (zexp (vR (some r) :: as)).length ≤ zL a then some (.inr (.inr (a, vR (some r) :: as, pc + 3, ls, st, h))) else none
    | _ => none
  | .invokespecial _ => if a = 1 then none else match zpop b [] st with
    | some (as, .inr (.inr (some r)) :: st) => if zcs st ≤ 8 ∧ (zexp (vR (some r) :: as)).length ≤ zL a then some (.inr (.inr (a, vR (some r) :: as, pc + 3, ls, st, h))) else none
    | _ => none
  | .invokestatic _ => if a = 1000 ∨ a = 36 then none else match zpop b [] st with
    | some (as, st) => if zcs st ≤ 8 ∧ (zexp as).length ≤ zL a then some (.inr (.inr (a, as, pc + 3, ls, st, h))) else none
    | _ => none
  | .ireturn => match st with
    | [.inl x] => if zrt m = 1 ∨ (zrt m = 2 ∧ (x = 0 ∨ x = 1)) then some (.inr (.inl (some (vI x), h))) else none
    | _ => none
  | .areturn => match st with
    | [.inr (.inr r)] => if zrt m = 3 then some (.inr (.inl (some (vR r), h))) else none
    | _ => none
  | .return_ => match st with
    | [] => if zrt m = 0 then some (.inr (.inl (none, h))) else none
    | _ => none
  | _ => none
def zst1 (m : Nat) (i : Instr) (a b : Nat) (n : Int) (pc : Nat) (ls : zLs) (st : List zV) (h : zH) : Option zA :=
  match zp1 i a n pc ls st with
  | some q => some (.inl (q.1, q.2.1, q.2.2, h))
  | none => match zh1 i a b pc ls st h with
    | some q => some (.inl q)
    | none => zc1 m i a b pc ls st h
def zstp (m pc : Nat) (ls : zLs) (st : List zV) (h : zH) : Option zA := match zcod m pc with
  | none => none
  | some (i, _, a, b, _, n) => zst1 m i a b n pc ls st h
def zex : Nat → Nat → Nat → zLs → List zV → zH → Option (Option zV × zH)
  | 0, _, _, _, _, _ => none
  | n + 1, m, pc, ls, st, h => match zstp m pc ls st h with
    | none => none
    | some (.inl q) => zex n m q.1 q.2.1 q.2.2.1 q.2.2.2
    | some (.inr (.inl r)) => some r
    | some (.inr (.inr (k, as, q))) => match zex n k 0 (zent k as) [] q.2.2.2 with
      | none => none
      | some r => zex n m q.1 q.2.1 (r.1.toList ++ q.2.2.1) r.2
theorem zex_mono : ∀ (n m pc : Nat) (ls : zLs) (st : List zV) (h : zH) (r : Option zV × zH), zex n m pc ls st h = some r → zex (n + 1) m pc ls st h = some r
  | 0, _, _, _, _, _, _, hr => by simp [zex] at hr
  | n + 1, m, pc, ls, st, h, r, hr => by
    unfold zex at hr ⊢
    cases hs : zstp m pc ls st h with
    | none => rw [hs] at hr; simp at hr
    | some q =>
      rw [hs] at hr
      match q with
      | .inl q => exact zex_mono n _ _ _ _ _ _ hr
      | .inr (.inl q) => exact hr
      | .inr (.inr (k, as, q)) =>
        simp only at hr ⊢
        cases hc : zex n k 0 (zent k as) [] q.2.2.2 with
        | none => rw [hc] at hr; simp at hr
        | some r1 =>
          rw [hc] at hr
          rw [zex_mono n _ _ _ _ _ _ hc]
          exact zex_mono n _ _ _ _ _ _ hr
theorem zex_le {n k m pc : Nat} {ls : zLs} {st : List zV} {h : zH} {r : Option zV × zH} (hn : n ≤ k) (hr : zex n m pc ls st h = some r) : zex k m pc ls st h = some r := by
  induction hn with
  | refl => exact hr
  | step _ ih => exact zex_mono _ _ _ _ _ _ _ ih
/-- what a run comes to, whatever its length -/
noncomputable def zev (m pc : Nat) (ls : zLs) (st : List zV) (h : zH) : Option (Option zV × zH) :=
  @dite _ (∃ n r, zex n m pc ls st h = some r) (Classical.propDecidable _) (fun H => zex H.choose m pc ls st h) (fun _ => none)
theorem zev_of {n m pc : Nat} {ls : zLs} {st : List zV} {h : zH} {r : Option zV × zH} (hr : zex n m pc ls st h = some r) : zev m pc ls st h = some r := by
  have H : ∃ n r, zex n m pc ls st h = some r := ⟨n, r, hr⟩
  unfold zev
  rw [dif_pos H]
  obtain ⟨r2, h2⟩ := H.choose_spec
  rw [h2]
  rcases Nat.le_total n H.choose with q | q
  · rw [zex_le q hr] at h2
    exact h2.symm
  · have := zex_le q h2
    rw [hr] at this
    exact this.symm
theorem zev_ex {m pc : Nat} {ls : zLs} {st : List zV} {h : zH} {r : Option zV × zH} (hr : zev m pc ls st h = some r) : ∃ n, zex n m pc ls st h = some r := by
  by_cases H : ∃ n r, zex n m pc ls st h = some r
  · unfold zev at hr
    rw [dif_pos H] at hr
    exact ⟨_, hr⟩
  · unfold zev at hr
    rw [dif_neg H] at hr
    cases hr
theorem zev_go {m pc : Nat} {ls : zLs} {st : List zV} {h : zH} {q : zQ} (hs : zstp m pc ls st h = some (.inl q)) : zev m pc ls st h = zev m q.1 q.2.1 q.2.2.1 q.2.2.2 := by
  apply Option.ext
  intro r
  constructor
  · intro hr
    obtain ⟨n, hn⟩ := zev_ex hr
    cases n with
    | zero => simp [zex] at hn
    | succ n =>
      unfold zex at hn
      rw [hs] at hn
      exact zev_of hn
  · intro hr
    obtain ⟨n, hn⟩ := zev_ex hr
    refine zev_of (n := n + 1) ?_
    unfold zex
    rw [hs]
    exact hn
theorem zev_rt {m pc : Nat} {ls : zLs} {st : List zV} {h : zH} {r : Option zV × zH} (hs : zstp m pc ls st h = some (.inr (.inl r))) : zev m pc ls st h = some r := by
  refine zev_of (n := 1) ?_
  unfold zex
  rw [hs]
theorem zev_no {m pc : Nat} {ls : zLs} {st : List zV} {h : zH} (hs : zstp m pc ls st h = none) : zev m pc ls st h = none := by
  apply Option.ext
  intro r
  constructor
  · intro hr
    obtain ⟨n, hn⟩ := zev_ex hr
    cases n with
    | zero => simp [zex] at hn
    | succ n =>
      unfold zex at hn
      rw [hs] at hn
      exact hn
  · intro hr
    cases hr
/-- a call of method k -/
noncomputable def zcall (k : Nat) (as : List zV) (h : zH) : Option (Option zV × zH) := zev k 0 (zent k as) [] h
theorem zev_cl {m pc : Nat} {ls : zLs} {st : List zV} {h : zH} {k : Nat} {as : List zV} {q : zQ} (hs : zstp m pc ls st h = some (.inr (.inr (k, as, q)))) : zev m pc ls st h = (zcall k as q.2.2.2).bind fun r => zev m q.1 q.2.1 (r.1.toList ++ q.2.2.1) r.2 := by
  apply Option.ext
  intro r
  constructor
  · intro hr
    obtain ⟨n, hn⟩ := zev_ex hr
    cases n with
    | zero => simp [zex] at hn
    | succ n =>
      unfold zex at hn
      rw [hs] at hn
      simp only at hn
      cases hc : zex n k 0 (zent k as) [] q.2.2.2 with
      | none => rw [hc] at hn; simp at hn
      | some r1 =>
        rw [hc] at hn
        have e1 : zcall k as q.2.2.2 = some r1 := zev_of hc
        rw [e1]
        exact zev_of hn
  · intro hr
    cases hc : zcall k as q.2.2.2 with
    | none => rw [hc] at hr; cases hr
    | some r1 =>
      rw [hc] at hr
      obtain ⟨n1, h1⟩ := zev_ex hc
      obtain ⟨n2, h2⟩ := zev_ex (show zev m q.1 q.2.1 (r1.1.toList ++ q.2.2.1) r1.2 = some r from hr)
      refine zev_of (n := max n1 n2 + 1) ?_
      unfold zex
      rw [hs]
      simp only
      rw [zex_le (Nat.le_max_left n1 n2) h1]
      exact zex_le (Nat.le_max_right n1 n2) h2
