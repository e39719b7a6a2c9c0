/-! one equation an instruction, over zev -/
theorem zv_p {m pc : Nat} {i : Instr} {len a b pos : Nat} {n : Int} (hc : zcod m pc = some (i, len, a, b, pos, n)) {ls ls' : zLs} {st st' : List zV} {pc' : Nat} {h : zH} (hp : zp1 i a n pc ls st = some (pc', ls', st')) : zev m pc ls st h = zev m pc' ls' st' h := by
  refine zev_go (q := (pc', ls', st', h)) ?_
  unfold zstp
  rw [hc]
  simp only [zst1, hp]
theorem zv_h {m pc : Nat} {i : Instr} {len a b pos : Nat} {n : Int} (hc : zcod m pc = some (i, len, a, b, pos, n)) {ls : zLs} {st : List zV} {h : zH} (hp : zp1 i a n pc ls st = none) (hn : zc1 m i a b pc ls st h = none) : zev m pc ls st h = (zh1 i a b pc ls st h).bind fun q => zev m q.1 q.2.1 q.2.2.1 q.2.2.2 := by
  cases hq : zh1 i a b pc ls st h with
  | none =>
    refine zev_no ?_
    unfold zstp
    rw [hc]
    simp only [zst1, hp, hq, hn]
  | some q =>
    refine zev_go (q := q) ?_
    unfold zstp
    rw [hc]
    simp only [zst1, hp, hq]
theorem zv_c {m pc : Nat} {i : Instr} {len a b pos : Nat} {n : Int} (hc : zcod m pc = some (i, len, a, b, pos, n)) {ls : zLs} {st : List zV} {h : zH} (hp : zp1 i a n pc ls st = none) (hn : zh1 i a b pc ls st h = none) : zstp m pc ls st h = zc1 m i a b pc ls st h := by
  unfold zstp
  rw [hc]
  simp only [zst1, hp, hn]
section ZV
variable {m pc : Nat} {ls ls' : zLs} {st : List zV} {h : zH} {len a b pos : Nat} {n : Int}
theorem zv_null (hc : zcod m pc = some (.aconst_null, len, a, b, pos, n))  : zev m pc ls st h = zev m (pc + 1) ls (vR none :: st) h := zv_p hc rfl
theorem zv_k {k : Int} {v : Int32} (hc : zcod m pc = some (.iconst k, len, a, b, pos, n)) (hv : Int32.ofInt k = v) : zev m pc ls st h = zev m (pc + 1) ls (vI v :: st) h := zv_p hc (by subst hv; rfl)
theorem zv_bi {k : Int} {v : Int32} (hc : zcod m pc = some (.bipush k, len, a, b, pos, n)) (hv : (Int8.ofInt k).toInt32 = v) : zev m pc ls st h = zev m (pc + 2) ls (vI v :: st) h := zv_p hc (by subst hv; rfl)
theorem zv_si {k : Int} {v : Int32} (hc : zcod m pc = some (.sipush k, len, a, b, pos, n)) (hv : (Int16.ofInt k).toInt32 = v) : zev m pc ls st h = zev m (pc + 3) ls (vI v :: st) h := zv_p hc (by subst hv; rfl)
theorem zv_lc {k : Fin 2} {v : Int64} (hc : zcod m pc = some (.lconst k, len, a, b, pos, n)) (hv : Int64.ofNat k.val = v) : zev m pc ls st h = zev m (pc + 1) ls (vL v :: st) h := zv_p hc (by subst hv; rfl)
theorem zv_ldc {k : Nat} {v : Int32} (hc : zcod m pc = some (.ldc k, len, a, b, pos, n)) (hv : Int32.ofInt n = v) : zev m pc ls st h = zev m (pc + 2) ls (vI v :: st) h := zv_p hc (by subst hv; rfl)
theorem zv_ld2 {k : Nat} {v : Int64} (hc : zcod m pc = some (.ldc2_w k, len, a, b, pos, n)) (hv : Int64.ofInt n = v) : zev m pc ls st h = zev m (pc + 3) ls (vL v :: st) h := zv_p hc (by subst hv; rfl)
theorem zv_il {k : Nat} {x : Int32} (hc : zcod m pc = some (.iload k, len, a, b, pos, n)) (hl : ls[k]? = some (some (vI x))) : zev m pc ls st h = zev m (pc + 2) ls (vI x :: st) h := zv_p hc (by simp only [zp1, hl])
theorem zv_in {k : Fin 4} {x : Int32} (hc : zcod m pc = some (.iload_n k, len, a, b, pos, n)) (hl : ls[k.val]? = some (some (vI x))) : zev m pc ls st h = zev m (pc + 1) ls (vI x :: st) h := zv_p hc (by simp only [zp1, hl])
theorem zv_is {k : Nat} {x : Int32} (hc : zcod m pc = some (.istore k, len, a, b, pos, n)) (hs : zsto ls k (vI x) = some ls') : zev m pc ls (vI x :: st) h = zev m (pc + 2) ls' st h := zv_p hc (by simp only [zp1, hs, Option.map_some])
theorem zv_it {k : Fin 4} {x : Int32} (hc : zcod m pc = some (.istore_n k, len, a, b, pos, n)) (hs : zsto ls k.val (vI x) = some ls') : zev m pc ls (vI x :: st) h = zev m (pc + 1) ls' st h := zv_p hc (by simp only [zp1, hs, Option.map_some])
theorem zv_ll {k : Nat} {x : Int64} (hc : zcod m pc = some (.lload k, len, a, b, pos, n)) (hl : ls[k]? = some (some (vL x))) : zev m pc ls st h = zev m (pc + 2) ls (vL x :: st) h := zv_p hc (by simp only [zp1, hl])
theorem zv_ln {k : Fin 4} {x : Int64} (hc : zcod m pc = some (.lload_n k, len, a, b, pos, n)) (hl : ls[k.val]? = some (some (vL x))) : zev m pc ls st h = zev m (pc + 1) ls (vL x :: st) h := zv_p hc (by simp only [zp1, hl])
theorem zv_ls {k : Nat} {x : Int64} (hc : zcod m pc = some (.lstore k, len, a, b, pos, n)) (hs : zstl2 ls k (vL x) = some ls') : zev m pc ls (vL x :: st) h = zev m (pc + 2) ls' st h := zv_p hc (by simp only [zp1, hs, Option.map_some])
theorem zv_lt {k : Fin 4} {x : Int64} (hc : zcod m pc = some (.lstore_n k, len, a, b, pos, n)) (hs : zstl2 ls k.val (vL x) = some ls') : zev m pc ls (vL x :: st) h = zev m (pc + 1) ls' st h := zv_p hc (by simp only [zp1, hs, Option.map_some])
theorem zv_al {k : Nat} {x : Option Nat} (hc : zcod m pc = some (.aload k, len, a, b, pos, n)) (hl : ls[k]? = some (some (vR x))) : zev m pc ls st h = zev m (pc + 2) ls (vR x :: st) h := zv_p hc (by simp only [zp1, hl])
theorem zv_an {k : Fin 4} {x : Option Nat} (hc : zcod m pc = some (.aload_n k, len, a, b, pos, n)) (hl : ls[k.val]? = some (some (vR x))) : zev m pc ls st h = zev m (pc + 1) ls (vR x :: st) h := zv_p hc (by simp only [zp1, hl])
theorem zv_as {k : Nat} {x : Option Nat} (hc : zcod m pc = some (.astore k, len, a, b, pos, n)) (hs : zsto ls k (vR x) = some ls') : zev m pc ls (vR x :: st) h = zev m (pc + 2) ls' st h := zv_p hc (by simp only [zp1, hs, Option.map_some])
theorem zv_at {k : Fin 4} {x : Option Nat} (hc : zcod m pc = some (.astore_n k, len, a, b, pos, n)) (hs : zsto ls k.val (vR x) = some ls') : zev m pc ls (vR x :: st) h = zev m (pc + 1) ls' st h := zv_p hc (by simp only [zp1, hs, Option.map_some])
theorem zv_inc {k : Nat} {d : Int} {x y : Int32} (hc : zcod m pc = some (.iinc k d, len, a, b, pos, n)) (hl : ls[k]? = some (some (vI x))) (hv : Int32.ofInt d = y) (hs : zsto ls k (vI (x + y)) = some ls') : zev m pc ls st h = zev m (pc + 3) ls' st h := zv_p hc (by subst hv; simp only [zp1, hl, hs, Option.map_some])
theorem zv_iadd {x y : Int32} (hc : zcod m pc = some (.iadd, len, a, b, pos, n))  : zev m pc ls (vI y :: vI x :: st) h = zev m (pc + 1) ls (vI (x + y) :: st) h := zv_p hc rfl
theorem zv_isub {x y : Int32} (hc : zcod m pc = some (.isub, len, a, b, pos, n))  : zev m pc ls (vI y :: vI x :: st) h = zev m (pc + 1) ls (vI (x - y) :: st) h := zv_p hc rfl
theorem zv_imul {x y : Int32} (hc : zcod m pc = some (.imul, len, a, b, pos, n))  : zev m pc ls (vI y :: vI x :: st) h = zev m (pc + 1) ls (vI (x * y) :: st) h := zv_p hc rfl
theorem zv_iand {x y : Int32} (hc : zcod m pc = some (.iand, len, a, b, pos, n))  : zev m pc ls (vI y :: vI x :: st) h = zev m (pc + 1) ls (vI (x &&& y) :: st) h := zv_p hc rfl
theorem zv_ishr {x y : Int32} (hc : zcod m pc = some (.ishr, len, a, b, pos, n))  : zev m pc ls (vI y :: vI x :: st) h = zev m (pc + 1) ls (vI (x >>> (y &&& 31)) :: st) h := zv_p hc rfl
theorem zv_ineg {x : Int32} (hc : zcod m pc = some (.ineg, len, a, b, pos, n))  : zev m pc ls (vI x :: st) h = zev m (pc + 1) ls (vI (-x) :: st) h := zv_p hc rfl
theorem zv_land {x y : Int64} (hc : zcod m pc = some (.land, len, a, b, pos, n))  : zev m pc ls (vL y :: vL x :: st) h = zev m (pc + 1) ls (vL (x &&& y) :: st) h := zv_p hc rfl
theorem zv_lor {x y : Int64} (hc : zcod m pc = some (.lor, len, a, b, pos, n))  : zev m pc ls (vL y :: vL x :: st) h = zev m (pc + 1) ls (vL (x ||| y) :: st) h := zv_p hc rfl
theorem zv_lcmp {x y : Int64} (hc : zcod m pc = some (.lcmp, len, a, b, pos, n))  : zev m pc ls (vL y :: vL x :: st) h = zev m (pc + 1) ls (vI (lg_cmp x y) :: st) h := zv_p hc rfl
theorem zv_lshl {x : Int64} {y : Int32} (hc : zcod m pc = some (.lshl, len, a, b, pos, n))  : zev m pc ls (vI y :: vL x :: st) h = zev m (pc + 1) ls (vL (x <<< (y.toInt64 &&& 63)) :: st) h := zv_p hc rfl
theorem zv_lshr {x : Int64} {y : Int32} (hc : zcod m pc = some (.lshr, len, a, b, pos, n))  : zev m pc ls (vI y :: vL x :: st) h = zev m (pc + 1) ls (vL (x >>> (y.toInt64 &&& 63)) :: st) h := zv_p hc rfl
theorem zv_i2l {x : Int32} (hc : zcod m pc = some (.i2l, len, a, b, pos, n))  : zev m pc ls (vI x :: st) h = zev m (pc + 1) ls (vL x.toInt64 :: st) h := zv_p hc rfl
theorem zv_l2i {x : Int64} (hc : zcod m pc = some (.l2i, len, a, b, pos, n))  : zev m pc ls (vL x :: st) h = zev m (pc + 1) ls (vI x.toInt32 :: st) h := zv_p hc rfl
theorem zv_i2b {x : Int32} (hc : zcod m pc = some (.i2b, len, a, b, pos, n))  : zev m pc ls (vI x :: st) h = zev m (pc + 1) ls (vI x.toInt8.toInt32 :: st) h := zv_p hc rfl
theorem zv_pop {v : zV} (hc : zcod m pc = some (.pop, len, a, b, pos, n)) (hv : zsm v = true) : zev m pc ls (v :: st) h = zev m (pc + 1) ls st h := zv_p hc (by simp only [zp1, hv, if_true])
theorem zv_dup {v : zV} (hc : zcod m pc = some (.dup, len, a, b, pos, n)) (hv : zsm v = true) : zev m pc ls (v :: st) h = zev m (pc + 1) ls (v :: v :: st) h := zv_p hc (by simp only [zp1, hv, if_true])
theorem zv_dx1 {v w : zV} (hc : zcod m pc = some (.dup_x1, len, a, b, pos, n)) (hv : zsm v = true) (hw : zsm w = true) : zev m pc ls (v :: w :: st) h = zev m (pc + 1) ls (v :: w :: v :: st) h := zv_p hc (by simp only [zp1, hv, hw, Bool.and_self, if_true])
theorem zv_dup2 {v w : zV} (hc : zcod m pc = some (.dup2, len, a, b, pos, n)) (hv : zsm v = true) (hw : zsm w = true) : zev m pc ls (v :: w :: st) h = zev m (pc + 1) ls (v :: w :: v :: w :: st) h := zv_p hc (by simp only [zp1, hv, hw, Bool.and_self, if_true])
theorem zv_goto {k : Int} (hc : zcod m pc = some (.goto k, len, a, b, pos, n))  : zev m pc ls st h = zev m a ls st h := zv_p hc rfl
theorem zv_gs {k : Nat} (hc : zcod m pc = some (.getstatic k, len, a, b, pos, n))  : zev m pc ls st h = zev m (pc + 3) ls (vR (some a) :: st) h := zv_p hc rfl
theorem zv_if {cnd : Jvm.ClassFile.Cond} {k : Int} {x : Int32} (hc : zcod m pc = some (.ifCond cnd k, len, a, b, pos, n)) : zev m pc ls (vI x :: st) h = if zj1 cnd x = true then zev m a ls st h else zev m (pc + 3) ls st h := by
  by_cases hj : zj1 cnd x = true
  · rw [if_pos hj]
    exact zv_p hc (by simp only [zp1, hj, if_true])
  · rw [if_neg hj]
    exact zv_p hc (by simp only [zp1, hj, if_false, Bool.false_eq_true])
theorem zv_ic {cnd : Jvm.ClassFile.Cond} {k : Int} {x y : Int32} (hc : zcod m pc = some (.if_icmp cnd k, len, a, b, pos, n)) : zev m pc ls (vI y :: vI x :: st) h = if zj2 cnd x y = true then zev m a ls st h else zev m (pc + 3) ls st h := by
  by_cases hj : zj2 cnd x y = true
  · rw [if_pos hj]
    exact zv_p hc (by simp only [zp1, hj, if_true])
  · rw [if_neg hj]
    exact zv_p hc (by simp only [zp1, hj, if_false, Bool.false_eq_true])
theorem zite {α : Type} {c d : Prop} [Decidable c] [Decidable d] (e : c ↔ d) (x y : α) : (if c then x else y) = if d then x else y := by
  by_cases hc : c
  · rw [if_pos hc, if_pos (e.mp hc)]
  · rw [if_neg hc, if_neg (fun q => hc (e.mpr q))]
theorem ziteN {α : Type} {c d : Prop} [Decidable c] [Decidable d] (e : c ↔ ¬ d) (x y : α) : (if c then x else y) = if d then y else x := by
  by_cases hc : c
  · rw [if_pos hc, if_neg (e.mp hc)]
  · rw [if_neg hc, if_pos (Decidable.byContradiction fun q => hc (e.mpr q))]
theorem zv_ifeq {k : Int} {x : Int32} (hc : zcod m pc = some (.ifCond .eq k, len, a, b, pos, n)) : zev m pc ls (vI x :: st) h = if x = 0 then zev m a ls st h else zev m (pc + 3) ls st h := (zv_if hc).trans (zite (by simp [zj1]) _ _)
theorem zv_ifne {k : Int} {x : Int32} (hc : zcod m pc = some (.ifCond .ne k, len, a, b, pos, n)) : zev m pc ls (vI x :: st) h = if x = 0 then zev m (pc + 3) ls st h else zev m a ls st h := (zv_if hc).trans (ziteN (by simp [zj1]) _ _)
theorem zv_iflt {k : Int} {x : Int32} (hc : zcod m pc = some (.ifCond .lt k, len, a, b, pos, n)) : zev m pc ls (vI x :: st) h = if x < 0 then zev m a ls st h else zev m (pc + 3) ls st h := (zv_if hc).trans (zite (by simp [zj1]) _ _)
theorem zv_ifge {k : Int} {x : Int32} (hc : zcod m pc = some (.ifCond .ge k, len, a, b, pos, n)) : zev m pc ls (vI x :: st) h = if x < 0 then zev m (pc + 3) ls st h else zev m a ls st h := (zv_if hc).trans (ziteN (by simp [zj1, Int32.not_lt]) _ _)
theorem zv_ifgt {k : Int} {x : Int32} (hc : zcod m pc = some (.ifCond .gt k, len, a, b, pos, n)) : zev m pc ls (vI x :: st) h = if 0 < x then zev m a ls st h else zev m (pc + 3) ls st h := (zv_if hc).trans (zite (by simp [zj1]) _ _)
theorem zv_ifle {k : Int} {x : Int32} (hc : zcod m pc = some (.ifCond .le k, len, a, b, pos, n)) : zev m pc ls (vI x :: st) h = if 0 < x then zev m (pc + 3) ls st h else zev m a ls st h := (zv_if hc).trans (ziteN (by simp [zj1, Int32.not_lt]) _ _)
theorem zv_iceq {k : Int} {x y : Int32} (hc : zcod m pc = some (.if_icmp .eq k, len, a, b, pos, n)) : zev m pc ls (vI y :: vI x :: st) h = if x = y then zev m a ls st h else zev m (pc + 3) ls st h := (zv_ic hc).trans (zite (by simp [zj2]) _ _)
theorem zv_icne {k : Int} {x y : Int32} (hc : zcod m pc = some (.if_icmp .ne k, len, a, b, pos, n)) : zev m pc ls (vI y :: vI x :: st) h = if x = y then zev m (pc + 3) ls st h else zev m a ls st h := (zv_ic hc).trans (ziteN (by simp [zj2]) _ _)
theorem zv_iclt {k : Int} {x y : Int32} (hc : zcod m pc = some (.if_icmp .lt k, len, a, b, pos, n)) : zev m pc ls (vI y :: vI x :: st) h = if x < y then zev m a ls st h else zev m (pc + 3) ls st h := (zv_ic hc).trans (zite (by simp [zj2]) _ _)
theorem zv_icge {k : Int} {x y : Int32} (hc : zcod m pc = some (.if_icmp .ge k, len, a, b, pos, n)) : zev m pc ls (vI y :: vI x :: st) h = if x < y then zev m (pc + 3) ls st h else zev m a ls st h := (zv_ic hc).trans (ziteN (by simp [zj2, Int32.not_lt]) _ _)
theorem zv_icgt {k : Int} {x y : Int32} (hc : zcod m pc = some (.if_icmp .gt k, len, a, b, pos, n)) : zev m pc ls (vI y :: vI x :: st) h = if y < x then zev m a ls st h else zev m (pc + 3) ls st h := (zv_ic hc).trans (zite (by simp [zj2]) _ _)
theorem zv_icle {k : Int} {x y : Int32} (hc : zcod m pc = some (.if_icmp .le k, len, a, b, pos, n)) : zev m pc ls (vI y :: vI x :: st) h = if y < x then zev m (pc + 3) ls st h else zev m a ls st h := (zv_ic hc).trans (ziteN (by simp [zj2, Int32.not_lt]) _ _)
def zul {α : Type} (r : Option Nat) (f g : Option α) : Option α := match r with
  | none => f
  | some _ => g
theorem zv_nu {k : Int} {r : Option Nat} (hc : zcod m pc = some (.ifnull k, len, a, b, pos, n)) : zev m pc ls (vR r :: st) h = zul r (zev m a ls st h) (zev m (pc + 3) ls st h) := by
  cases r with
  | none => exact zv_p hc rfl
  | some x => exact zv_p hc rfl
theorem zv_nn {k : Int} {r : Option Nat} (hc : zcod m pc = some (.ifnonnull k, len, a, b, pos, n)) : zev m pc ls (vR r :: st) h = zul r (zev m (pc + 3) ls st h) (zev m a ls st h) := by
  cases r with
  | none => exact zv_p hc rfl
  | some x => exact zv_p hc rfl
theorem zv_div {x y : Int32} (hc : zcod m pc = some (.idiv, len, a, b, pos, n)) : zev m pc ls (vI y :: vI x :: st) h = zdv y (zev m (pc + 1) ls (vI (x / y) :: st) h) := by
  unfold zdv
  by_cases hy : y = 0
  · rw [if_pos hy]
    refine zev_no ?_
    unfold zstp
    rw [hc]
    simp [zst1, zp1, zdv, hy, zh1, zc1]
  · rw [if_neg hy]
    exact zv_p hc (by simp [zp1, zdv, hy])
theorem zv_rem {x y : Int32} (hc : zcod m pc = some (.irem, len, a, b, pos, n)) : zev m pc ls (vI y :: vI x :: st) h = zdv y (zev m (pc + 1) ls (vI (x - x / y * y) :: st) h) := by
  unfold zdv
  by_cases hy : y = 0
  · rw [if_pos hy]
    refine zev_no ?_
    unfold zstp
    rw [hc]
    simp [zst1, zp1, zdv, hy, zh1, zc1]
  · rw [if_neg hy]
    exact zv_p hc (by simp [zp1, zdv, hy])
theorem zv_aeq {k : Int} {x y : Option Nat} (hc : zcod m pc = some (.if_acmp .eq k, len, a, b, pos, n)) : zev m pc ls (vR y :: vR x :: st) h = zac x y (zev m a ls st h) (zev m (pc + 3) ls st h) := by
  unfold zac
  split
  · rename_i hall
    split
    · rename_i hxy
      exact zv_p hc (by simp only [zp1, zac]; rw [if_pos hall, if_pos hxy])
    · rename_i hxy
      exact zv_p hc (by simp only [zp1, zac]; rw [if_pos hall, if_neg hxy])
  · rename_i hall
    refine zev_no ?_
    unfold zstp
    rw [hc]
    simp only [zst1, zp1, zac, if_neg hall, zh1, zc1]
theorem zv_gI {k : Nat} {r : Option Nat} (hc : zcod m pc = some (.getfield k, len, a, b, pos, n)) (hf : zft a b ≠ 2) : zev m pc ls (vR r :: st) h = zgI h r a b (fun x => zev m (pc + 3) ls (vI x :: st) h) := by
  rw [zv_h hc rfl rfl]
  simp only [zh1, if_neg hf]
  unfold zgI
  repeat' split
  all_goals first | rfl | simp_all
theorem zv_gR {k : Nat} {r : Option Nat} (hc : zcod m pc = some (.getfield k, len, a, b, pos, n)) (hf : zft a b = 2) : zev m pc ls (vR r :: st) h = zgR h r a b (fun x => zev m (pc + 3) ls (vR x :: st) h) := by
  rw [zv_h hc rfl rfl]
  simp only [zh1, if_pos hf]
  unfold zgR
  repeat' split
  all_goals first | rfl | simp_all
theorem zv_pI {k : Nat} {r : Option Nat} {x : Int32} (hc : zcod m pc = some (.putfield k, len, a, b, pos, n)) (hf : zft a b = 0) : zev m pc ls (vI x :: vR r :: st) h = zpI h r a b x (fun h => zev m (pc + 3) ls st h) := by
  rw [zv_h hc rfl rfl]
  simp only [zh1, if_pos hf]
  unfold zpI
  repeat' split
  all_goals first | rfl | simp_all
theorem zv_pZ {k : Nat} {r : Option Nat} {x : Int32} (hc : zcod m pc = some (.putfield k, len, a, b, pos, n)) (hf : zft a b = 1) : zev m pc ls (vI x :: vR r :: st) h = zpZ h r a b x (fun h => zev m (pc + 3) ls st h) := by
  rw [zv_h hc rfl rfl]
  simp only [zh1, if_neg (show ¬ zft a b = 0 by omega), if_pos hf]
  unfold zpZ
  repeat' split
  all_goals first | rfl | simp_all
theorem zv_pR {k : Nat} {r x : Option Nat} (hc : zcod m pc = some (.putfield k, len, a, b, pos, n)) (hf : zft a b = 2) : zev m pc ls (vR x :: vR r :: st) h = zpR h r a b x (fun h => zev m (pc + 3) ls st h) := by
  rw [zv_h hc rfl rfl]
  simp only [zh1, if_pos hf]
  unfold zpR
  repeat' split
  all_goals first | rfl | simp_all
theorem zv_aI {r : Option Nat} {i : Int32} (hc : zcod m pc = some (.iaload, len, a, b, pos, n))  : zev m pc ls (vI i :: vR r :: st) h = zaI h r i (fun x => zev m (pc + 1) ls (vI x :: st) h) := by
  rw [zv_h hc rfl rfl]
  simp only [zh1]
  unfold zaI
  repeat' split
  all_goals first | rfl | simp_all
theorem zv_aB {r : Option Nat} {i : Int32} (hc : zcod m pc = some (.baload, len, a, b, pos, n))  : zev m pc ls (vI i :: vR r :: st) h = zaB h r i (fun x => zev m (pc + 1) ls (vI x :: st) h) := by
  rw [zv_h hc rfl rfl]
  simp only [zh1]
  unfold zaB
  repeat' split
  all_goals first | rfl | simp_all
theorem zv_aR {r : Option Nat} {i : Int32} (hc : zcod m pc = some (.aaload, len, a, b, pos, n))  : zev m pc ls (vI i :: vR r :: st) h = zaR h r i (fun x => zev m (pc + 1) ls (vR x :: st) h) := by
  rw [zv_h hc rfl rfl]
  simp only [zh1]
  unfold zaR
  repeat' split
  all_goals first | rfl | simp_all
theorem zv_tI {r : Option Nat} {i x : Int32} (hc : zcod m pc = some (.iastore, len, a, b, pos, n))  : zev m pc ls (vI x :: vI i :: vR r :: st) h = ztI h r i x (fun h => zev m (pc + 1) ls st h) := by
  rw [zv_h hc rfl rfl]
  simp only [zh1]
  unfold ztI
  repeat' split
  all_goals first | rfl | simp_all
theorem zv_tB {r : Option Nat} {i x : Int32} (hc : zcod m pc = some (.bastore, len, a, b, pos, n))  : zev m pc ls (vI x :: vI i :: vR r :: st) h = ztB h r i x (fun h => zev m (pc + 1) ls st h) := by
  rw [zv_h hc rfl rfl]
  simp only [zh1]
  unfold ztB
  repeat' split
  all_goals first | rfl | simp_all
theorem zv_tR {r x : Option Nat} {i : Int32} (hc : zcod m pc = some (.aastore, len, a, b, pos, n))  : zev m pc ls (vR x :: vI i :: vR r :: st) h = ztR h r i x (fun h => zev m (pc + 1) ls st h) := by
  rw [zv_h hc rfl rfl]
  simp only [zh1]
  unfold ztR
  repeat' split
  all_goals first | rfl | simp_all
theorem zv_al2 {r : Option Nat} (hc : zcod m pc = some (.arraylength, len, a, b, pos, n))  : zev m pc ls (vR r :: st) h = zal h r (fun x => zev m (pc + 1) ls (vI x :: st) h) := by
  rw [zv_h hc rfl rfl]
  simp only [zh1]
  unfold zal
  repeat' split
  all_goals first | rfl | simp_all
theorem zv_new {k : Nat} (hc : zcod m pc = some (.new k, len, a, b, pos, n))  : zev m pc ls (st) h = zno h a (fun r h => zev m (pc + 3) ls (vR r :: st) h) := by
  rw [zv_h hc rfl rfl]
  simp only [zh1]
  unfold zno
  repeat' split
  all_goals first | rfl | simp_all
theorem zv_na {k : ArrayType} {x : Int32} (hc : zcod m pc = some (.newarray k, len, a, b, pos, n))  : zev m pc ls (vI x :: st) h = zna h a x (fun r h => zev m (pc + 2) ls (vR r :: st) h) := by
  rw [zv_h hc rfl rfl]
  simp only [zh1]
  unfold zna
  repeat' split
  all_goals first | rfl | simp_all
theorem zv_an2 {k : Nat} {x : Int32} (hc : zcod m pc = some (.anewarray k, len, a, b, pos, n))  : zev m pc ls (vI x :: st) h = zna h 103 x (fun r h => zev m (pc + 3) ls (vR r :: st) h) := by
  rw [zv_h hc rfl rfl]
  simp only [zh1]
  unfold zna
  repeat' split
  all_goals first | rfl | simp_all
theorem zv_ca {k : Nat} {r : Option Nat} (hc : zcod m pc = some (.checkcast k, len, a, b, pos, n))  : zev m pc ls (vR r :: st) h = zca h a r (zev m (pc + 3) ls (vR r :: st) h) := by
  rw [zv_h hc rfl rfl]
  simp only [zh1]
  unfold zca
  repeat' split
  all_goals first | rfl | simp_all
theorem zv_ob {k : Nat} {r : Option Nat} (hc : zcod m pc = some (.invokespecial k, len, 1, b, pos, n)) (hs : zcs st ≤ 8) : zev m pc ls (vR r :: st) h = zul r none (zev m (pc + 3) ls st h) := by
  rw [zv_h hc rfl (by simp [zc1])]
  cases r with
  | none => simp [zh1, zul]
  | some x => simp [zh1, zul, hs]
theorem zv_cM {k : Nat} {r q : Option Nat} {sp dp x : Int32} (hc : zcod m pc = some (.invokestatic k, len, 1000, b, pos, n)) (hs : zcs st ≤ 8) : zev m pc ls (vI x :: vI dp :: vR q :: vI sp :: vR r :: st) h = zcM h r sp q dp x (fun h => zev m (pc + 3) ls st h) := by
  rw [zv_h hc rfl (by simp [zc1])]
  simp only [zh1, if_true, hs]
  unfold zcM
  repeat' split
  all_goals first | rfl | simp_all
theorem zv_cO {k : Nat} {r : Option Nat} {x : Int32} (hc : zcod m pc = some (.invokestatic k, len, 36, b, pos, n)) (hs : zcs st ≤ 8) : zev m pc ls (vI x :: vR r :: st) h = zcO h r x (fun q h => zev m (pc + 3) ls (vR q :: st) h) := by
  rw [zv_h hc rfl (by simp [zc1])]
  simp only [zh1, if_true, hs, show ¬ (36 : Nat) = 1000 by decide, if_false]
  unfold zcO
  repeat' split
  all_goals first | rfl | simp_all
theorem zv_ir {x : Int32} (hc : zcod m pc = some (.ireturn, len, a, b, pos, n)) (hr : zrt m = 1) : zev m pc ls [vI x] h = some (some (vI x), h) := by
  refine zev_rt ?_
  rw [zv_c hc rfl rfl]
  simp [zc1, hr]
def zbo {α : Type} (x : Int32) (f : Option α) : Option α := if x = 0 ∨ x = 1 then f else none
theorem zv_iz {x : Int32} (hc : zcod m pc = some (.ireturn, len, a, b, pos, n)) (hr : zrt m = 2) : zev m pc ls [vI x] h = zbo x (some (some (vI x), h)) := by
  unfold zbo
  by_cases h01 : x = 0 ∨ x = 1
  · rw [if_pos h01]
    refine zev_rt ?_
    rw [zv_c hc rfl rfl]
    simp only [zc1, hr]
    rw [if_pos (Or.inr ⟨trivial, h01⟩)]
  · rw [if_neg h01]
    refine zev_no ?_
    rw [zv_c hc rfl rfl]
    simp only [zc1, hr]
    rw [if_neg]
    rintro (q | q)
    · cases q
    · exact h01 q.2
theorem zv_ar {r : Option Nat} (hc : zcod m pc = some (.areturn, len, a, b, pos, n)) (hr : zrt m = 3) : zev m pc ls [vR r] h = some (some (vR r), h) := by
  refine zev_rt ?_
  rw [zv_c hc rfl rfl]
  simp [zc1, hr]
theorem zv_vr (hc : zcod m pc = some (.return_, len, a, b, pos, n)) (hr : zrt m = 0) : zev m pc ls [] h = some (none, h) := by
  refine zev_rt ?_
  rw [zv_c hc rfl rfl]
  simp [zc1, hr]
end ZV
/-- what a method answers is of its kind -/
def zrk (m : Nat) (r : Option zV) : Prop := (zrt m = 0 → r = none) ∧ (zrt m = 1 ∨ zrt m = 2 → ∃ x, r = some (vI x)) ∧ (zrt m = 3 → ∃ x, r = some (vR x))
theorem zc1_rk {m : Nat} {i : Instr} {a b pc : Nat} {al : zLs} {st : List zV} {h : zH} {r : Option zV × zH} (hp : zc1 m i a b pc al st h = some (.inr (.inl r))) : zrk m r.1 := by
  cases i with
  | ireturn =>
    simp only [zc1] at hp
    split at hp
    · split at hp
      · rename_i hr
        cases hp
        refine ⟨fun q => ?_, fun _ => ⟨_, rfl⟩, fun q => ?_⟩ <;> rcases hr with w | ⟨w, -⟩ <;> omega
      · cases hp
    · cases hp
  | areturn =>
    simp only [zc1] at hp
    split at hp
    · split at hp
      · cases hp
        refine ⟨fun q => ?_, fun q => ?_, fun _ => ⟨_, rfl⟩⟩ <;> omega
      · cases hp
    · cases hp
  | return_ =>
    simp only [zc1] at hp
    split at hp
    · split at hp
      · cases hp
        refine ⟨fun _ => rfl, fun q => ?_, fun q => ?_⟩ <;> omega
      · cases hp
    · cases hp
  | invokevirtual _ => simp only [zc1] at hp; (repeat' split at hp) <;> cases hp
  | invokespecial _ => simp only [zc1] at hp; (repeat' split at hp) <;> cases hp
  | invokestatic _ => simp only [zc1] at hp; (repeat' split at hp) <;> cases hp
  | _ => simp [zc1] at hp
theorem zex_rk : ∀ (n m pc : Nat) (ls : zLs) (st : List zV) (h : zH) (r : Option zV × zH), zex n m pc ls st h = some r → zrk m r.1
  | 0, _, _, _, _, _, _, hr => by simp [zex] at hr
  | n + 1, m, pc, ls, st, h, r, hr => by
    unfold zex at hr
    cases hs : zstp m pc ls st h with
    | none => rw [hs] at hr; simp at hr
    | some q =>
      rw [hs] at hr
      match q, hs, hr with
      | .inl q, hs, hr => exact zex_rk n _ _ _ _ _ _ hr
      | .inr (.inl q), hs, hr =>
        simp only [Option.some.injEq] at hr
        subst hr
        unfold zstp at hs
        split at hs
        · cases hs
        · simp only [zst1] at hs
          split at hs
          · cases hs
          · split at hs
            · cases hs
            · exact zc1_rk hs
      | .inr (.inr (k, as, q)), hs, hr =>
        simp only at hr
        split at hr
        · cases hr
        · exact zex_rk n _ _ _ _ _ _ hr
section ZW
variable {α : Type}
noncomputable def zcI (k : Nat) (as : List zV) (h : zH) (f : Int32 → zH → Option α) : Option α := (zcall k as h).bind fun q => match q.1 with
  | some (.inl x) => f x q.2
  | _ => none
noncomputable def zcR (k : Nat) (as : List zV) (h : zH) (f : Option Nat → zH → Option α) : Option α := (zcall k as h).bind fun q => match q.1 with
  | some (.inr (.inr x)) => f x q.2
  | _ => none
noncomputable def zcV (k : Nat) (as : List zV) (h : zH) (f : zH → Option α) : Option α := (zcall k as h).bind fun q => match q.1 with
  | none => f q.2
  | _ => none
def zvr (h : zH) (r : Option Nat) (t : Nat) (f : Option α) : Option α := match r with
  | none => none
  | some a => if 8 ≤ a ∧ a < zn h ∧ (zk h a).1 = t then f else none
end ZW
theorem zcall_rk {k : Nat} {as : List zV} {h : zH} {r : Option zV × zH} (hz : zcall k as h = some r) : zrk k r.1 := by
  obtain ⟨n, hn⟩ := zev_ex hz
  exact zex_rk n _ _ _ _ _ _ hn
section ZX
variable {m pc : Nat} {ls : zLs} {st st' as : List zV} {h : zH} {len a b pos : Nat} {n : Int} {α : Type}
theorem zbI {f : Option zV × zH → Option α} (hr : zrt a = 1 ∨ zrt a = 2) : ((zcall a as h).bind fun r => f r) = zcI a as h (fun x h' => f (some (vI x), h')) := by
  unfold zcI
  cases hz : zcall a as h with
  | none => rfl
  | some q =>
    obtain ⟨x, hx⟩ := (zcall_rk hz).2.1 hr
    obtain ⟨q1, q2⟩ := q
    simp only at hx
    subst hx
    rfl
theorem zbR {f : Option zV × zH → Option α} (hr : zrt a = 3) : ((zcall a as h).bind fun r => f r) = zcR a as h (fun x h' => f (some (vR x), h')) := by
  unfold zcR
  cases hz : zcall a as h with
  | none => rfl
  | some q =>
    obtain ⟨x, hx⟩ := (zcall_rk hz).2.2 hr
    obtain ⟨q1, q2⟩ := q
    simp only at hx
    subst hx
    rfl
theorem zbV {f : Option zV × zH → Option α} (hr : zrt a = 0) : ((zcall a as h).bind fun r => f r) = zcV a as h (fun h' => f (none, h')) := by
  unfold zcV
  cases hz : zcall a as h with
  | none => rfl
  | some q =>
    have hx := (zcall_rk hz).1 hr
    obtain ⟨q1, q2⟩ := q
    simp only at hx
    subst hx
    rfl
theorem zv_st {k : Nat} (hc : zcod m pc = some (.invokestatic k, len, a, b, pos, n)) (ha : ¬ (a = 1000 ∨ a = 36)) (hp : zpop b [] st = some (as, st')) (hs : zcs st' ≤ 8) (hx : (zexp as).length ≤ zL a) : zev m pc ls st h = (zcall a as h).bind fun r => zev m (pc + 3) ls (r.1.toList ++ st') r.2 := by
  refine zev_cl (q := (pc + 3, ls, st', h)) ?_
  rw [zv_c hc rfl (by simp only [zh1]; rw [if_neg (fun q => ha (Or.inl q)), if_neg (fun q => ha (Or.inr q))])]
  simp only [zc1, if_neg ha, hp]
  rw [if_pos ⟨hs, hx⟩]
theorem zv_sp {k : Nat} {r : Option Nat} (hc : zcod m pc = some (.invokespecial k, len, a, b, pos, n)) (ha : ¬ a = 1) (hp : zpop b [] st = some (as, vR r :: st')) (hs : zcs st' ≤ 8) (hx : (zexp (vR none :: as)).length ≤ zL a) : zev m pc ls st h = zul r none ((zcall a (vR r :: as) h).bind fun r => zev m (pc + 3) ls (r.1.toList ++ st') r.2) := by
  cases r with
  | none =>
    refine zev_no ?_
    rw [zv_c hc rfl (by simp only [zh1]; rw [if_neg ha])]
    simp only [zc1, if_neg ha, hp]
  | some r =>
    refine zev_cl (q := (pc + 3, ls, st', h)) ?_
    rw [zv_c hc rfl (by simp only [zh1]; rw [if_neg ha])]
    simp only [zc1, if_neg ha, hp]
    rw [if_pos ⟨hs, hx⟩]
theorem zv_vi {k t : Nat} {r : Option Nat} (hc : zcod m pc = some (.invokevirtual k, len, a, b, pos, n)) (ht : zcn a = t) (hp : zpop b [] st = some (as, vR r :: st')) (hs : zcs st' ≤ 8) (hx : (zexp (vR none :: as)).length ≤ zL a) : zev m pc ls st h = zvr h r t ((zcall a (vR r :: as) h).bind fun r => zev m (pc + 3) ls (r.1.toList ++ st') r.2) := by
  subst ht
  cases r with
  | none =>
    refine zev_no ?_
    rw [zv_c hc rfl rfl]
    simp only [zc1, hp]
  | some r =>
    unfold zvr
    simp only
    by_cases hk : 8 ≤ r ∧ r < zn h ∧ (zk h r).1 = zcn a
    · rw [if_pos hk]
      refine zev_cl (q := (pc + 3, ls, st', h)) ?_
      rw [zv_c hc rfl rfl]
      simp only [zc1, hp]
      rw [if_pos ⟨hk.1, hk.2.1, hk.2.2, hs, hx⟩]
    · rw [if_neg hk]
      refine zev_no ?_
      rw [zv_c hc rfl rfl]
      simp only [zc1, hp]
      rw [if_neg]
      rintro ⟨q1, q2, q3, -⟩
      exact hk ⟨q1, q2, q3⟩
end ZX
