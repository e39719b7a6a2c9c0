def zcnl : List Nat := [99, 99, 99, 99, 99, 99, 99, 99, 99, 99, 8, 6, 8, 6, 0, 6, 6, 6, 6, 6, 6, 6, 99, 6, 5, 5, 99, 5, 99, 0, 0, 0, 0, 99, 99, 99, 99, 99, 99, 5, 6, 5, 5, 0, 99, 99, 0, 8, 8, 8, 5, 0, 0, 2, 5, 99, 5, 2, 5, 8, 5, 5, 5, 5, 8, 8, 4, 8, 4, 4, 4, 8, 2, 99, 8, 0, 3, 3, 0, 4, 2, 3, 2, 2, 99, 2, 8, 8, 8, 8, 3, 3, 3, 2, 2, 3, 3, 3, 5, 5, 3, 8, 2, 8, 5, 5, 8, 5, 5, 8, 3, 99, 9, 99, 9, 9, 9, 9, 9, 9, 99, 99, 9, 9, 9, 9, 9, 99, 9, 9, 9, 9, 99, 9, 9, 9, 9, 9, 9, 9, 9, 9, 9, 9, 9, 9, 9, 9, 9, 9, 9, 9, 9, 9, 9, 9, 9, 9, 9, 99]
def zcn (m : Nat) : Nat := zcnl.getD m 99
def zcnok (m : Nat) : Bool := if zKi m = 1 then decide (zcn m < 10) && decide ((zcl (zcn m)).1 = (zY m).cls) else true
theorem zcn_all : (List.range 160).all zcnok = true := by decide +kernel
theorem zcn_ok {m : Nat} (hm : m < 160) (h : zKi m = 1) : zcn m < 10 ∧ (zcl (zcn m)).1 = (zY m).cls := by
  have h1 := List.all_eq_true.mp zcn_all m (List.mem_range.mpr hm)
  simp only [zcnok, h, if_true, Bool.and_eq_true, decide_eq_true_eq] at h1
  exact h1
theorem zKi_lt {m : Nat} (h : zKi m = 1) : m < 160 := by
  rcases Nat.lt_or_ge m 160 with q | q
  · exact q
  · have e : zmts.length = 160 := by decide +kernel
    have : zmts[m]? = none := List.getElem?_eq_none (by omega)
    simp [zKi, zmt, List.getD_eq_getElem?_getD, this] at h
def zlen (i : Instr) : Nat := match i with
  | .bipush _ | .ldc _ | .iload _ | .lload _ | .aload _ | .istore _ | .lstore _ | .astore _ | .newarray _ => 2
  | .sipush _ | .ldc2_w _ | .iinc _ _ | .ifCond _ _ | .if_icmp _ _ | .if_acmp _ _ | .ifnull _ | .ifnonnull _ | .goto _ | .getfield _ | .putfield _ | .getstatic _ | .new _ | .anewarray _ | .checkcast _ | .invokevirtual _ | .invokespecial _ | .invokestatic _ => 3
  | .tableswitch _ _ _ _ | .lookupswitch _ _ => 0
  | _ => 1
theorem zlen_all : zcos.all (fun l => l.all fun e => decide (zlen e.2.1 = 0) || decide (e.2.2.1 = zlen e.2.1)) = true := by decide +kernel
theorem zcod_len {m pc : Nat} {q : Instr × Nat × Nat × Nat × Nat × Int} (h : zcod m pc = some q) : zlen q.1 = 0 ∨ q.2.1 = zlen q.1 := by
  have h1 := zfind_mem h
  cases hl : zcos[m]? with
  | none =>
    rw [List.getD_eq_getElem?_getD, hl] at h1
    simp at h1
  | some l =>
    rw [List.getD_eq_getElem?_getD, hl] at h1
    have h2 := List.all_eq_true.mp zlen_all l (List.mem_of_getElem? hl)
    have h3 := List.all_eq_true.mp h2 _ h1
    simpa using h3
theorem zcod_dec {m pc : Nat} {i : Instr} {r : Nat × Nat × Nat × Nat × Int} (h : zcod m pc = some (i, r)) (hn : zlen i ≠ 0) : decode (zB m) pc = .ok (i, zlen i) := by
  have h1 := zcod_ok h
  obtain ⟨len, a, b, pos, n⟩ := r
  have h2 := zcod_len h
  simp only [zchk, Bool.and_eq_true, decide_eq_true_eq] at h1
  rcases h2 with q | q
  · exact absurd q hn
  · rw [← q]
    exact h1.1
theorem zcod_chk {m pc : Nat} {i : Instr} {len a b pos : Nat} {n : Int} (h : zcod m pc = some (i, len, a, b, pos, n)) : zchk m (pc, i, len, a, b, pos, n) = true := zcod_ok h
theorem zObI : Cond.instanceMethod objectInit ∈ zG := zG_in (i := 72) (by decide +kernel) rfl
theorem zObC : Cond.code objectInit ⟨#[0xb1]⟩ 1 none ∈ zG := zG_in (i := 73) (by decide +kernel) rfl
theorem zAr_int : Cond.arrayClass .int ∈ zG := zG_in (i := 102) (by decide +kernel) rfl
theorem zAr_byte : Cond.arrayClass .byte ∈ zG := zG_in (i := 101) (by decide +kernel) rfl
theorem zAr_boolean : Cond.arrayClass .boolean ∈ zG := zG_in (i := 141) (by decide +kernel) rfl
theorem zNat : Cond.native arraycopyName ∈ zG := zG_in (i := 442) (by decide +kernel) rfl
theorem zNst : Cond.static arraycopyName ∈ zG := zG_in (i := 441) (by decide +kernel) rfl
theorem zNin : Cond.initialized "java/lang/System" ∈ zG := zG_in (i := 61) (by decide +kernel) rfl
theorem zsame : Cond.sameField "java/util/ArrayList" "java/util/AbstractList" "modCount" "I" ∈ zG := zG_in (i := 133) (by decide +kernel) rfl
