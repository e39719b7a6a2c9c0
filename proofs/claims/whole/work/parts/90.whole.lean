def R_law : String := "PaperTownLaw"
def lw_P (b : Addr) (xs : List Int32) (args : Array Value) (s : State) : Prop := args = #[.ref b] ∧ s.IntsAt b xs ∧ xs.length ≤ 2048 ∧ (Jvm.Cond.and given_1 narrow_1).before args s = true
def lw_Q (_ : Array Value) (s : State) (o : Outcome) (t : State) : Prop := o = .returned (some (.int 1)) ∧ Framed s o t [] 600000 7302250
def lw_Z (below : List Frame) (a : Array Value) (s : State) : State → Prop := fun t => ∃ o, t.status = .running ∧ Ended t below o ∧ lw_Q a s o t
/-- the law's own end, with 1 on the stack, nothing written that was there before, its room as the claim has it -/
theorem lw_ret {p : Program} {l : Launch} {e : Env} {s : State} {m : MethodId} {below : List Frame} {meth : Method} {c : Code} {b : Nat} (hx : p.tables.exec = Jvm.exec) (hb : c.code = code) (hr : meth.sig.returnType = ret) (hlocks : meth.locks = false) {pc : Nat} {H : Heap} {ls : Array Slot} (hdg : decode code pc = .ok (.ireturn, 1)) : W p l e room_1 s m #[Value.ref b] below meth c H [] 600000 7302250 (lw_Z below #[Value.ref b] s) (F0 m pc ls [.int 1]) := by
  intro T hT X
  obtain ⟨fs, hret, hrun, hended, hW, hframe⟩ := X.leave (v := some (.int 1)) (hlocks := hlocks) (fun h => by rw [hr] at h; cases h)
  have hmeth' : T.vm.method? m = some meth := X.method'
  refine ⟨T.setFrames fs, ?_, .returned (some (.int 1)), hrun, hended, rfl, ⟨_, rfl⟩, hW, hframe⟩
  jvm_step X.here [X.here.top, hx, hb, hdg, hmeth', hr, ret, narrow_b1]
  (try refine ⟨rfl, ?_⟩); (try refine ⟨rfl, ?_⟩)
  first | (intro acts; rw [hret _ acts rfl rfl rfl]) | rw [hret _ _ rfl rfl rfl]
  exact Steps.refl _
/-- what holds at the law's entry: the machine, the code, the tables' words (any of lw_tbl by 'hts w (by decide +kernel)'), the script of L ints xs at the cell b, what the Statement gives of the start (any of its parts by flat_of_before) -/
def lw_At (p : Program) (s : State) (m : MethodId) (meth : Method) (c : Code) (b L : Nat) (xs : Nat → Int32) : Prop :=
  p.tables.exec = Jvm.exec ∧ c.code = code ∧ meth.sig.returnType = ret ∧ c.maxLocals = 4 ∧ s.vm.findClass R_law = some m.cls ∧ (∀ w ∈ lw_tbl, w.before #[Value.ref b] s = true) ∧ va_X b L xs s s.heap ∧ b < s.heap.size ∧ meth.locks = false ∧ (Jvm.Cond.and given_1 narrow_1).before #[Value.ref b] s = true ∧ meth.name = "law"

theorem zB159 : zB 159 = code := rfl
theorem zq159 : zL 159 = 4 ∧ (zY 159).cls = R_law ∧ (zY 159).name = "law" ∧ zFr 159 ≤ 14 ∧ zLo 159 ≤ 556 := by decide +kernel
theorem zls1 : Cond.laysStatic "PaperTown$Text" "BLOCK_LEAST" "[I" ∈ lw_tbl := List.mem_of_getElem? (i := 263) (by decide +kernel)
theorem zli1 : Cond.initialized "PaperTown$Text" ∈ lw_tbl := List.mem_of_getElem? (i := 49) (by decide +kernel)
theorem zls2 : Cond.laysStatic "PaperTown$Text" "BLOCK_MOST" "[I" ∈ lw_tbl := List.mem_of_getElem? (i := 265) (by decide +kernel)
theorem zli2 : Cond.initialized "PaperTown$Text" ∈ lw_tbl := List.mem_of_getElem? (i := 49) (by decide +kernel)
theorem zls3 : Cond.laysStatic "PaperTown$Text" "STREET_LEAST" "[I" ∈ lw_tbl := List.mem_of_getElem? (i := 450) (by decide +kernel)
theorem zli3 : Cond.initialized "PaperTown$Text" ∈ lw_tbl := List.mem_of_getElem? (i := 49) (by decide +kernel)
theorem zls4 : Cond.laysStatic "PaperTown$Text" "STREET_MOST" "[I" ∈ lw_tbl := List.mem_of_getElem? (i := 452) (by decide +kernel)
theorem zli4 : Cond.initialized "PaperTown$Text" ∈ lw_tbl := List.mem_of_getElem? (i := 49) (by decide +kernel)
theorem zls5 : Cond.laysStatic "PaperTown$Text" "GIFT_LEAST" "[I" ∈ lw_tbl := List.mem_of_getElem? (i := 462) (by decide +kernel)
theorem zli5 : Cond.initialized "PaperTown$Text" ∈ lw_tbl := List.mem_of_getElem? (i := 49) (by decide +kernel)
theorem zls6 : Cond.laysStatic "PaperTown$Text" "GIFT_MOST" "[I" ∈ lw_tbl := List.mem_of_getElem? (i := 464) (by decide +kernel)
theorem zli6 : Cond.initialized "PaperTown$Text" ∈ lw_tbl := List.mem_of_getElem? (i := 49) (by decide +kernel)
theorem zls7 : Cond.laysStatic "java/util/ArrayList" "DEFAULTCAPACITY_EMPTY_ELEMENTDATA" "[Ljava/lang/Object;" ∈ lw_tbl := List.mem_of_getElem? (i := 128) (by decide +kernel)
theorem zli7 : Cond.initialized "java/util/ArrayList" ∈ lw_tbl := List.mem_of_getElem? (i := 54) (by decide +kernel)
theorem zca1 : Cond.castable (zcl 1).1 "java/lang/Object" ∈ lw_tbl := List.mem_of_getElem? (i := 1123) (by decide +kernel)
theorem zca2 : Cond.castable (zcl 2).1 "java/lang/Object" ∈ lw_tbl := List.mem_of_getElem? (i := 1122) (by decide +kernel)
theorem zaov : Cond.arrayOver (.object "java/lang/Object") ∈ lw_tbl := List.mem_of_getElem? (i := 435) (by decide +kernel)
theorem zdcl : Cond.declares ⟨"java/lang/Object", "getClass", "()Ljava/lang/Class;"⟩ ∈ lw_tbl := List.mem_of_getElem? (i := 1127) (by decide +kernel)
section ZT
variable {args : Array Value} {s : State}
theorem zta1 (xs : Nat → Int32) (hs : ∀ c ∈ flatC (Jvm.Cond.and given_1 narrow_1), c.before args s = true) : ∃ t : Nat, (Term.static "PaperTown$Text" "BLOCK_LEAST" "[I").eval args s none [] s = some (.ref t) ∧ va_T .int t 5 (fun j => .int (zsv xs 1 j)) (fun q => s.heap.size ≤ q) s s.heap := by
  refine va_Tof (tm := .static "PaperTown$Text" "BLOCK_LEAST" "[I") (by decide) (hs _ (by decide +kernel)) (va_eqt (z := 5) (hs (.eq (.length (.static "PaperTown$Text" "BLOCK_LEAST" "[I")) (.int 5)) (by decide +kernel))) (fun j hj => ?_) (fun a h => by omega)
  match j, hj with
  | 0, _ => exact va_eqt (z := 0) (hs (.eq (.elem (.static "PaperTown$Text" "BLOCK_LEAST" "[I") (.int 0)) (.int 0)) (by decide +kernel))
  | 1, _ => exact va_eqt (z := 0) (hs (.eq (.elem (.static "PaperTown$Text" "BLOCK_LEAST" "[I") (.int 1)) (.int 0)) (by decide +kernel))
  | 2, _ => exact va_eqt (z := 1) (hs (.eq (.elem (.static "PaperTown$Text" "BLOCK_LEAST" "[I") (.int 2)) (.int 1)) (by decide +kernel))
  | 3, _ => exact va_eqt (z := 1) (hs (.eq (.elem (.static "PaperTown$Text" "BLOCK_LEAST" "[I") (.int 3)) (.int 1)) (by decide +kernel))
  | 4, _ => exact va_eqt (z := 1) (hs (.eq (.elem (.static "PaperTown$Text" "BLOCK_LEAST" "[I") (.int 4)) (.int 1)) (by decide +kernel))
  | n + 5, h => exact absurd h (by omega)
theorem zta2 (xs : Nat → Int32) (hs : ∀ c ∈ flatC (Jvm.Cond.and given_1 narrow_1), c.before args s = true) : ∃ t : Nat, (Term.static "PaperTown$Text" "BLOCK_MOST" "[I").eval args s none [] s = some (.ref t) ∧ va_T .int t 5 (fun j => .int (zsv xs 2 j)) (fun q => s.heap.size ≤ q) s s.heap := by
  refine va_Tof (tm := .static "PaperTown$Text" "BLOCK_MOST" "[I") (by decide) (hs _ (by decide +kernel)) (va_eqt (z := 5) (hs (.eq (.length (.static "PaperTown$Text" "BLOCK_MOST" "[I")) (.int 5)) (by decide +kernel))) (fun j hj => ?_) (fun a h => by omega)
  match j, hj with
  | 0, _ => exact va_eqt (z := 19) (hs (.eq (.elem (.static "PaperTown$Text" "BLOCK_MOST" "[I") (.int 0)) (.int 19)) (by decide +kernel))
  | 1, _ => exact va_eqt (z := 15) (hs (.eq (.elem (.static "PaperTown$Text" "BLOCK_MOST" "[I") (.int 1)) (.int 15)) (by decide +kernel))
  | 2, _ => exact va_eqt (z := 9) (hs (.eq (.elem (.static "PaperTown$Text" "BLOCK_MOST" "[I") (.int 2)) (.int 9)) (by decide +kernel))
  | 3, _ => exact va_eqt (z := 9) (hs (.eq (.elem (.static "PaperTown$Text" "BLOCK_MOST" "[I") (.int 3)) (.int 9)) (by decide +kernel))
  | 4, _ => exact va_eqt (z := 9) (hs (.eq (.elem (.static "PaperTown$Text" "BLOCK_MOST" "[I") (.int 4)) (.int 9)) (by decide +kernel))
  | n + 5, h => exact absurd h (by omega)
theorem zta3 (xs : Nat → Int32) (hs : ∀ c ∈ flatC (Jvm.Cond.and given_1 narrow_1), c.before args s = true) : ∃ t : Nat, (Term.static "PaperTown$Text" "STREET_LEAST" "[I").eval args s none [] s = some (.ref t) ∧ va_T .int t 4 (fun j => .int (zsv xs 3 j)) (fun q => s.heap.size ≤ q) s s.heap := by
  refine va_Tof (tm := .static "PaperTown$Text" "STREET_LEAST" "[I") (by decide) (hs _ (by decide +kernel)) (va_eqt (z := 4) (hs (.eq (.length (.static "PaperTown$Text" "STREET_LEAST" "[I")) (.int 4)) (by decide +kernel))) (fun j hj => ?_) (fun a h => by omega)
  match j, hj with
  | 0, _ => exact va_eqt (z := 0) (hs (.eq (.elem (.static "PaperTown$Text" "STREET_LEAST" "[I") (.int 0)) (.int 0)) (by decide +kernel))
  | 1, _ => exact va_eqt (z := 0) (hs (.eq (.elem (.static "PaperTown$Text" "STREET_LEAST" "[I") (.int 1)) (.int 0)) (by decide +kernel))
  | 2, _ => exact va_eqt (z := 0) (hs (.eq (.elem (.static "PaperTown$Text" "STREET_LEAST" "[I") (.int 2)) (.int 0)) (by decide +kernel))
  | 3, _ => exact va_eqt (z := 1) (hs (.eq (.elem (.static "PaperTown$Text" "STREET_LEAST" "[I") (.int 3)) (.int 1)) (by decide +kernel))
  | n + 4, h => exact absurd h (by omega)
theorem zta4 (xs : Nat → Int32) (hs : ∀ c ∈ flatC (Jvm.Cond.and given_1 narrow_1), c.before args s = true) : ∃ t : Nat, (Term.static "PaperTown$Text" "STREET_MOST" "[I").eval args s none [] s = some (.ref t) ∧ va_T .int t 4 (fun j => .int (zsv xs 4 j)) (fun q => s.heap.size ≤ q) s s.heap := by
  refine va_Tof (tm := .static "PaperTown$Text" "STREET_MOST" "[I") (by decide) (hs _ (by decide +kernel)) (va_eqt (z := 4) (hs (.eq (.length (.static "PaperTown$Text" "STREET_MOST" "[I")) (.int 4)) (by decide +kernel))) (fun j hj => ?_) (fun a h => by omega)
  match j, hj with
  | 0, _ => exact va_eqt (z := 19) (hs (.eq (.elem (.static "PaperTown$Text" "STREET_MOST" "[I") (.int 0)) (.int 19)) (by decide +kernel))
  | 1, _ => exact va_eqt (z := 15) (hs (.eq (.elem (.static "PaperTown$Text" "STREET_MOST" "[I") (.int 1)) (.int 15)) (by decide +kernel))
  | 2, _ => exact va_eqt (z := 1) (hs (.eq (.elem (.static "PaperTown$Text" "STREET_MOST" "[I") (.int 2)) (.int 1)) (by decide +kernel))
  | 3, _ => exact va_eqt (z := 20) (hs (.eq (.elem (.static "PaperTown$Text" "STREET_MOST" "[I") (.int 3)) (.int 20)) (by decide +kernel))
  | n + 4, h => exact absurd h (by omega)
theorem zta5 (xs : Nat → Int32) (hs : ∀ c ∈ flatC (Jvm.Cond.and given_1 narrow_1), c.before args s = true) : ∃ t : Nat, (Term.static "PaperTown$Text" "GIFT_LEAST" "[I").eval args s none [] s = some (.ref t) ∧ va_T .int t 4 (fun j => .int (zsv xs 5 j)) (fun q => s.heap.size ≤ q) s s.heap := by
  refine va_Tof (tm := .static "PaperTown$Text" "GIFT_LEAST" "[I") (by decide) (hs _ (by decide +kernel)) (va_eqt (z := 4) (hs (.eq (.length (.static "PaperTown$Text" "GIFT_LEAST" "[I")) (.int 4)) (by decide +kernel))) (fun j hj => ?_) (fun a h => by omega)
  match j, hj with
  | 0, _ => exact va_eqt (z := 0) (hs (.eq (.elem (.static "PaperTown$Text" "GIFT_LEAST" "[I") (.int 0)) (.int 0)) (by decide +kernel))
  | 1, _ => exact va_eqt (z := 0) (hs (.eq (.elem (.static "PaperTown$Text" "GIFT_LEAST" "[I") (.int 1)) (.int 0)) (by decide +kernel))
  | 2, _ => exact va_eqt (z := 1) (hs (.eq (.elem (.static "PaperTown$Text" "GIFT_LEAST" "[I") (.int 2)) (.int 1)) (by decide +kernel))
  | 3, _ => exact va_eqt (z := 1) (hs (.eq (.elem (.static "PaperTown$Text" "GIFT_LEAST" "[I") (.int 3)) (.int 1)) (by decide +kernel))
  | n + 4, h => exact absurd h (by omega)
theorem zta6 (xs : Nat → Int32) (hs : ∀ c ∈ flatC (Jvm.Cond.and given_1 narrow_1), c.before args s = true) : ∃ t : Nat, (Term.static "PaperTown$Text" "GIFT_MOST" "[I").eval args s none [] s = some (.ref t) ∧ va_T .int t 4 (fun j => .int (zsv xs 6 j)) (fun q => s.heap.size ≤ q) s s.heap := by
  refine va_Tof (tm := .static "PaperTown$Text" "GIFT_MOST" "[I") (by decide) (hs _ (by decide +kernel)) (va_eqt (z := 4) (hs (.eq (.length (.static "PaperTown$Text" "GIFT_MOST" "[I")) (.int 4)) (by decide +kernel))) (fun j hj => ?_) (fun a h => by omega)
  match j, hj with
  | 0, _ => exact va_eqt (z := 19) (hs (.eq (.elem (.static "PaperTown$Text" "GIFT_MOST" "[I") (.int 0)) (.int 19)) (by decide +kernel))
  | 1, _ => exact va_eqt (z := 15) (hs (.eq (.elem (.static "PaperTown$Text" "GIFT_MOST" "[I") (.int 1)) (.int 15)) (by decide +kernel))
  | 2, _ => exact va_eqt (z := 9) (hs (.eq (.elem (.static "PaperTown$Text" "GIFT_MOST" "[I") (.int 2)) (.int 9)) (by decide +kernel))
  | 3, _ => exact va_eqt (z := 9) (hs (.eq (.elem (.static "PaperTown$Text" "GIFT_MOST" "[I") (.int 3)) (.int 9)) (by decide +kernel))
  | n + 4, h => exact absurd h (by omega)
theorem zta7 (hs : ∀ c ∈ flatC (Jvm.Cond.and given_1 narrow_1), c.before args s = true) : ∃ t : Nat, (Term.static "java/util/ArrayList" "DEFAULTCAPACITY_EMPTY_ELEMENTDATA" "[Ljava/lang/Object;").eval args s none [] s = some (.ref t) ∧ va_T (.object "java/lang/Object") t 0 (fun _ => .null) (fun q => s.heap.size ≤ q) s s.heap :=
  va_Tof (tm := .static "java/util/ArrayList" "DEFAULTCAPACITY_EMPTY_ELEMENTDATA" "[Ljava/lang/Object;") (by decide) (hs _ (by decide +kernel)) (va_eqt (z := 0) (hs (.eq (.length (.static "java/util/ArrayList" "DEFAULTCAPACITY_EMPTY_ELEMENTDATA" "[Ljava/lang/Object;")) (.int 0)) (by decide +kernel))) (fun j hj => absurd hj (by omega)) (fun a h => by omega)
end ZT
theorem zTb0 {args : Array Value} {s : State} (hts : ∀ w ∈ lw_tbl, w.before args s = true) (hs : ∀ c ∈ flatC (Jvm.Cond.and given_1 narrow_1), c.before args s = true) : ∃ (D : va_G) (cA : Nat → ClassId) (mi : Nat), ∀ (S0 : Nat) (sta : Nat → Nat) (sk : Nat → Nat × Nat) (sv : Nat → Nat → Int32), zTb (S0, sta, D, cA, mi, sk, sv) s := by
  have hg : ∀ w ∈ zG, w.before args s = true := fun w hw => hts w (zG_tbl hw)
  have hc : ∀ t, ∃ q : ClassId × (Nat → Nat), t < 10 → u_Kn s (zcl t).1 (zcl t).2.1 (zcl t).2.2 q.1 q.2 := by
    intro t
    by_cases ht : t < 10
    · obtain ⟨cC, iS, h⟩ := u_known hg (zuw ht) (hg _ (zins1 ht).1)
      exact ⟨(cC, iS), fun _ => h⟩
    · exact ⟨(0, fun _ => 0), fun h => absurd h ht⟩
  have ha : ∀ (ty : FieldType), Cond.arrayClass ty ∈ zG → (match ty with | .object _ => False | _ => True) → ∃ cA : ClassId, ArrOfT s cA ty ∧ va_RA s cA ty := by
    intro ty hw hty
    obtain ⟨cA, k, comp, h1, h2, h3⟩ := Cond.arrayClass_spec (hg _ hw)
    refine ⟨cA, fun n z => ⟨fun k h => (by cases h), k, h2, comp, h3⟩, ?_⟩
    cases ty <;> first | exact h1 | exact hty.elim
  obtain ⟨c0, hc0⟩ := ha .int zAr_int trivial
  obtain ⟨c1, hc1⟩ := ha .byte zAr_byte trivial
  obtain ⟨c2, hc2⟩ := ha .boolean zAr_boolean trivial
  obtain ⟨comp, c3, k3, r1, r2, r3, r4, r5⟩ := Cond.arrayOver_spec (hts _ zaov)
  obtain ⟨mi, hmi⟩ := va_Mi.of (hs (.isRef (.mirror "[Ljava/lang/Object;")) (by decide +kernel))
  refine ⟨(fun t => (hc t).choose.1, fun t => (hc t).choose.2), fun t => if t = 100 then c0 else if t = 101 then c1 else if t = 102 then c2 else c3, mi, fun S0 sta sk sv => ⟨fun t ht => (hc t).choose_spec ht, fun t h1 h2 => ?_, va_AO.of (hts _ zaov), hmi, va_Dc.of (hts _ zdcl), fun w hw hn => ?_, va_Nw.of rfl (hts _ zca1), va_Nw.of rfl (hts _ zca2)⟩⟩
  · have h4 : t = 100 ∨ t = 101 ∨ t = 102 ∨ t = 103 := by omega
    rcases h4 with rfl | rfl | rfl | rfl
    · exact hc0
    · exact hc1
    · exact hc2
    · exact ⟨fun n z => ⟨fun k h => (by cases h), k3, r3, comp, r4⟩, k3, comp, r3, r4, r1, r5⟩
  · have := hts w hw
    cases w <;> simp [zisN] at hn
    exact va_Nw.of rfl this
/-- the law, out of what the small machine answers -/
theorem whole_start {p : Program} {e : Env} {s : State} {m : MethodId} {below : List Frame} {meth : Method} {c : Code} (l : Launch) {b L : Nat} {xs : Nat → Int32} (hL : L ≤ 2048) (C0 : lw_At p s m meth c b L xs) : W p l e room_1 s m #[Value.ref b] below meth c s.heap [] 0 0 (lw_Z below #[Value.ref b] s) (entryFrame m ([Value.ref b] : List Value).toArray 4) := by
  obtain ⟨hx, hb, hr, hml, hown, hts, hX, hbl, hlocks, hgv, hname⟩ := id C0
  have hs := flat_of_before _ hgv
  obtain ⟨t1, v1, ta1⟩ := zta1 xs hs
  obtain ⟨t2, v2, ta2⟩ := zta2 xs hs
  obtain ⟨t3, v3, ta3⟩ := zta3 xs hs
  obtain ⟨t4, v4, ta4⟩ := zta4 xs hs
  obtain ⟨t5, v5, ta5⟩ := zta5 xs hs
  obtain ⟨t6, v6, ta6⟩ := zta6 xs hs
  obtain ⟨t7, v7, ta7⟩ := zta7 hs
  obtain ⟨D, cA, mi, hTb⟩ := zTb0 hts hs
  obtain ⟨h1, hz, hn1, hs1⟩ := zlaw_ok L xs hL
  obtain ⟨n, hex⟩ := zev_ex hz
  have hA : ∀ a : Nat, a < s.heap.size → ¬ (fun q : Nat => s.heap.size ≤ q) a := fun a h => by omega
  have hT := hTb s.heap.size (fun a => match a with | 0 => b | 1 => t1 | 2 => t2 | 3 => t3 | 4 => t4 | 5 => t5 | 6 => t6 | _ => t7) (zsk L) (zsv xs)
  generalize hG : ((s.heap.size, (fun a => match a with | 0 => b | 1 => t1 | 2 => t2 | 3 => t3 | 4 => t4 | 5 => t5 | 6 => t6 | _ => t7), D, cA, mi, zsk L, zsv xs) : zg) = G at hT
  have e0 : zAf G = fun q => s.heap.size ≤ q := by rw [← hG]; rfl
  have tab : va_T .int b L (fun j => .int (xs j)) (fun q => s.heap.size ≤ q) s s.heap := by
    obtain ⟨scr, x1, x2, x3, x4, x5⟩ := hX
    exact ⟨scr, x1, x2, x3, by omega, by rw [x4], x5, fun h => absurd hbl (Nat.not_lt.mpr h)⟩
  have hSt : zSt G s s.heap := by
    unfold zSt
    rw [e0]
    subst hG
    refine ⟨fun a ha hb => ?_, fun a ha => ?_, ⟨rfl, ta7⟩, ?_⟩
    · match a, ha, hb with
      | 0, ha, _ => exact absurd ha (by omega)
      | 1, _, _ => exact va_Zof (hts _ zls1) (hts _ zli1) v1 hA
      | 2, _, _ => exact va_Zof (hts _ zls2) (hts _ zli2) v2 hA
      | 3, _, _ => exact va_Zof (hts _ zls3) (hts _ zli3) v3 hA
      | 4, _, _ => exact va_Zof (hts _ zls4) (hts _ zli4) v4 hA
      | 5, _, _ => exact va_Zof (hts _ zls5) (hts _ zli5) v5 hA
      | 6, _, _ => exact va_Zof (hts _ zls6) (hts _ zli6) v6 hA
      | 7, _, _ => exact va_Zof (hts _ zls7) (hts _ zli7) v7 hA
      | n + 8, _, hb => exact absurd hb (by omega)
    · match a, ha with
      | 0, _ => exact ⟨rfl, tab⟩
      | 1, _ => exact ⟨rfl, ta1⟩
      | 2, _ => exact ⟨rfl, ta2⟩
      | 3, _ => exact ⟨rfl, ta3⟩
      | 4, _ => exact ⟨rfl, ta4⟩
      | 5, _ => exact ⟨rfl, ta5⟩
      | 6, _ => exact ⟨rfl, ta6⟩
      | n + 7, hb => exact absurd hb (by omega)
    · obtain ⟨cell, g1, -⟩ := ta7
      exact (Array.getElem?_eq_some_iff.mp g1).1
  have hW : zWd G (zh0 L xs) s.heap := by
    subst hG
    exact ⟨Nat.le_refl 8, rfl, fun a h1 h2 => absurd h2 (Nat.not_lt.mpr h1), fun a _ => ⟨rfl, fun _ => rfl⟩⟩
  have C : zCx G 159 p room_1 s m #[Value.ref b] meth c := ⟨hx, hb.trans zB159.symm, hml.trans zq159.1.symm, by rw [zq159.2.1]; exact hown, fun w hw => hts w (zG_tbl hw), zq159.2.2.2.1, zq159.2.2.2.2, hT, hSt, hname.trans zq159.2.2.1.symm⟩
  have hen : ([Value.ref b] : List Value) = ([vR (some 0)] : List zV).map (zxv G) := by subst hG; rfl
  have h4 : zL 159 = 4 := zq159.1
  refine W.eq (g2 := F0 m 0 ((lg_sl (([vR (some 0)] : List zV).map (zxv G)) ++ List.replicate (zL 159 - (lg_sl (([vR (some 0)] : List zV).map (zxv G))).length) Slot.unset).toArray) []) (by rw [hen, ← h4, lg_entry_eq]) ?_
  refine zInn_all l G n 159 0 (zent 159 [vR (some 0)]) [] (zh0 L xs) h1 (some (vI 1)) p e room_1 s m #[Value.ref b] below meth c s.heap [] 0 0 _ _ C hex hW (by rw [e0]; exact va_S.rf) (zent_xl (by rw [h4]; decide)) (by show 0 + (zn h1 - 8) ≤ 600000; omega) (by show 0 + (zs h1 - 0) ≤ 7302250; omega) ?_
  intro pc' st' ls' H' locs' hf hW' hS'
  obtain ⟨i, len, a, b', pos, nn, al, hc, hz'⟩ := hf
  cases i with
  | ireturn =>
    simp only [zc1] at hz'
    split at hz'
    · split at hz'
      · cases hz'
        refine va_forget (fun q hq => by have := hS'.2.2 q hq; rw [e0] at this; exact this) ?_
        refine W.widen (k := 600000) (n := 7302250) (by show 0 + (zn h1 - 8) ≤ 600000; omega) (by show 0 + (zs h1 - 0) ≤ 7302250; omega) ?_
        exact lw_ret hx hb hr hlocks (by rw [← zB159]; exact zcod_dec hc (by simp [zlen]))
      · cases hz'
    · cases hz'
  | areturn => simp only [zc1] at hz'; (repeat' split at hz') <;> cases hz'
  | return_ => simp only [zc1] at hz'; (repeat' split at hz') <;> cases hz'
  | invokevirtual _ => simp only [zc1] at hz'; (repeat' split at hz') <;> cases hz'
  | invokespecial _ => simp only [zc1] at hz'; (repeat' split at hz') <;> cases hz'
  | invokestatic _ => simp only [zc1] at hz'; (repeat' split at hz') <;> cases hz'
  | _ => simp [zc1] at hz'
