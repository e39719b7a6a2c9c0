section ZS
variable {p : Program} {l : Launch} {e : Env} {R : Room} {s : State} {m : MethodId} {args : Array Value} {below : List Frame} {meth : Method} {c : Code} {H : Heap} {locs : List Loc} {cells slots : Nat} {Q : State → Prop}
variable {G : zg} {k : Nat}
/-- what a walk through method k leans on -/
def zCx (G : zg) (k : Nat) (p : Program) (R : Room) (s : State) (m : MethodId) (args : Array Value) (meth : Method) (c : Code) : Prop :=
  p.tables.exec = Jvm.exec ∧ c.code = zB k ∧ c.maxLocals = zL k ∧ s.vm.findClass (zY k).cls = some m.cls ∧ (∀ w ∈ zG, w.before args s = true) ∧ zFr k ≤ R.frames ∧ zLo k ≤ R.locals ∧ zTb G s ∧ zSt G s s.heap ∧ meth.name = (zY k).name
theorem zad_eq {x y : Option Nat} (h7 : G.2.1 7 < G.1) (hx : (x.all fun a => decide (7 ≤ a)) = true) (hy : (y.all fun a => decide (7 ≤ a)) = true) : x.map (zad G) = y.map (zad G) ↔ x = y := by
  cases x with
  | none => cases y <;> simp
  | some a => cases y with
    | none => simp
    | some b =>
      simp only [Option.all_some, decide_eq_true_eq] at hx hy
      simp only [Option.map_some, Option.some.injEq, zad]
      constructor
      · intro h
        by_cases ha : a < 8 <;> by_cases hb : b < 8
        · omega
        · rw [if_pos ha, if_neg hb] at h
          have : a = 7 := by omega
          subst this
          omega
        · rw [if_neg ha, if_pos hb] at h
          have : b = 7 := by omega
          subst this
          omega
        · rw [if_neg ha, if_neg hb] at h
          omega
      · intro h; rw [h]
theorem zlks (d x : Int) : ∀ L : List (Int × Int), Op.lookupswitch.offset L d x = d ∨ ∃ q ∈ L, Op.lookupswitch.offset L d x = q.2
  | [] => Or.inl rfl
  | (a, o) :: r => by
    rw [Op.lookupswitch.offset_cons]
    split
    · exact Or.inr ⟨(a, o), List.mem_cons_self, rfl⟩
    · rcases zlks d x r with h | ⟨q, h1, h2⟩
      · exact Or.inl h
      · exact Or.inr ⟨q, List.mem_cons_of_mem _ h1, h2⟩
set_option maxHeartbeats 4000000 in
theorem zp1_sound (C : zCx G k p R s m args meth c) (hS : va_S (zAf G) s.heap H locs) {pc : Nat} {i : Instr} {len a b pos : Nat} {n : Int} (hc : zcod k pc = some (i, len, a, b, pos, n)) {al al' : zLs} {st st' : List zV} {pc' : Nat} (hp : zp1 i a n pc al st = some (pc', al', st')) {ls : Array Slot} (hl : zxl G ls (zL k) al) (kk : ∀ ls' : Array Slot, zxl G ls' (zL k) al' → W p l e R s m args below meth c H locs cells slots Q (F0 m pc' ls' (st'.map (zxv G)))) : W p l e R s m args below meth c H locs cells slots Q (F0 m pc ls (st.map (zxv G))) := by
  obtain ⟨hx, hb, hml, hown, hts, -, -, -, hst, -⟩ := id C
  have hck := zcod_chk hc
  cases i with
  | aconst_null => cases hp; exact lv_null hx hb (zcod_dec hc (by simp [zlen])) (kk ls hl)
  | iconst j => cases hp; exact lv_iconst hx hb (zcod_dec hc (by simp [zlen])) rfl (kk ls hl)
  | lconst j => cases hp; exact lv_lconst hx hb (zcod_dec hc (by simp [zlen])) rfl (kk ls hl)
  | bipush j => cases hp; exact lv_bipush hx hb (zcod_dec hc (by simp [zlen])) rfl (kk ls hl)
  | sipush j => cases hp; exact lv_sipush hx hb (zcod_dec hc (by simp [zlen])) rfl (kk ls hl)
  | ldc j =>
    simp only [zchk, Bool.and_eq_true, decide_eq_true_eq] at hck
    cases hp; exact lv_ldc hx hb hown (hts _ (zG_in hck.2 rfl)) (zcod_dec hc (by simp [zlen])) (kk ls hl)
  | ldc2_w j =>
    simp only [zchk, Bool.and_eq_true, decide_eq_true_eq] at hck
    cases hp; exact lv_ldc2 hx hb hown (hts _ (zG_in hck.2 rfl)) (zcod_dec hc (by simp [zlen])) (kk ls hl)
  | iload j =>
    simp only [zp1] at hp
    split at hp
    · rename_i x he
      cases hp; exact lv_iload hx hb (zcod_dec hc (by simp [zlen])) (hl.2.2.2 _ _ he) (kk ls hl)
    · cases hp
  | iload_n j =>
    simp only [zp1] at hp
    split at hp
    · rename_i x he
      cases hp; exact lv_iload_n hx hb (zcod_dec hc (by simp [zlen])) rfl (hl.2.2.2 _ _ he) (kk ls hl)
    · cases hp
  | lload j =>
    simp only [zp1] at hp
    split at hp
    · rename_i x he
      cases hp; exact lv_lload hx hb (zcod_dec hc (by simp [zlen])) (hl.2.2.2 _ _ he) (kk ls hl)
    · cases hp
  | lload_n j =>
    simp only [zp1] at hp
    split at hp
    · rename_i x he
      cases hp; exact lv_lload_n hx hb (zcod_dec hc (by simp [zlen])) rfl (hl.2.2.2 _ _ he) (kk ls hl)
    · cases hp
  | aload j =>
    simp only [zp1] at hp
    split at hp
    · rename_i x he
      cases hp
      cases x with
      | none => exact lv_aloadN hx hb (zcod_dec hc (by simp [zlen])) (hl.2.2.2 _ _ he) (kk ls hl)
      | some x => exact lv_aload hx hb (zcod_dec hc (by simp [zlen])) (hl.2.2.2 _ _ he) (kk ls hl)
    · cases hp
  | istore j =>
    simp only [zp1] at hp
    split at hp
    · obtain ⟨al1, h1, h2⟩ := Option.map_eq_some_iff.mp hp
      cases h2
      exact lv_istore hx hb (zcod_dec hc (by simp [zlen])) hl.has (by have := (zsto_ok h1).1; rw [hl.2.2.1] at this; exact this) rfl (fun ls' h' => kk ls' (hl.set1 h1 h'))
    · cases hp
  | astore j =>
    simp only [zp1] at hp
    split at hp
    · rename_i x _
      obtain ⟨al1, h1, h2⟩ := Option.map_eq_some_iff.mp hp
      cases h2
      cases x with
      | none => exact lv_astoreN hx hb (zcod_dec hc (by simp [zlen])) hl.has (by have := (zsto_ok h1).1; rw [hl.2.2.1] at this; exact this) rfl (fun ls' h' => kk ls' (hl.set1 h1 h'))
      | some x => exact lv_astore hx hb (zcod_dec hc (by simp [zlen])) hl.has (by have := (zsto_ok h1).1; rw [hl.2.2.1] at this; exact this) rfl (fun ls' h' => kk ls' (hl.set1 h1 h'))
    · cases hp
  | lstore j =>
    simp only [zp1] at hp
    split at hp
    · obtain ⟨al1, h1, h2⟩ := Option.map_eq_some_iff.mp hp
      cases h2
      exact lv_lstore hx hb (zcod_dec hc (by simp [zlen])) hl.has (by have := (zstl2_ok h1).1; rw [hl.2.2.1] at this; exact this) rfl (fun ls' h' => kk ls' (hl.set2 h1 h'))
    · cases hp
  | aload_n j =>
    simp only [zp1] at hp
    split at hp
    · rename_i x he
      cases hp
      cases x with
      | none => exact lv_aload_nN hx hb (zcod_dec hc (by simp [zlen])) rfl (hl.2.2.2 _ _ he) (kk ls hl)
      | some x => exact lv_aload_n hx hb (zcod_dec hc (by simp [zlen])) rfl (hl.2.2.2 _ _ he) (kk ls hl)
    · cases hp
  | istore_n j =>
    simp only [zp1] at hp
    split at hp
    · obtain ⟨al1, h1, h2⟩ := Option.map_eq_some_iff.mp hp
      cases h2
      exact lv_istore_n hx hb (zcod_dec hc (by simp [zlen])) rfl hl.has (by have := (zsto_ok h1).1; rw [hl.2.2.1] at this; exact this) rfl (fun ls' h' => kk ls' (hl.set1 h1 h'))
    · cases hp
  | astore_n j =>
    simp only [zp1] at hp
    split at hp
    · rename_i x _
      obtain ⟨al1, h1, h2⟩ := Option.map_eq_some_iff.mp hp
      cases h2
      cases x with
      | none => exact lv_astore_nN hx hb (zcod_dec hc (by simp [zlen])) rfl hl.has (by have := (zsto_ok h1).1; rw [hl.2.2.1] at this; exact this) rfl (fun ls' h' => kk ls' (hl.set1 h1 h'))
      | some x => exact lv_astore_n hx hb (zcod_dec hc (by simp [zlen])) rfl hl.has (by have := (zsto_ok h1).1; rw [hl.2.2.1] at this; exact this) rfl (fun ls' h' => kk ls' (hl.set1 h1 h'))
    · cases hp
  | lstore_n j =>
    simp only [zp1] at hp
    split at hp
    · obtain ⟨al1, h1, h2⟩ := Option.map_eq_some_iff.mp hp
      cases h2
      exact lv_lstore_n hx hb (zcod_dec hc (by simp [zlen])) rfl hl.has (by have := (zstl2_ok h1).1; rw [hl.2.2.1] at this; exact this) rfl (fun ls' h' => kk ls' (hl.set2 h1 h'))
    · cases hp
  | iinc j d =>
    simp only [zp1] at hp
    split at hp
    · rename_i x he
      obtain ⟨al1, h1, h2⟩ := Option.map_eq_some_iff.mp hp
      cases h2
      obtain ⟨q, hq⟩ := List.getElem?_of_mem ((zasA_mem G al 0 (j, Value.int x)).mpr ⟨j, _, he, by simp [zxv]⟩)
      exact lv_iinc hx hb (zcod_dec hc (by simp [zlen])) hl.has hq rfl (by have := (zsto_ok h1).1; rw [hl.2.2.1] at this; exact this) rfl (fun ls' h' => kk ls' (hl.set1 h1 h'))
    · cases hp
  | iadd =>
    simp only [zp1] at hp
    split at hp
    · cases hp; exact lv_iadd hx hb (zcod_dec hc (by simp [zlen])) (kk ls hl)
    · cases hp
  | isub =>
    simp only [zp1] at hp
    split at hp
    · cases hp; exact lv_isub hx hb (zcod_dec hc (by simp [zlen])) (kk ls hl)
    · cases hp
  | imul =>
    simp only [zp1] at hp
    split at hp
    · cases hp; exact lv_imul hx hb (zcod_dec hc (by simp [zlen])) (kk ls hl)
    · cases hp
  | iand =>
    simp only [zp1] at hp
    split at hp
    · cases hp; exact lv_iand hx hb (zcod_dec hc (by simp [zlen])) (kk ls hl)
    · cases hp
  | ishr =>
    simp only [zp1] at hp
    split at hp
    · cases hp; exact lv_ishr hx hb (zcod_dec hc (by simp [zlen])) (kk ls hl)
    · cases hp
  | land =>
    simp only [zp1] at hp
    split at hp
    · cases hp; exact lv_land hx hb (zcod_dec hc (by simp [zlen])) (kk ls hl)
    · cases hp
  | lor =>
    simp only [zp1] at hp
    split at hp
    · cases hp; exact lv_lor hx hb (zcod_dec hc (by simp [zlen])) (kk ls hl)
    · cases hp
  | ineg =>
    simp only [zp1] at hp
    split at hp
    · cases hp; exact lv_ineg hx hb (zcod_dec hc (by simp [zlen])) (kk ls hl)
    · cases hp
  | lcmp =>
    simp only [zp1] at hp
    split at hp
    · cases hp; exact W.lcmp hx hb (zcod_dec hc (by simp [zlen])) (kk ls hl)
    · cases hp
  | lshl =>
    simp only [zp1] at hp
    split at hp
    · cases hp; exact lv_lshl hx hb (zcod_dec hc (by simp [zlen])) rfl (kk ls hl)
    · cases hp
  | lshr =>
    simp only [zp1] at hp
    split at hp
    · cases hp; exact lv_lshr hx hb (zcod_dec hc (by simp [zlen])) rfl (kk ls hl)
    · cases hp
  | i2l =>
    simp only [zp1] at hp
    split at hp
    · cases hp; exact lv_i2l hx hb (zcod_dec hc (by simp [zlen])) rfl (kk ls hl)
    · cases hp
  | l2i =>
    simp only [zp1] at hp
    split at hp
    · cases hp; exact lv_l2i hx hb (zcod_dec hc (by simp [zlen])) rfl (kk ls hl)
    · cases hp
  | i2b =>
    simp only [zp1] at hp
    split at hp
    · cases hp; exact lv_i2b hx hb (zcod_dec hc (by simp [zlen])) rfl (kk ls hl)
    · cases hp
  | idiv =>
    simp only [zp1, zdv] at hp
    split at hp
    · split at hp
      · cases hp
      · rename_i hne
        cases hp; exact lv_idiv hx hb (zcod_dec hc (by simp [zlen])) hne (kk ls hl)
    · cases hp
  | irem =>
    simp only [zp1, zdv] at hp
    split at hp
    · split at hp
      · cases hp
      · rename_i hne
        cases hp; exact lv_irem hx hb (zcod_dec hc (by simp [zlen])) hne (kk ls hl)
    · cases hp
  | pop =>
    simp only [zp1] at hp
    split at hp
    · split at hp
      · rename_i hv
        cases hp; exact lv_pop hx hb (zcod_dec hc (by simp [zlen])) (zsm_cat hv) (kk ls hl)
      · cases hp
    · cases hp
  | dup =>
    simp only [zp1] at hp
    split at hp
    · split at hp
      · rename_i hv
        cases hp; exact lv_dup hx hb (zcod_dec hc (by simp [zlen])) (zsm_cat hv) (kk ls hl)
      · cases hp
    · cases hp
  | dup_x1 =>
    simp only [zp1] at hp
    split at hp
    · split at hp
      · rename_i hv
        rw [Bool.and_eq_true] at hv
        cases hp; exact lv_dup_x1 hx hb (zcod_dec hc (by simp [zlen])) (zsm_cat hv.1) (zsm_cat hv.2) (kk ls hl)
      · cases hp
    · cases hp
  | dup2 =>
    simp only [zp1] at hp
    split at hp
    · split at hp
      · rename_i hv
        rw [Bool.and_eq_true] at hv
        cases hp; exact lv_dup2_11 hx hb (zcod_dec hc (by simp [zlen])) (zsm_cat hv.1) (zsm_cat hv.2) (kk ls hl)
      · cases hp
    · cases hp
  | ifCond cnd off =>
    simp only [zchk, Bool.and_eq_true, decide_eq_true_eq] at hck
    simp only [zp1] at hp
    split at hp
    · cases cnd
      · simp only [zj1, zj2, decide_eq_true_eq] at hp
        exact lv_if_eq hx hb (zcod_dec hc (by simp [zlen])) hck.2 (fun h => by rw [if_pos h] at hp; cases hp; exact kk ls hl) (fun h => by rw [if_neg h] at hp; cases hp; exact kk ls hl)
      · simp only [zj1, zj2, decide_eq_true_eq] at hp
        exact lv_if_ne hx hb (zcod_dec hc (by simp [zlen])) hck.2 (fun h => by rw [if_pos h] at hp; cases hp; exact kk ls hl) (fun h => by rw [if_neg (fun q => q h)] at hp; cases hp; exact kk ls hl)
      · simp only [zj1, zj2, decide_eq_true_eq] at hp
        exact lv_if_lt hx hb (zcod_dec hc (by simp [zlen])) hck.2 (fun h => by rw [if_pos h] at hp; cases hp; exact kk ls hl) (fun h => by rw [if_neg h] at hp; cases hp; exact kk ls hl)
      · simp only [zj1, zj2, decide_eq_true_eq] at hp
        exact lv_if_ge hx hb (zcod_dec hc (by simp [zlen])) hck.2 (fun h => by rw [if_pos h] at hp; cases hp; exact kk ls hl) (fun h => by rw [if_neg h] at hp; cases hp; exact kk ls hl)
      · simp only [zj1, zj2, decide_eq_true_eq] at hp
        exact lv_if_gt hx hb (zcod_dec hc (by simp [zlen])) hck.2 (fun h => by rw [if_pos h] at hp; cases hp; exact kk ls hl) (fun h => by rw [if_neg h] at hp; cases hp; exact kk ls hl)
      · simp only [zj1, zj2, decide_eq_true_eq] at hp
        exact lv_if_le hx hb (zcod_dec hc (by simp [zlen])) hck.2 (fun h => by rw [if_pos h] at hp; cases hp; exact kk ls hl) (fun h => by rw [if_neg h] at hp; cases hp; exact kk ls hl)
    · cases hp
  | if_icmp cnd off =>
    simp only [zchk, Bool.and_eq_true, decide_eq_true_eq] at hck
    simp only [zp1] at hp
    split at hp
    · cases cnd
      · simp only [zj1, zj2, decide_eq_true_eq] at hp
        exact lv_icmp_eq hx hb (zcod_dec hc (by simp [zlen])) hck.2 (fun h => by rw [if_pos h] at hp; cases hp; exact kk ls hl) (fun h => by rw [if_neg h] at hp; cases hp; exact kk ls hl)
      · simp only [zj1, zj2, decide_eq_true_eq] at hp
        exact lv_icmp_ne hx hb (zcod_dec hc (by simp [zlen])) hck.2 (fun h => by rw [if_pos h] at hp; cases hp; exact kk ls hl) (fun h => by rw [if_neg (fun q => q h)] at hp; cases hp; exact kk ls hl)
      · simp only [zj1, zj2, decide_eq_true_eq] at hp
        exact lv_icmp_lt hx hb (zcod_dec hc (by simp [zlen])) hck.2 (fun h => by rw [if_pos h] at hp; cases hp; exact kk ls hl) (fun h => by rw [if_neg h] at hp; cases hp; exact kk ls hl)
      · simp only [zj1, zj2, decide_eq_true_eq] at hp
        exact lv_icmp_ge hx hb (zcod_dec hc (by simp [zlen])) hck.2 (fun h => by rw [if_pos h] at hp; cases hp; exact kk ls hl) (fun h => by rw [if_neg h] at hp; cases hp; exact kk ls hl)
      · simp only [zj1, zj2, decide_eq_true_eq] at hp
        exact lv_icmp_gt hx hb (zcod_dec hc (by simp [zlen])) hck.2 (fun h => by rw [if_pos h] at hp; cases hp; exact kk ls hl) (fun h => by rw [if_neg h] at hp; cases hp; exact kk ls hl)
      · simp only [zj1, zj2, decide_eq_true_eq] at hp
        exact lv_icmp_le hx hb (zcod_dec hc (by simp [zlen])) hck.2 (fun h => by rw [if_pos h] at hp; cases hp; exact kk ls hl) (fun h => by rw [if_neg h] at hp; cases hp; exact kk ls hl)
    · cases hp
  | if_acmp cnd off =>
    simp only [zchk, Bool.and_eq_true, decide_eq_true_eq] at hck
    cases cnd
    · simp only [zp1] at hp
      split at hp
      · simp only [zac] at hp
        split at hp
        · rename_i hall
          have hz := zad_eq (G := G) hst.2.2.2 hall.1 hall.2
          exact lv_acmp_eq hx hb (zcod_dec hc (by simp [zlen])) hck.2 (fun h => by rw [if_pos (hz.mp h)] at hp; cases hp; exact kk ls hl) (fun h => by rw [if_neg (fun q => h (hz.mpr q))] at hp; cases hp; exact kk ls hl)
        · cases hp
      · cases hp
    · simp only [zp1] at hp
      split at hp
      · simp only [zac] at hp
        split at hp
        · rename_i hall
          have hz := zad_eq (G := G) hst.2.2.2 hall.1 hall.2
          exact lv_acmp_ne hx hb (zcod_dec hc (by simp [zlen])) hck.2 (fun h => by rw [if_neg (fun q => h (hz.mpr q))] at hp; cases hp; exact kk ls hl) (fun h => by rw [if_pos (hz.mp h)] at hp; cases hp; exact kk ls hl)
        · cases hp
      · cases hp
  | ifnull off =>
    simp only [zchk, Bool.and_eq_true, decide_eq_true_eq] at hck
    simp only [zp1] at hp
    split at hp
    · cases hp; exact lv_ifnullN hx hb (zcod_dec hc (by simp [zlen])) hck.2 (kk ls hl)
    · cases hp; exact lv_ifnull hx hb (zcod_dec hc (by simp [zlen])) (kk ls hl)
    · cases hp
  | ifnonnull off =>
    simp only [zchk, Bool.and_eq_true, decide_eq_true_eq] at hck
    simp only [zp1] at hp
    split at hp
    · cases hp; exact lv_ifnonnullN hx hb (zcod_dec hc (by simp [zlen])) (kk ls hl)
    · cases hp; exact lv_ifnonnull hx hb (zcod_dec hc (by simp [zlen])) hck.2 (kk ls hl)
    · cases hp
  | goto off =>
    simp only [zchk, Bool.and_eq_true, decide_eq_true_eq] at hck
    cases hp; exact lv_goto hx hb (zcod_dec hc (by simp [zlen])) hck.2 (kk ls hl)
  | tableswitch d lo hi offs =>
    simp only [zchk, Bool.and_eq_true, decide_eq_true_eq] at hck
    simp only [zp1] at hp
    split at hp
    · split at hp
      · rename_i ho
        cases hp; exact lv_tableOut hx hb hck.1 ho (Int.toNat_of_nonneg hck.2.1).symm (kk ls hl)
      · rename_i ho
        obtain ⟨o, h1, h2⟩ := Option.map_eq_some_iff.mp hp
        cases h2
        obtain ⟨hlt, heq⟩ := Array.getElem?_eq_some_iff.mp h1
        have h3 := Array.all_eq_true.mp hck.2.2 _ hlt
        rw [heq, decide_eq_true_eq] at h3
        exact lv_tableIn hx hb hck.1 (fun q => ho (Or.inl q)) (fun q => ho (Or.inr q)) h1 (Int.toNat_of_nonneg h3).symm (kk ls hl)
    · cases hp
  | lookupswitch d ps =>
    simp only [zchk, Bool.and_eq_true, decide_eq_true_eq] at hck
    simp only [zp1] at hp
    split at hp
    · rename_i x _
      cases hp
      refine lv_lookup hx hb hck.1 hck.2.2 rfl (Int.toNat_of_nonneg ?_).symm (kk ls hl)
      rcases zlks d x.toInt ps.toList with h | ⟨q, h1, h2⟩
      · rw [h]; exact hck.2.1.1
      · rw [h2]
        obtain ⟨j, hj⟩ := List.getElem?_of_mem h1
        rw [Array.getElem?_toList] at hj
        obtain ⟨hlt, heq⟩ := Array.getElem?_eq_some_iff.mp hj
        have h3 := Array.all_eq_true.mp hck.2.1.2 _ hlt
        rw [heq, decide_eq_true_eq] at h3
        exact h3
    · cases hp
  | getstatic j =>
    simp only [zchk, Bool.and_eq_true, decide_eq_true_eq] at hck
    cases hp
    have ha : a < 8 := hck.2.1.2
    refine va_gets hx hb (hst.1 a hck.2.1.1 ha) hS hown (hts _ (zG_in hck.2.2 rfl)) (fun _ h => h) (zcod_dec hc (by simp [zlen])) ?_
    have := kk ls hl
    simpa [zxv, zxr, va_rf, zad, ha] using this
  | _ => simp [zp1] at hp
end ZS
