/-! arrays, new cells, arraycopy, over the small heap -/
theorem zAny {G : zg} {s : State} {h : zH} {H : Heap} {y : Nat} (hT : zTb G s) (hW : zWd G h H) (ho : zob h y) : va_Any "java/lang/Object" s H (zad G y) := by
  obtain ⟨o1, o2, o3⟩ := ho
  obtain ⟨-, cell, q1, q2, q3, -⟩ := (hW.2.2.1 y o1 o2).obj rfl (by omega)
  obtain ⟨-, hfc, kC, hkC, -⟩ := hT.1 (zk h y).1 (by omega)
  refine ⟨cell, q1, by rw [q3]; rfl, ⟨kC, by rw [q2]; exact hkC⟩, fun comp hcomp => ?_⟩
  rw [q2]
  rcases o3 with e | e
  · rw [e] at hfc ⊢
    exact vb_asgC hT.2.2.2.2.2.2.1 comp _ hcomp hfc
  · rw [e] at hfc ⊢
    exact vb_asgC hT.2.2.2.2.2.2.2 comp _ hcomp hfc
theorem zarrI {G : zg} {h : zH} {H : Heap} {a t : Nat} (ht : (zk h a).1 = t) (h10 : t = 100 ∨ t = 101 ∨ t = 102) (hc : H[zad G a]? = some (arrV (G.2.2.2.1 t) (zk h a).2 (fun j => .int (zi h a j)))) : zce G h H a := by
  subst ht
  exact Or.inr (Or.inl ⟨h10, hc⟩)
theorem zarrR {G : zg} {h : zH} {H : Heap} {a : Nat} (ht : (zk h a).1 = 103) (hc : H[zad G a]? = some (arrV (G.2.2.2.1 103) (zk h a).2 (fun j => zxr G (zr h a j)))) : zce G h H a :=
  Or.inr (Or.inr ⟨ht, hc⟩)
theorem zupdI {h : zH} {a i : Nat} {x : Int32} : (fun j => Value.int (zi (zui h a i x) a j)) = updV (fun j => Value.int (zi h a j)) i (.int x) := by
  funext j
  by_cases hj : j = i
  · subst hj; simp [updV, zi, zui]
  · simp [updV, hj, zi, zui]
theorem zupdR {G : zg} {h : zH} {a i : Nat} {x : Option Nat} : (fun j => zxr G (zr (zur h a i x) a j)) = updV (fun j => zxr G (zr h a j)) i (zxr G x) := by
  funext j
  by_cases hj : j = i
  · subst hj; simp [updV, zr, zur]
  · simp [updV, hj, zr, zur]
section ZS3
variable {p : Program} {l : Launch} {e : Env} {R : Room} {s : State} {m : MethodId} {args : Array Value} {below : List Frame} {meth : Method} {c : Code} {H : Heap} {locs : List Loc} {cells slots : Nat} {Q : State → Prop}
variable {G : zg} {k : Nat} {h : zH} {ls : Array Slot} {pc : Nat} {rest : List Value}
theorem zin {i : Int32} {n : Nat} {cA : ClassId} {f : Nat → Value} (h1 : ¬ i < 0) (h2 : i.toNatClampNeg < n) : ¬ (i < 0 ∨ (arrV cA n f).slots.size ≤ i.toNatClampNeg) := by
  rw [arrV_size]
  intro q
  rcases q with q | q
  · exact h1 q
  · omega
theorem zW_iald (C : zCx G k p R s m args meth c) (hW : zWd G h H) (hS : va_S (zAf G) s.heap H locs) {a : Nat} {i : Int32} (hi : zix h a 100 i) (hd : decode (zB k) pc = .ok (.iaload, 1)) (kk : W p l e R s m args below meth c H locs cells slots Q (F0 m (pc + 1) ls (.int (zi h a i.toNatClampNeg) :: rest))) : W p l e R s m args below meth c H locs cells slots Q (F0 m pc ls (.int i :: zxr G (some a) :: rest)) := by
  obtain ⟨hx, hb, -, -, -, -, -, hT, hst, -⟩ := C
  obtain ⟨i1, i2, i3, i4⟩ := hi
  by_cases ha : a < 8
  · obtain ⟨e1, e2⟩ := hW.2.2.2 a ha
    have ha7 : a < 7 := by
      rcases Nat.lt_or_ge a 7 with q | q
      · exact q
      · have : a = 7 := by omega
        subst this
        rw [e1, hst.2.2.1.1] at i2
        simp at i2
    rw [e1] at i4
    have hz : zxr G (some a) = .ref (G.2.1 a) := by simp [zxr, va_rf, zad, ha]
    rw [hz]
    refine va_ti hx hb (hst.2.1 a ha7).2 hS (fun q => ?_) (v := .int (zi h a i.toNatClampNeg)) (by rw [e2]) hd kk
    rcases q with q | q
    · exact i3 q
    · omega
  · have hc := (hW.2.2.1 a (by omega) i1).ints i2 (Or.inl rfl)
    exact W.iald (v := .int (zi h a i.toNatClampNeg)) hx hb hc ((hT.2.1 100 (by omega) (by omega)).1 _ _) (fun q => by cases q) (zin i3 i4) (arrV_read _ _ i4) rfl rfl hd kk
theorem zW_bald (C : zCx G k p R s m args meth c) (hW : zWd G h H) {a : Nat} {i : Int32} (ha : 8 ≤ a) (hi : zix h a 101 i ∨ zix h a 102 i) (hd : decode (zB k) pc = .ok (.baload, 1)) (kk : W p l e R s m args below meth c H locs cells slots Q (F0 m (pc + 1) ls (.int (zi h a i.toNatClampNeg) :: rest))) : W p l e R s m args below meth c H locs cells slots Q (F0 m pc ls (.int i :: zxr G (some a) :: rest)) := by
  obtain ⟨hx, hb, -, -, -, -, -, hT, hst, -⟩ := C
  rcases hi with ⟨i1, i2, i3, i4⟩ | ⟨i1, i2, i3, i4⟩
  · have hc := (hW.2.2.1 a ha i1).ints i2 (Or.inr (Or.inl rfl))
    exact W.bald (v := .int (zi h a i.toNatClampNeg)) hx hb hc ((hT.2.1 101 (by omega) (by omega)).1 _ _) (fun q => by cases q) (zin i3 i4) (arrV_read _ _ i4) rfl rfl hd kk
  · have hc := (hW.2.2.1 a ha i1).ints i2 (Or.inr (Or.inr rfl))
    exact W.zald (v := .int (zi h a i.toNatClampNeg)) hx hb hc ((hT.2.1 102 (by omega) (by omega)).1 _ _) (fun q => by cases q) (zin i3 i4) (arrV_read _ _ i4) rfl rfl hd kk
theorem zW_aald (C : zCx G k p R s m args meth c) (hW : zWd G h H) {a : Nat} {i : Int32} (ha : 8 ≤ a) (hi : zix h a 103 i) (hd : decode (zB k) pc = .ok (.aaload, 1)) (kk : W p l e R s m args below meth c H locs cells slots Q (F0 m (pc + 1) ls (zxr G (zr h a i.toNatClampNeg) :: rest))) : W p l e R s m args below meth c H locs cells slots Q (F0 m pc ls (.int i :: zxr G (some a) :: rest)) := by
  obtain ⟨hx, hb, -, -, -, -, -, hT, hst, -⟩ := C
  obtain ⟨i1, i2, i3, i4⟩ := hi
  have hc := (hW.2.2.1 a ha i1).refs i2
  exact W.aald (v := zxr G (zr h a i.toNatClampNeg)) (ty := .object "java/lang/Object") hx hb hc ((hT.2.1 103 (by omega) (by omega)).1 _ _) rfl (fun q => by cases q) (zin i3 i4) (arrV_read _ _ i4) rfl rfl hd kk
theorem zW_alen (C : zCx G k p R s m args meth c) (hW : zWd G h H) (hS : va_S (zAf G) s.heap H locs) {a : Nat} (ha : a < zn h) (ht : 100 ≤ (zk h a).1) (hd : decode (zB k) pc = .ok (.arraylength, 1)) (kk : W p l e R s m args below meth c H locs cells slots Q (F0 m (pc + 1) ls (.int (Int32.ofNat (zk h a).2) :: rest))) : W p l e R s m args below meth c H locs cells slots Q (F0 m pc ls (zxr G (some a) :: rest)) := by
  obtain ⟨hx, hb, -, -, -, -, -, hT, hst, -⟩ := C
  by_cases ha8 : a < 8
  · obtain ⟨e1, e2⟩ := hW.2.2.2 a ha8
    have hz : zxr G (some a) = .ref (G.2.1 a) := by simp [zxr, va_rf, zad, ha8]
    rw [hz]
    rw [e1] at kk
    rcases Nat.lt_or_ge a 7 with q | q
    · exact va_tlen hx hb (hst.2.1 a q).2 hS rfl hd kk
    · have : a = 7 := by omega
      subst this
      rw [hst.2.2.1.1] at kk
      exact va_tlen hx hb hst.2.2.1.2 hS rfl hd kk
  · rcases hW.2.2.1 a (by omega) ha with ⟨h1, -⟩ | ⟨h1, h2⟩ | ⟨h1, h2⟩
    · omega
    · refine W.alen (n := Int32.ofNat (zk h a).2) (ty := zat (zk h a).1) hx hb h2 ((hT.2.1 (zk h a).1 (by omega) (by omega)).1 _ _) (by rw [arrV_size] <;> rfl) rfl rfl hd kk
    · exact W.alen (n := Int32.ofNat (zk h a).2) (ty := .object "java/lang/Object") hx hb h2 ((hT.2.1 103 (by omega) (by omega)).1 _ _) (by rw [arrV_size] <;> rfl) rfl rfl hd kk
theorem zW_iast (C : zCx G k p R s m args meth c) (hW : zWd G h H) (hS : va_S (zAf G) s.heap H locs) {a : Nat} {i x : Int32} (ha : 8 ≤ a) (hi : zix h a 100 i) (hd : decode (zB k) pc = .ok (.iastore, 1)) (kk : ∀ (H1 : Heap) (locs1 : List Loc), zWd G (zui h a i.toNatClampNeg x) H1 → va_S (zAf G) s.heap H1 locs1 → W p l e R s m args below meth c H1 locs1 cells slots Q (F0 m (pc + 1) ls rest)) : W p l e R s m args below meth c H locs cells slots Q (F0 m pc ls (.int x :: .int i :: zxr G (some a) :: rest)) := by
  obtain ⟨hx, hb, -, -, -, -, -, hT, hst, -⟩ := C
  obtain ⟨i1, i2, i3, i4⟩ := hi
  have hc := (hW.2.2.1 a ha i1).ints i2 (Or.inl rfl)
  refine W.iast hx hb hc ((hT.2.1 100 (by omega) (by omega)).1 _ _) (fun q => by cases q) (zin i3 i4) rfl rfl hd fun H1 e1 z oq => ?_
  refine kk H1 _ (hW.ui ha z oq (zarrI i2 (Or.inl rfl) ?_)) (hS.put z oq (zad_A ha))
  rw [e1, arrV_store, zupdI]
  rfl
theorem zW_bast (C : zCx G k p R s m args meth c) (hW : zWd G h H) (hS : va_S (zAf G) s.heap H locs) {a : Nat} {i x : Int32} (ha : 8 ≤ a) (hi : zix h a 101 i) (hd : decode (zB k) pc = .ok (.bastore, 1)) (kk : ∀ (H1 : Heap) (locs1 : List Loc), zWd G (zui h a i.toNatClampNeg x.toInt8.toInt32) H1 → va_S (zAf G) s.heap H1 locs1 → W p l e R s m args below meth c H1 locs1 cells slots Q (F0 m (pc + 1) ls rest)) : W p l e R s m args below meth c H locs cells slots Q (F0 m pc ls (.int x :: .int i :: zxr G (some a) :: rest)) := by
  obtain ⟨hx, hb, -, -, -, -, -, hT, hst, -⟩ := C
  obtain ⟨i1, i2, i3, i4⟩ := hi
  have hc := (hW.2.2.1 a ha i1).ints i2 (Or.inr (Or.inl rfl))
  refine W.bast hx hb hc ((hT.2.1 101 (by omega) (by omega)).1 _ _) (fun q => by cases q) (zin i3 i4) rfl rfl hd fun H1 e1 z oq => ?_
  refine kk H1 _ (hW.ui ha z oq (zarrI i2 (Or.inr (Or.inl rfl)) ?_)) (hS.put z oq (zad_A ha))
  rw [e1, arrV_store, zupdI]
  rfl
theorem zW_zast (C : zCx G k p R s m args meth c) (hW : zWd G h H) (hS : va_S (zAf G) s.heap H locs) {a : Nat} {i x : Int32} (ha : 8 ≤ a) (hi : zix h a 102 i) (hb1 : x = 0 ∨ x = 1) (hd : decode (zB k) pc = .ok (.bastore, 1)) (kk : ∀ (H1 : Heap) (locs1 : List Loc), zWd G (zui h a i.toNatClampNeg x) H1 → va_S (zAf G) s.heap H1 locs1 → W p l e R s m args below meth c H1 locs1 cells slots Q (F0 m (pc + 1) ls rest)) : W p l e R s m args below meth c H locs cells slots Q (F0 m pc ls (.int x :: .int i :: zxr G (some a) :: rest)) := by
  obtain ⟨hx, hb, -, -, -, -, -, hT, hst, -⟩ := C
  obtain ⟨i1, i2, i3, i4⟩ := hi
  have hc := (hW.2.2.1 a ha i1).ints i2 (Or.inr (Or.inr rfl))
  have hnar : narrow .boolean (.int x) = .int x := by rcases hb1 with e | e <;> subst e <;> decide +kernel
  refine W.zast hx hb hc ((hT.2.1 102 (by omega) (by omega)).1 _ _) (fun q => by cases q) (zin i3 i4) rfl rfl hd fun H1 e1 z oq => ?_
  refine kk H1 _ (hW.ui ha z oq (zarrI i2 (Or.inr (Or.inr rfl)) ?_)) (hS.put z oq (zad_A ha))
  rw [e1, hnar, arrV_store, zupdI]
  rfl
theorem zW_aast (C : zCx G k p R s m args meth c) (hW : zWd G h H) (hS : va_S (zAf G) s.heap H locs) {a : Nat} {i : Int32} {x : Option Nat} (ha : 8 ≤ a) (hi : zix h a 103 i) (hob : (x.all fun y => decide (zob h y)) = true) (hd : decode (zB k) pc = .ok (.aastore, 1)) (kk : ∀ (H1 : Heap) (locs1 : List Loc), zWd G (zur h a i.toNatClampNeg x) H1 → va_S (zAf G) s.heap H1 locs1 → W p l e R s m args below meth c H1 locs1 cells slots Q (F0 m (pc + 1) ls rest)) : W p l e R s m args below meth c H locs cells slots Q (F0 m pc ls (zxr G x :: .int i :: zxr G (some a) :: rest)) := by
  obtain ⟨hx, hb, -, -, -, -, -, hT, hst, -⟩ := C
  obtain ⟨i1, i2, i3, i4⟩ := hi
  have hc := (hW.2.2.1 a ha i1).refs i2
  have fin : ∀ (H1 : Heap), H1[zad G a]? = some ((arrV (G.2.2.2.1 103) (zk h a).2 (fun j => zxr G (zr h a j))).setSlot i.toNatClampNeg (zxr G x)) → H1.size = H.size → (∀ q, q ≠ zad G a → H1[q]? = H[q]?) → W p l e R s m args below meth c H1 (locs ++ [⟨zad G a, i.toNatClampNeg⟩]) cells slots Q (F0 m (pc + 1) ls rest) := by
    intro H1 e1 z oq
    refine kk H1 _ (hW.ur ha z oq (zarrR i2 ?_)) (hS.put z oq (zad_A ha))
    rw [e1, arrV_store, zupdR]
    rfl
  cases x with
  | none =>
    exact va_WaastN (C := "java/lang/Object") hx hb hc ((hT.2.1 103 (by omega) (by omega)).1 _ _) (fun q => by cases q) (zin i3 i4) rfl rfl hd fun H1 e1 z oq => fin H1 e1 z oq
  | some y =>
    simp only [Option.all_some, decide_eq_true_eq] at hob
    obtain ⟨cellV, g1, g3, ⟨kC, hkC⟩, hasg⟩ := zAny hT hW hob
    obtain ⟨kA, comp, k1, k2, k3, -⟩ := (hT.2.1 103 (by omega) (by omega)).2
    obtain ⟨kE, hkE, -⟩ := Vm.findClass_spec k3
    exact W.aast hx hb hc (fun q h => by cases h) (fun h => by cases h) k1 k2 rfl hkE ⟨i3, by rw [arrV_size]; exact i4⟩ g1 (fun q h => by rw [h] at g3; cases g3) hkC (hasg _ k3) rfl rfl hd fun H1 e1 z oq => fin H1 e1 z oq
theorem zW_new (C : zCx G k p R s m args meth c) (hW : zWd G h H) (hS : va_S (zAf G) s.heap H locs) {t idx : Nat} (h10 : t < 10) (hcl : Cond.classLink (zY k).cls idx (zcl t).1 ∈ zG) (hcells : cells + 1 ≤ R.cells) (hslots : slots + (zcl t).2.2 ≤ R.slots) (hd : decode (zB k) pc = .ok (.new idx, 3)) (kk : ∀ H1 : Heap, zWd G (znw h t (zcl t).2.2) H1 → va_S (zAf G) s.heap H1 locs → W p l e R s m args below meth c H1 locs (cells + 1) (slots + (zcl t).2.2) Q (F0 m (pc + 3) ls (zxr G (some (zn h)) :: rest))) : W p l e R s m args below meth c H locs cells slots Q (F0 m pc ls rest) := by
  obtain ⟨hx, hb, -, hown, hts, -, -, hT, hst, -⟩ := C
  have hKn := hT.1 t h10
  obtain ⟨w1, w2⟩ := zins1 h10
  refine W.newcK hx hb hown (hts _ hcl) (hts _ w1) (hts _ w2) rfl hd hcells hslots hKn.2.1 (zadn hW).symm fun H1 kC hkC e1 z1 o1 => ?_
  rw [zadn hW] at z1 o1
  refine kk H1 (hW.new z1 o1 (Or.inl ?_)) (zSnew hS z1 o1)
  have ek : zk (znw h t (zcl t).2.2) (zn h) = (t, (zcl t).2.2) := if_pos rfl
  rw [ek]
  refine ⟨h10, rfl, ?_⟩
  have hb := u_born (ztf t) hts (zuw h10) hKn hkC e1 (ztf_ok t h10)
  refine hb.to fun j hj => ?_
  have ei : zi (znw h t (zcl t).2.2) (zn h) j = 0 := if_pos rfl
  have er : zr (znw h t (zcl t).2.2) (zn h) j = none := if_pos rfl
  unfold zfv
  rw [ei, er]
  have key : ∀ t, t < 10 → (List.range (zcl t).2.2).all (fun k => match ztf t k with | .int => true | .boolean => true | .object _ => true | .array _ => true | _ => false) = true := zlt10 (by decide +kernel) (by decide +kernel) (by decide +kernel) (by decide +kernel) (by decide +kernel) (by decide +kernel) (by decide +kernel) (by decide +kernel) (by decide +kernel) (by decide +kernel)
  have h3 := List.all_eq_true.mp (key t h10) j (List.mem_range.mpr hj)
  unfold zft
  cases hf : ztf t j <;> rw [hf] at h3 <;> simp at h3 <;> rfl
theorem zW_newa (C : zCx G k p R s m args meth c) (hW : zWd G h H) (hS : va_S (zAf G) s.heap H locs) {t : Nat} {ty : ArrayType} (hty : (ty = .int ∧ t = 100) ∨ (ty = .byte ∧ t = 101) ∨ (ty = .boolean ∧ t = 102)) {n : Int32} (hn : ¬ n < 0) (hn2 : n.toNatClampNeg ≤ 100000) (hcells : cells + 1 ≤ R.cells) (hslots : slots + n.toNatClampNeg ≤ R.slots) (hd : decode (zB k) pc = .ok (.newarray ty, 2)) (harr : (Cond.arrayClass (newarray.typeOf ty)).before args s = true) (kk : ∀ H1 : Heap, zWd G (znw h t n.toNatClampNeg) H1 → va_S (zAf G) s.heap H1 locs → W p l e R s m args below meth c H1 locs (cells + 1) (slots + n.toNatClampNeg) Q (F0 m (pc + 2) ls (zxr G (some (zn h)) :: rest))) : W p l e R s m args below meth c H locs cells slots Q (F0 m pc ls (.int n :: rest)) := by
  obtain ⟨hx, hb, -, hown, hts, -, -, hT, hst, -⟩ := C
  have ek : zk (znw h t n.toNatClampNeg) (zn h) = (t, n.toNatClampNeg) := if_pos rfl
  have ei : (fun j => Value.int (zi (znw h t n.toNatClampNeg) (zn h) j)) = fun _ => .int 0 := by funext j; exact congrArg Value.int (if_pos rfl)
  refine va_newaK hx hb harr rfl hd rfl hn rfl (by rcases hty with ⟨rfl, -⟩ | ⟨rfl, -⟩ | ⟨rfl, -⟩ <;> simp only [newarray.typeOf, componentBytes] <;> omega) hcells hslots (zadn hW).symm fun H1 cA e1 z1 o1 hAr hNm => ?_
  rw [zadn hW] at z1 o1
  refine kk H1 (hW.new z1 o1 (zarrI (t := t) (by rw [ek]) (by omega) ?_)) (zSnew hS z1 o1)
  rw [ek, ei, e1]
  have hcA : cA = G.2.2.2.1 t ∧ defaultValue (newarray.typeOf ty) = .int 0 := by
    rcases hty with ⟨rfl, rfl⟩ | ⟨rfl, rfl⟩ | ⟨rfl, rfl⟩
    · exact ⟨Option.some.inj (hNm.symm.trans (hT.2.1 100 (by omega) (by omega)).2), rfl⟩
    · exact ⟨Option.some.inj (hNm.symm.trans (hT.2.1 101 (by omega) (by omega)).2), rfl⟩
    · exact ⟨Option.some.inj (hNm.symm.trans (hT.2.1 102 (by omega) (by omega)).2), rfl⟩
  rw [hcA.1, hcA.2]
theorem zW_anew (C : zCx G k p R s m args meth c) (hW : zWd G h H) (hS : va_S (zAf G) s.heap H locs) {idx : Nat} (hcl : Cond.classLink (zY k).cls idx "java/lang/Object" ∈ zG) {n : Int32} (hn : ¬ n < 0) (hn2 : n.toNatClampNeg ≤ 100000) (hcells : cells + 1 ≤ R.cells) (hslots : slots + n.toNatClampNeg ≤ R.slots) (hd : decode (zB k) pc = .ok (.anewarray idx, 3)) (kk : ∀ H1 : Heap, zWd G (znw h 103 n.toNatClampNeg) H1 → va_S (zAf G) s.heap H1 locs → W p l e R s m args below meth c H1 locs (cells + 1) (slots + n.toNatClampNeg) Q (F0 m (pc + 3) ls (zxr G (some (zn h)) :: rest))) : W p l e R s m args below meth c H locs cells slots Q (F0 m pc ls (.int n :: rest)) := by
  obtain ⟨hx, hb, -, hown, hts, -, -, hT, hst, -⟩ := C
  have ek : zk (znw h 103 n.toNatClampNeg) (zn h) = (103, n.toNatClampNeg) := if_pos rfl
  have er : (fun j => zxr G (zr (znw h 103 n.toNatClampNeg) (zn h) j)) = fun _ => Value.null := by
    funext j
    have : zr (znw h 103 n.toNatClampNeg) (zn h) j = none := if_pos rfl
    rw [this]; rfl
  refine W.anew hx hb hown (hts _ hcl) (va_AO.use hT.2.2.1) rfl hd rfl hn (by omega) hcells hslots fun cA kA comp f1 f2 f3 f4 => ?_
  generalize hH1 : H.push ({ cls := cA, slots := Array.replicate n.toNatClampNeg .null, vm := .none } : Cell) = H1
  have z1 : H1.size = H.size + 1 := by rw [← hH1, Array.size_push]
  have e1 : H1[H.size]? = some (arrV cA n.toNatClampNeg (fun _ => .null)) := by rw [← hH1, Array.getElem?_push_size, ← arrV_new]
  have o1 : ∀ q : Nat, q < H.size → H1[q]? = H[q]? := fun q hq => by rw [← hH1, Array.getElem?_push, if_neg (Nat.ne_of_lt hq)]
  obtain ⟨-, -, -, -, -, r4⟩ := (hT.2.1 103 (by omega) (by omega)).2
  have hcA : cA = G.2.2.2.1 103 := Option.some.inj (f1.symm.trans r4)
  have hz : zxr G (some (zn h)) = .ref H.size := by show Value.ref (zad G (zn h)) = _; rw [zadn hW]
  rw [← hz]
  refine kk H1 (hW.new z1 o1 (zarrR (by rw [ek]) ?_)) (zSnew hS z1 o1)
  rw [ek, er, zadn hW, e1, hcA]
theorem zcy_row {G : zg} {h : zH} {a b sp dp n : Nat} : (fun j => zxr G (zr (zcy h a b sp dp n) b j)) = fun j => va_rf (va_cpy (fun j => (zr h a j).map (zad G)) (fun j => (zr h b j).map (zad G)) sp dp n j) := by
  funext j
  simp only [zxr, zr, zcy, va_cpy, if_true]
  split <;> rfl
theorem zW_acopy (C : zCx G k p R s m args meth c) (hW : zWd G h H) (hS : va_S (zAf G) s.heap H locs) (hsz : c.maxLocals = ls.size) {idx : Nat} (hlk : Cond.methodLink (zY k).cls idx arraycopyName ∈ zG) {a b : Nat} {sp dp n : Int32} (ha : 8 ≤ a ∧ a < zn h ∧ (zk h a).1 = 103) (hb8 : 8 ≤ b ∧ b < zn h ∧ (zk h b).1 = 103) (h1 : ¬ sp < 0) (h2 : ¬ dp < 0) (h3 : ¬ n < 0) (h4 : sp.toNatClampNeg + n.toNatClampNeg ≤ (zk h a).2) (h5 : dp.toNatClampNeg + n.toNatClampNeg ≤ (zk h b).2) (hel : ∀ i, i < n.toNatClampNeg → ((zr h a (sp.toNatClampNeg + i)).all fun y => decide (zob h y)) = true) (hframes : 1 ≤ R.frames) (hlocals : (rest.map fun v => v.category).sum + 18 ≤ R.locals) (hd : decode (zB k) pc = .ok (.invokestatic idx, 3))
    (kk : ∀ (H1 : Heap) (locs1 : List Loc), zWd G (zcy h a b sp.toNatClampNeg dp.toNatClampNeg n.toNatClampNeg) H1 → va_S (zAf G) s.heap H1 locs1 → W p l e R s m args below meth c H1 locs1 cells slots Q (F0 m (pc + 3) ls rest)) : W p l e R s m args below meth c H locs cells slots Q (F0 m pc ls (.int n :: .int dp :: zxr G (some b) :: .int sp :: zxr G (some a) :: rest)) := by
  obtain ⟨hx, hb, -, hown, hts, -, -, hT, hst, -⟩ := C
  have nn : ∀ z : Int32, ¬ z < 0 → z.toInt = (z.toNatClampNeg : Int) := by
    intro z hz
    have hz0 : (0 : Int) ≤ z.toInt := by
      have := Int32.not_lt.mp hz
      simpa using Int32.le_iff_toInt_le.mp this
    show z.toInt = ((z.toInt.toNat : Nat) : Int)
    omega
  intro T hTh X
  have hc0 : H[zad G a]? = some (arrV (G.2.2.2.1 103) (zk h a).2 (fun j => va_rf ((zr h a j).map (zad G)))) := (hW.2.2.1 a ha.1 ha.2.1).refs ha.2.2
  have hc1 : H[zad G b]? = some (arrV (G.2.2.2.1 103) (zk h b).2 (fun j => va_rf ((zr h b j).map (zad G)))) := (hW.2.2.1 b hb8.1 hb8.2.1).refs hb8.2.2
  obtain ⟨kA, comp, r1, r2, r3, -⟩ := (hT.2.1 103 (by omega) (by omega)).2
  obtain ⟨vm', X', step⟩ := X.arraycopy hx hown (hts _ hlk) (hts _ zNat) (hts _ zNst) (hts _ zNin) (src := zad G a) (dst := zad G b) (cs := arrV (G.2.2.2.1 103) (zk h a).2 (fun j => va_rf ((zr h a j).map (zad G)))) (cd := arrV (G.2.2.2.1 103) (zk h b).2 (fun j => va_rf ((zr h b j).map (zad G)))) (srcPos := sp) (destPos := dp) (n := n) (by rw [hTh]; exact hc0) (by rw [hTh]; exact hc1)
    (fun _ h => by cases h) (fun _ h => by cases h) (fun h => by cases h) (fun h => by cases h) r1 r1 r2 r2 rfl h1 h2 h3
    (by rw [nn sp h1, nn n h3, arrV_size]; omega)
    (by rw [nn dp h2, nn n h3, arrV_size]; omega)
    (fun vm₁ hal i hi => by
      have e : (arrV (G.2.2.2.1 103) (zk h a).2 (fun j => va_rf ((zr h a j).map (zad G)))).slots.getD (sp.toNatClampNeg + i) .null = va_rf ((zr h a (sp.toNatClampNeg + i)).map (zad G)) := by
        rw [Array.getD_eq_getD_getElem?, arrV_read _ _ (by omega)]
        rfl
      rw [e]
      cases hy : zr h a (sp.toNatClampNeg + i) with
      | none => exact ⟨rfl, trivial⟩
      | some y =>
        have hob := hel i hi
        rw [hy, Option.all_some, decide_eq_true_eq] at hob
        obtain ⟨cellV, g1, g2, ⟨kC, hkC⟩, hasg⟩ := zAny hT hW hob
        obtain ⟨kE, hkE, -⟩ := Vm.findClass_spec r3
        obtain ⟨kC', hkC', -⟩ := hal.2.2 _ _ hkC
        obtain ⟨kE', hkE', -⟩ := hal.2.2 _ _ hkE
        refine ⟨rfl, cellV, (show T.heap[zad G y]? = some cellV by rw [hTh]; exact g1), (fun q h => by rw [h] at g2; cases g2), ⟨kC', hkC'⟩, ?_, ?_⟩
        · exact ⟨kE', hkE'⟩
        · show vm₁.assignable _ _ = true
          rw [hal.assignable]
          exact hasg _ r3)
    (g := F0 m pc ls (.int n :: .int dp :: .ref (zad G b) :: .int sp :: .ref (zad G a) :: rest)) rfl (by rw [hsz]) (rest := rest) rfl (by rw [hb]; exact hd) hframes (by show 2 * 0 + _ + _ ≤ _; have hw : nativeFrameWords "java/lang/System" "arraycopy" 5 = 7 := (by decide); omega)
  have e1 : copied (arrV (G.2.2.2.1 103) (zk h a).2 (fun j => va_rf ((zr h a j).map (zad G)))) (arrV (G.2.2.2.1 103) (zk h b).2 (fun j => va_rf ((zr h b j).map (zad G)))) sp dp n = arrV (G.2.2.2.1 103) (zk h b).2 (fun j => zxr G (zr (zcy h a b sp.toNatClampNeg dp.toNatClampNeg n.toNatClampNeg) b j)) := by
    rw [zcy_row]
    exact va_copied (fun z => va_rf z) _ _ (fun j => (zr h a j).map (zad G)) (fun j => (zr h b j).map (zad G)) h4
  rw [e1] at X' step
  generalize hcell : arrV (G.2.2.2.1 103) (zk h b).2 (fun j => zxr G (zr (zcy h a b sp.toNatClampNeg dp.toNatClampNeg n.toNatClampNeg) b j)) = nc at X' step
  have hl : zad G b < H.size := (Array.getElem?_eq_some_iff.mp hc1).1
  have hheap : ((T.setVm vm').setCell (zad G b) nc).heap = H.setIfInBounds (zad G b) nc := by rw [← hTh]; rfl
  have oq : ∀ q : Nat, q ≠ zad G b → (H.setIfInBounds (zad G b) nc)[q]? = H[q]? := fun q hq => by simp [Array.getElem?_setIfInBounds, Ne.symm hq]
  have hz : (H.setIfInBounds (zad G b) nc).size = H.size := by simp
  have hown' : (H.setIfInBounds (zad G b) nc)[zad G b]? = some nc := by simp [Array.getElem?_setIfInBounds, hl]
  obtain ⟨t, a1, b1⟩ := kk (H.setIfInBounds (zad G b) nc) _ (hW.upd hb8.1 rfl (fun _ => rfl) (fun _ _ _ => rfl) (fun d hd j => by simp [zr, zcy, hd]) hz oq (zarrR hb8.2.2 (by rw [hown', ← hcell]; rfl))) ⟨by rw [hz]; exact hS.1, fun q g1 g2 => by
      rw [oq q (fun e => g2 (by rw [e]; exact zad_A hb8.1))]
      exact hS.2.1 q g1 g2, fun q hq => by
      rcases List.mem_append.mp hq with h | h
      · exact hS.2.2 q h
      · obtain ⟨z, -, hz⟩ := List.mem_map.mp h
        rw [← hz]
        exact zad_A hb8.1⟩ _ hheap X'
  exact ⟨t, step t a1, b1⟩
end ZS3
