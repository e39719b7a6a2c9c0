/-! contracts; Arrays.copyOf of an Object array -/
def zwY (m : Nat) : List Cond := .code (zY m) (zB m) (zL m) (zRt m) :: zG
def zRm (m mc ms : Nat) : Room := { frames := zFr m, cells := mc, slots := ms, locals := zLo m }
def zPc (G : zg) (as : List Value) (h : zH) : Array Value → State → Prop := fun v U => v = as.toArray ∧ zTb G U ∧ zSt G U U.heap ∧ zWd G h U.heap
def zQc (G : zg) (r : Option Value) (h' : zH) : Array Value → State → Outcome → State → Prop := fun _ st o t => o = .returned r ∧ zWd G h' t.heap ∧ va_F (zAf G) st t
/-- method m, called with as in the heap h, answers r and leaves h' -/
def zMet (l : Launch) (G : zg) (m : Nat) (as : List zV) (h : zH) (r : Option zV) (h' : zH) : Prop :=
  Met l (zY m) (zwY m) (zRm m (zn h' - zn h) (zs h' - zs h)) (zPc G (as.map (zxv G)) h) (zQc G (r.map (zxv G)) h') (zn h' - zn h) (zs h' - zs h) (zAf G)
theorem zblind (G : zg) (as : List Value) (h : zH) : FrameBlind (zPc G as h) := by
  intro a U g mk q
  obtain ⟨q0, q1, q2, q3⟩ := q
  exact ⟨q0, zTb.moved (s := U) (U := U.calling g mk a) (State.WarmedH.refl _) q1, q2.moved (Vm.Alike.refl U.vm) (fun _ _ _ => rfl), q3⟩
theorem zpre {G : zg} {s : State} {H : Heap} {as : List Value} {h : zH} {locs : List Loc} (hT : zTb G s) (hst : zSt G s s.heap) (hS : va_S (zAf G) s.heap H locs) (hW : zWd G h H) : ∀ U : State, U.heap = H → s.WarmedH U.vm → zPc G as h as.toArray U := by
  intro U hU hWm
  refine ⟨rfl, hT.moved hWm, hst.moved hWm.alike (fun a h1 h2 => ?_), by rw [hU]; exact hW⟩
  rw [hU]
  exact hS.2.1 a h1 h2
theorem zgood {m : Nat} (hm : zmok m = true) : Cond.code (zY m) (zB m) (zL m) (zRt m) ∈ zG := by
  simp only [zmok, Bool.and_eq_true, decide_eq_true_eq] at hm
  exact zG_in hm.1.1.1.1 rfl
theorem zGood {m : Nat} (hm : zmok m = true) : GoodIn zG (zwY m) := by
  intro w hw
  rcases List.mem_cons.mp hw with rfl | hw
  · exact ⟨zgood hm, good_of_word rfl⟩
  · exact ⟨hw, good_of_word (zG_good hw)⟩
theorem zmok_ini {m : Nat} (hm : zmok m = true) : Cond.initialized (zY m).cls ∈ zG ∧ ((zY m).cls ≠ "java/lang/invoke/MethodHandle" ∧ (zY m).cls ≠ "java/lang/invoke/VarHandle") := by
  simp only [zmok, Bool.and_eq_true, decide_eq_true_eq] at hm
  exact ⟨zG_in hm.1.1.1.2 rfl, hm.1.2⟩
theorem zmok_st {m : Nat} (hm : zmok m = true) (hk : zKi m = 0) : Cond.static (zY m) ∈ zG := by
  simp only [zmok, hk, Bool.and_eq_true, decide_eq_true_eq] at hm
  exact zG_in hm.2 rfl
theorem zmok_vi {m : Nat} (hm : zmok m = true) (hk : zKi m = 1) : Cond.instanceMethod (zY m) ∈ zG ∧ Cond.selects (zY m).cls (zY m) (zY m) ∈ zG := by
  simp only [zmok, hk, Bool.and_eq_true, decide_eq_true_eq] at hm
  exact ⟨zG_in hm.2.1 rfl, zG_in hm.2.2 rfl⟩
theorem zmok_in {m : Nat} (hm : zmok m = true) (hk : zKi m = 2) : Cond.instanceMethod (zY m) ∈ zG ∧ (zY m).name = "<init>" ∧ zRt m = none := by
  simp only [zmok, hk, Bool.and_eq_true, decide_eq_true_eq] at hm
  exact ⟨zG_in hm.2.1.1 rfl, hm.2.1.2, hm.2.2⟩
theorem zmok_pl {m : Nat} (hm : zmok m = true) : plainFor (zY m) = true := by
  simp only [zmok, Bool.and_eq_true] at hm
  exact hm.1.1.2
theorem zGoodS {m idx : Nat} {own : String} (hm : zmok m = true) (hk : zKi m = 0) (hl : Cond.methodLink own idx (zY m) ∈ zG) : GoodIn zG (va_wsS own idx (zY m) (zwY m)) := by
  intro w hw
  unfold va_wsS at hw
  rcases List.mem_append.mp hw with hw | hw
  · simp only [List.mem_cons, List.not_mem_nil, or_false] at hw
    rcases hw with rfl | rfl | rfl
    · exact ⟨hl, good_of_word rfl⟩
    · exact ⟨zmok_st hm hk, good_of_word rfl⟩
    · exact ⟨(zmok_ini hm).1, good_of_word rfl⟩
  · exact zGood hm w hw
theorem zGoodV {m idx : Nat} {own : String} (hm : zmok m = true) (hk : zKi m = 1) (hl : Cond.methodLink own idx (zY m) ∈ zG) : GoodIn zG (wsV own idx (zY m).cls (zY m) (zwY m)) := by
  intro w hw
  unfold wsV at hw
  rcases List.mem_append.mp hw with hw | hw
  · simp only [List.mem_cons, List.not_mem_nil, or_false] at hw
    rcases hw with rfl | rfl | rfl | rfl
    · exact ⟨hl, good_of_word rfl⟩
    · exact ⟨(zmok_vi hm hk).1, good_of_word rfl⟩
    · exact ⟨(zmok_vi hm hk).2, good_of_word rfl⟩
    · exact ⟨(zmok_ini hm).1, good_of_word rfl⟩
  · exact zGood hm w hw
section ZC2
variable {p : Program} {l : Launch} {e : Env} {R : Room} {s : State} {m : MethodId} {args : Array Value} {below : List Frame} {meth : Method} {c : Code} {H : Heap} {locs : List Loc} {cells slots : Nat} {Q : State → Prop}
theorem zW_call {G : zg} {r : Option Value} {h' : zH} {a : Array Value} {pc mc ms : Nat} {ls : Array Slot} {st0 rest : List Value} (hr : va_Run p l e R s m args below meth c H locs cells slots mc ms (F0 m pc ls st0) rest (zQc G r h' a) (zAf G)) (hS : va_S (zAf G) s.heap H locs) (kk : ∀ (H1 : Heap) (locs1 : List Loc), zWd G h' H1 → va_S (zAf G) s.heap H1 locs1 → W p l e R s m args below meth c H1 locs1 (cells + mc) (slots + ms) Q (F0 m (pc + 3) ls (r.toList ++ rest))) : W p l e R s m args below meth c H locs cells slots Q (F0 m pc ls st0) := by
  intro T hT X
  obtain ⟨v, st₀, t, T', L, h0, X', hL, e1, e2, ⟨hv, hw, hz, hk⟩, st⟩ := hr T hT X
  cases hv
  rw [h0] at hz hk
  obtain ⟨t2, a1, b1⟩ := kk T'.heap (locs ++ L) (by rw [e1]; exact hw)
    ⟨Nat.le_trans hS.1 (by rw [e1]; exact hz), fun q h1 h2 => by rw [e1, hk q (Nat.lt_of_lt_of_le h1 hS.1) h2]; exact hS.2.1 q h1 h2, fun q hq => by
      rcases List.mem_append.mp hq with h | h
      · exact hS.2.2 q h
      · exact hL q h⟩ T' rfl X'
  exact ⟨t2, st t2 a1, b1⟩
end ZC2
theorem d36_0 : decode (zB 36) 0 = .ok (.aload_n 0, 1) := by decide +kernel
theorem d36_1 : decode (zB 36) 1 = .ok (.iload_n 1, 1) := by decide +kernel
theorem d36_2 : decode (zB 36) 2 = .ok (.aload_n 0, 1) := by decide +kernel
theorem d36_3 : decode (zB 36) 3 = .ok (.invokevirtual 86, 3) := by decide +kernel
theorem d36_6 : decode (zB 36) 6 = .ok (.invokestatic 300, 3) := by decide +kernel
theorem d36_9 : decode (zB 36) 9 = .ok (.areturn, 1) := by decide +kernel
theorem d37_0 : decode (zB 37) 0 = .ok (.aload_n 2, 1) := by decide +kernel
theorem d37_1 : decode (zB 37) 1 = .ok (.ldc 110, 2) := by decide +kernel
theorem d37_3 : decode (zB 37) 3 = .ok (.if_acmp .ne 10, 3) := by decide +kernel
theorem d37_6 : decode (zB 37) 6 = .ok (.iload_n 1, 1) := by decide +kernel
theorem d37_7 : decode (zB 37) 7 = .ok (.anewarray 2, 3) := by decide +kernel
theorem d37_10 : decode (zB 37) 10 = .ok (.goto 14, 3) := by decide +kernel
theorem d37_24 : decode (zB 37) 24 = .ok (.astore_n 3, 1) := by decide +kernel
theorem d37_25 : decode (zB 37) 25 = .ok (.aload_n 0, 1) := by decide +kernel
theorem d37_26 : decode (zB 37) 26 = .ok (.iconst 0, 1) := by decide +kernel
theorem d37_27 : decode (zB 37) 27 = .ok (.aload_n 3, 1) := by decide +kernel
theorem d37_28 : decode (zB 37) 28 = .ok (.iconst 0, 1) := by decide +kernel
theorem d37_29 : decode (zB 37) 29 = .ok (.aload_n 0, 1) := by decide +kernel
theorem d37_30 : decode (zB 37) 30 = .ok (.arraylength, 1) := by decide +kernel
theorem d37_31 : decode (zB 37) 31 = .ok (.iload_n 1, 1) := by decide +kernel
theorem d37_32 : decode (zB 37) 32 = .ok (.invokestatic 304, 3) := by decide +kernel
theorem d37_35 : decode (zB 37) 35 = .ok (.invokestatic 150, 3) := by decide +kernel
theorem d37_38 : decode (zB 37) 38 = .ok (.aload_n 3, 1) := by decide +kernel
theorem d37_39 : decode (zB 37) 39 = .ok (.areturn, 1) := by decide +kernel
theorem zg_lk : Cond.methodLink "java/util/Arrays" 86 ⟨"java/lang/Object", "getClass", "()Ljava/lang/Class;"⟩ ∈ zG := zG_in (i := 417) (by decide +kernel) rfl
theorem zg_in : Cond.instanceMethod ⟨"java/lang/Object", "getClass", "()Ljava/lang/Class;"⟩ ∈ zG := zG_in (i := 418) (by decide +kernel) rfl
theorem zg_na : Cond.native ⟨"java/lang/Object", "getClass", "()Ljava/lang/Class;"⟩ ∈ zG := zG_in (i := 430) (by decide +kernel) rfl
theorem zg_se : Cond.selects "[Ljava/lang/Object;" ⟨"java/lang/Object", "getClass", "()Ljava/lang/Class;"⟩ ⟨"java/lang/Object", "getClass", "()Ljava/lang/Class;"⟩ ∈ zG := zG_in (i := 1126) (by decide +kernel) rfl
theorem zc_lk : Cond.methodLink "java/util/Arrays" 300 (zY 37) ∈ zG := zG_in (i := 431) (by decide +kernel) rfl
theorem zc_kl : Cond.classLink "java/util/Arrays" 110 "[Ljava/lang/Object;" ∈ zG := zG_in (i := 434) (by decide +kernel) rfl
theorem zc_ko : Cond.classLink "java/util/Arrays" 2 "java/lang/Object" ∈ zG := zG_in (i := 436) (by decide +kernel) rfl
theorem zc_mn : Cond.methodLink "java/util/Arrays" 304 Lib.Math.min.name ∈ zG := zG_in (i := 437) (by decide +kernel) rfl
theorem zc_ms : Cond.static Lib.Math.min.name ∈ zG := zG_in (i := 438) (by decide +kernel) rfl
theorem zc_mi : Cond.initialized "java/lang/Math" ∈ zG := zG_in (i := 60) (by decide +kernel) rfl
theorem zc_mc : Cond.code Lib.Math.min.name Lib.Math.min.code 2 (some .int) ∈ zG := zG_in (i := 439) (by decide +kernel) rfl
theorem zc_ac : Cond.methodLink "java/util/Arrays" 150 arraycopyName ∈ zG := zG_in (i := 440) (by decide +kernel) rfl
theorem zm37 : zmok 37 = true := by decide +kernel
theorem zm36 : zmok 36 = true := by decide +kernel
theorem zy37 : (zY 37).cls = "java/util/Arrays" ∧ zL 37 = 4 ∧ (zY 36).cls = "java/util/Arrays" ∧ zL 36 = 2 ∧ zRt 37 = some (.array (.object "java/lang/Object")) ∧ zRt 36 = some (.array (.object "java/lang/Object")) ∧ zFr 36 = 2 ∧ zLo 36 = 52 := by decide +kernel
def zh36 (h : zH) (a : Nat) (n : Int32) : zH := zcy (znw h 103 n.toNatClampNeg) a (zn h) 0 0 (zk h a).2
set_option maxHeartbeats 4000000 in
theorem zM37 (l : Launch) (G : zg) {h : zH} {a : Nat} {n : Int32} (ha : 8 ≤ a ∧ a < zn h ∧ (zk h a).1 = 103) (hn : ¬ n < 0) (hn2 : n.toNatClampNeg ≤ 100000) (hle : (zk h a).2 ≤ n.toNatClampNeg) (hel : ∀ i, i < (zk h a).2 → ((zr h a i).all fun y => decide (zob h y)) = true) :
    Met l (zY 37) (zwY 37) { frames := 1, cells := 1, slots := n.toNatClampNeg, locals := 26 } (zPc G [zxr G (some a), .int n, .ref G.2.2.2.2.1] h) (zQc G (some (zxr G (some (zn h)))) (zh36 h a n)) 1 n.toNatClampNeg (zAf G) := by
  refine va_MetF (cc := zB 37) (maxL := zL 37) (ret := zRt 37) (by decide +kernel) rfl ?_
  intro p e s m args below meth c s₁ B hml hv
  obtain ⟨rfl, hT, hst, hW⟩ := hv
  have hx := B.exec
  have hb := B.bytes
  have hr := B.returns
  have hlocks := B.notSynchronized
  have hts0 := atoms_spec (ws := zwY 37) B.pre
  have hts : ∀ w ∈ zG, w.before [zxr G (some a), .int n, .ref G.2.2.2.2.1].toArray s = true := fun w hw => hts0 w (List.mem_cons_of_mem _ hw)
  have hown : s.vm.findClass (zY 37).cls = some m.cls := findClass_of_methodNamed B.named
  have hS : va_S (zAf G) s.heap s.heap [] := va_S.rf
  have C : zCx G 37 p { frames := 1, cells := 1, slots := n.toNatClampNeg, locals := 26 } s m [zxr G (some a), .int n, .ref G.2.2.2.2.1].toArray meth c := ⟨hx, hb, hml, hown, hts, (show zFr 37 ≤ 1 by decide +kernel), (show zLo 37 ≤ 26 by decide +kernel), hT, hst, (name_of_methodNamed B.named B.method).1⟩
  rw [zy37.1] at hown
  have hl := lv_entry ([zxr G (some a), .int n, .ref G.2.2.2.2.1]) (n := zL 37) (by rw [zy37.2.1]; exact Nat.le_of_ble_eq_true rfl)
  rw [lg_entry_eq]
  generalize (lg_sl ([zxr G (some a), .int n, .ref G.2.2.2.2.1]) ++ List.replicate (zL 37 - (lg_sl ([zxr G (some a), .int n, .ref G.2.2.2.2.1])).length) Slot.unset).toArray = ls at hl ⊢
  rw [zy37.2.1] at hl
  have hl : lv_has ls 4 [(0, zxr G (some a)), (1, .int n), (2, .ref G.2.2.2.2.1)] := hl
  refine lv_aload_n hx hb d37_0 rfl (lv_at hl 2 rfl) ?_
  refine va_ldcM hx hb hown (hts _ zc_kl) hT.2.2.2.1 d37_1 ?_
  refine lv_acmp_ne (rx := some G.2.2.2.2.1) (ry := some G.2.2.2.2.1) (tgt := 13) hx hb d37_3 (by decide) (fun q => absurd rfl q) (fun _ => ?_)
  refine lv_iload_n hx hb d37_6 rfl (lv_at hl 1 rfl) ?_
  refine zW_anew C hW hS (by rw [zy37.1]; exact zc_ko) hn hn2 (Nat.le_refl 1) (show 0 + n.toNatClampNeg ≤ n.toNatClampNeg by omega) d37_7 (fun H1 hW1 hS1 => ?_)
  refine lv_goto (tgt := 24) hx hb d37_10 (by decide) ?_
  refine lv_astore_n (lv' := [(3, zxr G (some (zn h))), (0, zxr G (some a)), (1, .int n), (2, .ref G.2.2.2.2.1)]) hx hb d37_24 rfl hl (by decide) rfl (fun ls hl => ?_)
  refine lv_aload_n hx hb d37_25 rfl (lv_at hl 1 rfl) ?_
  refine lv_iconst (v := 0) hx hb d37_26 (by decide) ?_
  refine lv_aload_n hx hb d37_27 rfl (lv_at hl 0 rfl) ?_
  refine lv_iconst (v := 0) hx hb d37_28 (by decide) ?_
  refine lv_aload_n hx hb d37_29 rfl (lv_at hl 1 rfl) ?_
  have hne : ¬ a = h.1 := Nat.ne_of_lt ha.2.1
  have eka : zk (znw h 103 n.toNatClampNeg) a = zk h a := if_neg hne
  have era : ∀ j, zr (znw h 103 n.toNatClampNeg) a j = zr h a j := fun j => if_neg hne
  have ekn : zk (znw h 103 n.toNatClampNeg) (zn h) = (103, n.toNatClampNeg) := if_pos rfl
  refine zW_alen C hW1 hS1 (Nat.lt_succ_of_lt ha.2.1) (by rw [eka, ha.2.2]; omega) d37_30 ?_
  rw [eka]
  refine lv_iload_n hx hb d37_31 rfl (lv_at hl 2 rfl) ?_
  refine va_mmin hx hb (hml.trans (by rw [zy37.2.1]; exact hl.1.symm)) hown (hts _ zc_mn) (hts _ zc_ms) (hts _ zc_mi) (hts _ zc_mc) (Nat.le_refl 1) (Nat.le_of_ble_eq_true rfl) (Nat.le_refl 1) (show 0 + n.toNatClampNeg ≤ n.toNatClampNeg by omega) d37_32 ?_
  have hc2 : (Int32.ofNat (zk h a).2).toNatClampNeg = (zk h a).2 := Int32.toNatClampNeg_ofNat_of_lt (by omega)
  have hlt : ¬ n < Int32.ofNat (zk h a).2 := by
    have h1 : (0 : Int) ≤ n.toInt := by simpa using Int32.le_iff_toInt_le.mp (Int32.not_lt.mp hn)
    have h2 : (Int32.ofNat (zk h a).2).toInt = ((zk h a).2 : Int) := Int32.toInt_ofNat_of_lt (by omega)
    rw [Int32.lt_iff_toInt_lt, h2]
    have h3 : n.toNatClampNeg = n.toInt.toNat := rfl
    omega
  rw [if_neg hlt]
  have hz0 : (0 : Int32).toNatClampNeg = 0 := by decide +kernel
  have hno : ∀ y, zob h y → zob (znw h 103 n.toNatClampNeg) y := by
    intro y hy
    have hy2 : ¬ y = h.1 := Nat.ne_of_lt hy.2.1
    have ek : zk (znw h 103 n.toNatClampNeg) y = zk h y := if_neg hy2
    exact ⟨hy.1, Nat.lt_succ_of_lt hy.2.1, by rw [ek]; exact hy.2.2⟩
  refine zW_acopy C hW1 hS1 (hml.trans (by rw [zy37.2.1]; exact hl.1.symm)) (by rw [zy37.1]; exact zc_ac) (a := a) (b := zn h) ⟨ha.1, Nat.lt_succ_of_lt ha.2.1, by rw [eka]; exact ha.2.2⟩ ⟨hW.1, Nat.lt_succ_self _, by rw [ekn]⟩ (by decide) (by decide) (by rw [Int32.lt_iff_toInt_lt, Int32.toInt_ofNat_of_lt (by omega)]; simp) (by rw [hz0, hc2, eka]; omega) (by rw [hz0, hc2, ekn]; show 0 + _ ≤ n.toNatClampNeg; omega) (fun i hi => ?_) (Nat.le_refl 1) (Nat.le_of_ble_eq_true rfl) d37_35 (fun H2 locs2 hW2 hS2 => ?_)
  · rw [hc2] at hi
    rw [hz0, Nat.zero_add, era]
    have := hel i hi
    cases hy : zr h a i with
    | none => rfl
    | some y =>
      rw [hy, Option.all_some, decide_eq_true_eq] at this
      rw [Option.all_some, decide_eq_true_eq]
      exact hno y this
  rw [hz0, hc2] at hW2
  refine lv_aload_n hx hb d37_38 rfl (lv_at hl 0 rfl) ?_
  refine W.cs (Nat.zero_add 1) (Nat.zero_add _) ?_
  exact W.aret (v := zxr G (some (zn h))) hx hb (hr.trans zy37.2.2.2.2.1) (Or.inr ⟨_, rfl⟩) (Or.inr ⟨zad G (zn h), rfl⟩) (fun t ht hWm => ⟨rfl, by rw [ht]; exact hW2, hS2.F ht⟩) hS2.2.2 d37_39


set_option maxHeartbeats 4000000 in
theorem zM36 (l : Launch) (G : zg) {h : zH} {a : Nat} {n : Int32} (ha : 8 ≤ a ∧ a < zn h ∧ (zk h a).1 = 103) (hn : ¬ n < 0) (hn2 : n.toNatClampNeg ≤ 100000) (hle : (zk h a).2 ≤ n.toNatClampNeg) (hel : ∀ i, i < (zk h a).2 → ((zr h a i).all fun y => decide (zob h y)) = true) :
    Met l (zY 36) (zwY 36) (zRm 36 1 n.toNatClampNeg) (zPc G [zxr G (some a), .int n] h) (zQc G (some (zxr G (some (zn h)))) (zh36 h a n)) 1 n.toNatClampNeg (zAf G) := by
  refine va_MetF (cc := zB 36) (maxL := zL 36) (ret := zRt 36) (by decide +kernel) rfl ?_
  intro p e s m args below meth c s₁ B hml hv
  obtain ⟨rfl, hT, hst, hW⟩ := hv
  have hx := B.exec
  have hb := B.bytes
  have hr := B.returns
  have hlocks := B.notSynchronized
  have hts0 := atoms_spec (ws := zwY 36) B.pre
  have hts : ∀ w ∈ zG, w.before [zxr G (some a), .int n].toArray s = true := fun w hw => hts0 w (List.mem_cons_of_mem _ hw)
  have hown : s.vm.findClass (zY 36).cls = some m.cls := findClass_of_methodNamed B.named
  have hS : va_S (zAf G) s.heap s.heap [] := va_S.rf
  rw [zy37.2.2.1] at hown
  have hl := lv_entry ([zxr G (some a), .int n]) (n := zL 36) (by rw [zy37.2.2.2.1]; exact Nat.le_of_ble_eq_true rfl)
  rw [lg_entry_eq]
  generalize (lg_sl ([zxr G (some a), .int n]) ++ List.replicate (zL 36 - (lg_sl ([zxr G (some a), .int n])).length) Slot.unset).toArray = ls at hl ⊢
  rw [zy37.2.2.2.1] at hl hml
  have hl : lv_has ls 2 [(0, zxr G (some a)), (1, .int n)] := hl
  have hfr : (headSpec (zwY 36) (zRm 36 1 n.toNatClampNeg)).room.frames = 2 := zy37.2.2.2.2.2.2.1
  have hlo : (headSpec (zwY 36) (zRm 36 1 n.toNatClampNeg)).room.locals = 52 := zy37.2.2.2.2.2.2.2
  refine lv_aload_n hx hb d36_0 rfl (lv_at hl 0 rfl) ?_
  refine lv_iload_n hx hb d36_1 rfl (lv_at hl 1 rfl) ?_
  refine lv_aload_n hx hb d36_2 rfl (lv_at hl 0 rfl) ?_
  have hrc : ∃ cell : Cell, s.heap[zad G a]? = some cell ∧ cell.vm.isStatics = false ∧ s.vm.findClass "[Ljava/lang/Object;" = some cell.cls :=
    ⟨_, (hW.2.2.1 a ha.1 ha.2.1).refs ha.2.2, rfl, va_nmO (hT.2.1 103 (by omega) (by omega)).2 (by decide +kernel)⟩
  refine va_getC hx hb (hml.trans hl.1.symm) hown (hts _ zg_lk) (va_Dc.use hT.2.2.2.2.1) (hts _ zg_se) (hts _ zg_in) (hts _ zg_na) hT.2.2.2.1 hrc (by rw [hfr]; omega) (by rw [hlo]; exact Nat.le_of_ble_eq_true rfl) d36_3 ?_
  refine zW_call (va_runS (As := [zxr G (some a), .int n, .ref G.2.2.2.2.1]) (rest := []) ⟨hx, hb, hml, hown, hts⟩ (zM37 l G ha hn hn2 hle hel) (va_cwS 3 hts (zGoodS zm37 (by decide +kernel) zc_lk) rfl rfl rfl (by decide +kernel) ⟨by rw [hfr]; exact Nat.le_refl 2, by rw [hlo, zy37.2.1]; exact Nat.le_of_ble_eq_true rfl⟩) ⟨zblind _ _ _, zpre hT hst hS hW⟩ rfl rfl hl.1 rfl (lv_room (Nat.le_of_ble_eq_true rfl)) d36_6 ⟨Nat.le_refl 1, show 0 + n.toNatClampNeg ≤ n.toNatClampNeg by omega⟩) hS (fun H1 locs1 hW1 hS1 => ?_)
  refine W.cs (Nat.zero_add 1) (Nat.zero_add _) ?_
  exact W.aret (v := zxr G (some (zn h))) hx hb (hr.trans zy37.2.2.2.2.2.1) (Or.inr ⟨_, rfl⟩) (Or.inr ⟨zad G (zn h), rfl⟩) (fun t ht hWm => ⟨rfl, by rw [ht]; exact hW1, hS1.F ht⟩) hS1.2.2 d36_9
