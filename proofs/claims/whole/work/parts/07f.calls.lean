/-! calls, by a contract of the callee over the small heap -/
section ZR
variable {p : Program} {l : Launch} {e : Env} {R : Room} {s : State} {m : MethodId} {args : Array Value} {below : List Frame} {meth : Method} {c : Code} {H : Heap} {locs : List Loc} {cells slots : Nat} {Q : State → Prop}
variable {G : zg} {k : Nat} {h : zH} {ls : Array Slot} {pc : Nat} {rest : List Value} {mc ms a b idx pos : Nat} {n : Int} {Qc : Array Value → State → Outcome → State → Prop} {As : List Value}
theorem zrok_all (hr : zrok k a b = true) : zmok a = true ∧ zFr a + 1 ≤ zFr k ∧ 8 + (zL a + 11) + zLo a ≤ zLo k ∧ (parseMethodDescriptor (zY a).desc).map (fun d => d.parameters.length) = some b := by
  simp only [zrok, Bool.and_eq_true, decide_eq_true_eq] at hr
  exact ⟨hr.1.1.1, hr.1.1.2, hr.1.2, hr.2⟩
theorem zlk_nest (C : zCx G k p R s m args meth c) (hlk : zlk k idx a pos n = true) : Cond.methodLink (zY k).cls idx (zY a) ∈ zG ∨ va_Nw (.methodLinkNest (zY k).cls idx (zY a) "PaperTown") s := by
  obtain ⟨-, -, -, -, -, -, -, hT, -, -⟩ := C
  unfold zlk at hlk
  split at hlk
  · rw [decide_eq_true_eq] at hlk
    exact Or.inr (hT.2.2.2.2.2.1 _ (List.mem_of_getElem? hlk) rfl)
  · rw [decide_eq_true_eq] at hlk
    exact Or.inl (zG_in hlk rfl)
theorem zrunS (C : zCx G k p R s m args meth c) (hS : va_S (zAf G) s.heap H locs) (hW : zWd G h H) (hr : zrok k a b = true) (hk : zKi a = 0) (hlk : zlk k idx a pos n = true) (hM : Met l (zY a) (zwY a) (zRm a mc ms) (zPc G As h) Qc mc ms (zAf G)) (hn : As.length = b) (hsz : ls.size = zL k) (hcs : (rest.map fun v => v.category).sum ≤ 8) (hd : decode (zB k) pc = .ok (.invokestatic idx, 3)) (hf : cells + mc ≤ R.cells ∧ slots + ms ≤ R.slots) : va_Run p l e R s m args below meth c H locs cells slots mc ms (F0 m pc ls (As.reverse ++ rest)) rest (Qc As.toArray) (zAf G) := by
  obtain ⟨r1, r2, r3, r4⟩ := zrok_all hr
  have hl2 := zlk_nest C hlk
  obtain ⟨hx, hb, hml, hown, hts, hfr, hlo, hT, hst, -⟩ := C
  rcases hl2 with hl | hl
  · exact va_runS (Ts := zG) ⟨hx, hb, hml, hown, hts⟩ hM (va_cwS b hts (zGoodS r1 hk hl) rfl rfl rfl ⟨(zmok_ini r1).2.1, (zmok_ini r1).2.2, r4⟩ ⟨Nat.le_trans r2 hfr, Nat.le_trans r3 hlo⟩) ⟨zblind _ _ _, zpre hT hst hS hW⟩ rfl hn hsz rfl (lv_room hcs) hd hf
  · exact va_runSN (Ts := zG) ⟨hx, hb, hml, hown, hts⟩ hM ⟨va_cnB b hts (zGood r1) rfl rfl rfl hl (hts _ (zmok_ini r1).1) ⟨(zmok_ini r1).2.1, (zmok_ini r1).2.2, r4⟩ ⟨Nat.le_trans r2 hfr, Nat.le_trans r3 hlo⟩, hts _ (zmok_st r1 hk), trivial⟩ ⟨zblind _ _ _, zpre hT hst hS hW⟩ rfl hn hsz rfl (lv_room hcs) hd hf
theorem zrunI (C : zCx G k p R s m args meth c) (hS : va_S (zAf G) s.heap H locs) (hW : zWd G h H) (hr : zrok k a b = true) (hk : zKi a = 2) (hlk : zlk k idx a pos n = true) {o : Nat} (hM : Met l (zY a) (zwY a) (zRm a mc ms) (zPc G (.ref o :: As) h) Qc mc ms (zAf G)) (hn : As.length = b) (hsz : ls.size = zL k) (hcs : (rest.map fun v => v.category).sum ≤ 8) (hd : decode (zB k) pc = .ok (.invokespecial idx, 3)) (hf : cells + mc ≤ R.cells ∧ slots + ms ≤ R.slots) : va_Run p l e R s m args below meth c H locs cells slots mc ms (F0 m pc ls (As.reverse ++ .ref o :: rest)) rest (Qc (Value.ref o :: As).toArray) (zAf G) := by
  obtain ⟨r1, r2, r3, r4⟩ := zrok_all hr
  have hl2 := zlk_nest C hlk
  obtain ⟨hx, hb, hml, hown, hts, hfr, hlo, hT, hst, -⟩ := C
  obtain ⟨i1, i2, i3⟩ := zmok_in r1 hk
  have ews : zwY a = Cond.code (zY a) (zB a) (zL a) none :: zG := by rw [← i3]; rfl
  rcases hl2 with hl | hl
  · exact va_runI (Ts := zG) ⟨hx, hb, hml, hown, hts⟩ hM (cwI b hts (zGood r1) ews rfl rfl (hts _ (zmok_ini r1).1) (hts _ hl) (hts _ i1) i2 ⟨(zmok_ini r1).2.1, (zmok_ini r1).2.2, r4⟩ ⟨Nat.le_trans r2 hfr, Nat.le_trans r3 hlo⟩) ⟨zblind _ _ _, zpre hT hst hS hW⟩ rfl hn hsz rfl (lv_room hcs) hd hf
  · exact va_runIN (Ts := zG) ⟨hx, hb, hml, hown, hts⟩ hM ⟨va_cnB b hts (zGood r1) ews rfl rfl hl (hts _ (zmok_ini r1).1) ⟨(zmok_ini r1).2.1, (zmok_ini r1).2.2, r4⟩ ⟨Nat.le_trans r2 hfr, Nat.le_trans r3 hlo⟩, i2, hts _ i1⟩ ⟨zblind _ _ _, zpre hT hst hS hW⟩ rfl hn hsz rfl (lv_room hcs) hd hf
theorem zrunV (C : zCx G k p R s m args meth c) (hS : va_S (zAf G) s.heap H locs) (hW : zWd G h H) (hr : zrok k a b = true) (hk : zKi a = 1) (hlk : Cond.methodLink (zY k).cls idx (zY a) ∈ zG) {o : Nat} (ho : 8 ≤ o ∧ o < zn h ∧ (zk h o).1 = zcn a) (hM : Met l (zY a) (zwY a) (zRm a mc ms) (zPc G (.ref (zad G o) :: As) h) Qc mc ms (zAf G)) (hn : As.length = b) (hsz : ls.size = zL k) (hcs : (rest.map fun v => v.category).sum ≤ 8) (hd : decode (zB k) pc = .ok (.invokevirtual idx, 3)) (hf : cells + mc ≤ R.cells ∧ slots + ms ≤ R.slots) : va_Run p l e R s m args below meth c H locs cells slots mc ms (F0 m pc ls (As.reverse ++ .ref (zad G o) :: rest)) rest (Qc (Value.ref (zad G o) :: As).toArray) (zAf G) := by
  obtain ⟨r1, r2, r3, r4⟩ := zrok_all hr
  obtain ⟨hx, hb, hml, hown, hts, hfr, hlo, hT, hst, -⟩ := C
  obtain ⟨c1, c2⟩ := zcn_ok (zKi_lt hk) hk
  obtain ⟨-, cell, q1, q2, q3, -⟩ := (hW.2.2.1 o ho.1 ho.2.1).obj ho.2.2 c1
  have hcls : s.vm.findClass (zY a).cls = some cell.cls := by rw [← c2, q2]; exact (hT.1 _ c1).2.1
  exact va_runV (Ts := zG) ⟨hx, hb, hml, hown, hts⟩ hM (cwV b hts (zGoodV r1 hk hlk) rfl rfl rfl ⟨rfl, (zmok_ini r1).2.1, (zmok_ini r1).2.2, r4⟩ ⟨Nat.le_trans r2 hfr, Nat.le_trans r3 hlo⟩) ⟨zblind _ _ _, ⟨cell, q1, by rw [q3]; rfl, hcls⟩, zpre hT hst hS hW⟩ rfl hn hsz rfl (lv_room hcs) hd hf
end ZR
theorem zce.mkobj {G : zg} {h : zH} {H : Heap} {a t : Nat} (ht : (zk h a).1 = t) (h10 : t < 10) (hlen : (zk h a).2 = (zcl t).2.2) (hob : t_OB (zad G a) (G.2.2.1.1 t) (zcl t).2.2 (G.2.2.1.2 t) H (zfv G h a t)) : zce G h H a := by
  subst ht
  exact Or.inl ⟨h10, hlen, by rw [hlen]; exact hob⟩
