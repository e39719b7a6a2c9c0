theorem zchk_st {k pc idx len a b pos : Nat} {n : Int} (h : zchk k (pc, .invokestatic idx, len, a, b, pos, n) = true) (h1 : ¬ a = 1000) : zrok k a b = true ∧ zKi a = 0 ∧ zlk k idx a pos n = true := by
  simp only [zchk, if_neg h1, Bool.and_eq_true, decide_eq_true_eq] at h
  exact ⟨h.2.1.1, h.2.1.2, h.2.2⟩
theorem zchk_ac {k pc idx len a b pos : Nat} {n : Int} (h : zchk k (pc, .invokestatic idx, len, a, b, pos, n) = true) (h1 : a = 1000) : lw_tbl[pos]? = some (.methodLink (zY k).cls idx arraycopyName) ∧ 1 ≤ zFr k ∧ 26 ≤ zLo k := by
  simp only [zchk, if_pos h1, Bool.and_eq_true, decide_eq_true_eq] at h
  exact ⟨h.2.1.1, h.2.1.2, h.2.2⟩
theorem zchk_sp {k pc idx len a b pos : Nat} {n : Int} (h : zchk k (pc, .invokespecial idx, len, a, b, pos, n) = true) (h1 : ¬ a = 1) : zrok k a b = true ∧ zKi a = 2 ∧ zlk k idx a pos n = true := by
  simp only [zchk, if_neg h1, Bool.and_eq_true, decide_eq_true_eq] at h
  exact ⟨h.2.1.1, h.2.1.2, h.2.2⟩
theorem zchk_vi {k pc idx len a b pos : Nat} {n : Int} (h : zchk k (pc, .invokevirtual idx, len, a, b, pos, n) = true) : zrok k a b = true ∧ zKi a = 1 ∧ Cond.methodLink (zY k).cls idx (zY a) ∈ zG := by
  simp only [zchk, Bool.and_eq_true, decide_eq_true_eq] at h
  obtain ⟨-, ⟨⟨h1, h2⟩, h3⟩, h4⟩ := h
  unfold zlk at h3
  rw [if_neg (by rw [h4]; decide), decide_eq_true_eq] at h3
  exact ⟨h1, h2, zG_in h3 rfl⟩
section ZS5
variable {p : Program} {l : Launch} {e : Env} {R : Room} {s : State} {m : MethodId} {args : Array Value} {below : List Frame} {meth : Method} {c : Code} {H : Heap} {locs : List Loc} {cells slots : Nat} {Q : State → Prop}
variable {G : zg} {k : Nat}
theorem zac_sound (C : zCx G k p R s m args meth c) {h h' : zH} (hW : zWd G h H) (hS : va_S (zAf G) s.heap H locs) {pc idx : Nat} {r1 : Nat × Nat × Nat × Nat × Int} (hc : zcod k pc = some (.invokestatic idx, r1)) {pos : Nat} (hck : lw_tbl[pos]? = some (.methodLink (zY k).cls idx arraycopyName) ∧ 1 ≤ zFr k ∧ 26 ≤ zLo k) {al al' : zLs} {st st' : List zV} {pc' : Nat} {x dp sp : Int32} {r q : Option Nat} (hp : zcM h r sp q dp x (fun h => some (pc + 3, al, st, h)) = some (pc', al', st', h')) (hcs : zcs st ≤ 8) {ls : Array Slot} (hsz : ls.size = zL k)
    (kk : al' = al → zn h' = zn h → zs h' = zs h → ∀ (H1 : Heap) (locs1 : List Loc), zWd G h' H1 → va_S (zAf G) s.heap H1 locs1 → W p l e R s m args below meth c H1 locs1 cells slots Q (F0 m pc' ls (st'.map (zxv G)))) : W p l e R s m args below meth c H locs cells slots Q (F0 m pc ls (.int x :: .int dp :: zxr G q :: .int sp :: zxr G r :: st.map (zxv G))) := by
  obtain ⟨hx, hb, hml, hown, hts, hfr, hlo, hT, hst, -⟩ := id C
  unfold zcM at hp
  split at hp
  · rename_i a1 b1
    split at hp
    · rename_i hok
      simp only [Option.some.injEq, Prod.mk.injEq] at hp
      obtain ⟨rfl, rfl, rfl, rfl⟩ := hp
      obtain ⟨k1, k2, k3, k4, k5, k6, k7, k8, k9, k10, k11, k12⟩ := hok
      refine zW_acopy C hW hS (hml.trans hsz.symm) (zG_in hck.1 rfl) ⟨k1, k2, k5⟩ ⟨k3, k4, k6⟩ k7 k8 k9 k10 k11 k12 (Nat.le_trans hck.2.1 hfr) ?_ (zcod_dec hc (by simp [zlen])) (kk rfl rfl rfl)
      rw [zcs_cat]
      have := hck.2.2
      omega
    · cases hp
  · cases hp
theorem zh36_n (h : zH) (a : Nat) (x : Int32) : zn (zh36 h a x) = zn h + 1 ∧ zs (zh36 h a x) = zs h + x.toNatClampNeg := ⟨rfl, rfl⟩
theorem zp36 : (parseMethodDescriptor (zY 36).desc).map (fun d => d.parameters.length) = some 2 := by decide +kernel
theorem zco_sound (C : zCx G k p R s m args meth c) {h : zH} (hW : zWd G h H) (hS : va_S (zAf G) s.heap H locs) {pc idx b pos : Nat} {n : Int} {r1 : Nat × Nat × Nat × Nat × Int} (hc : zcod k pc = some (.invokestatic idx, r1)) (hck : zrok k 36 b = true ∧ zKi 36 = 0 ∧ zlk k idx 36 pos n = true) {st : List zV} {x : Int32} {a1 : Nat} (hok : 8 ≤ a1 ∧ a1 < zn h ∧ (zk h a1).1 = 103 ∧ ¬ x < 0 ∧ x.toNatClampNeg ≤ 100000 ∧ (zk h a1).2 ≤ x.toNatClampNeg ∧ (∀ i, i < (zk h a1).2 → ((zr h a1 i).all fun y => decide (zob h y)) = true)) (hcs : zcs st ≤ 8) {ls : Array Slot} (hsz : ls.size = zL k) (hroom : cells + 1 ≤ R.cells ∧ slots + x.toNatClampNeg ≤ R.slots)
    (kk : ∀ (H1 : Heap) (locs1 : List Loc), zWd G (zh36 h a1 x) H1 → va_S (zAf G) s.heap H1 locs1 → W p l e R s m args below meth c H1 locs1 (cells + 1) (slots + x.toNatClampNeg) Q (F0 m (pc + 3) ls (zxr G (some (zn h)) :: st.map (zxv G)))) : W p l e R s m args below meth c H locs cells slots Q (F0 m pc ls (.int x :: zxr G (some a1) :: st.map (zxv G))) := by
  obtain ⟨k1, k2, k3, k4, k5, k6, k7⟩ := hok
  have hb2 : b = 2 := by
    have := (zrok_all hck.1).2.2.2
    rw [zp36] at this
    exact (Option.some.inj this).symm
  have hM := zM36 l G ⟨k1, k2, k3⟩ k4 k5 k6 k7
  have hrun := zrunS (p := p) (l := l) (e := e) (below := below) (cells := cells) (slots := slots) (rest := st.map (zxv G)) C hS hW hck.1 hck.2.1 hck.2.2 hM (by rw [hb2]; rfl) hsz (by rw [zcs_cat]; exact hcs) (zcod_dec hc (by simp [zlen])) hroom
  exact zW_call hrun hS kk
end ZS5
section ZS4
variable {p : Program} {l : Launch} {e : Env} {R : Room} {s : State} {m : MethodId} {args : Array Value} {below : List Frame} {meth : Method} {c : Code} {H : Heap} {locs : List Loc} {cells slots : Nat} {Q : State → Prop}
variable {G : zg} {k : Nat}
set_option maxHeartbeats 8000000 in
theorem zh1_sound (C : zCx G k p R s m args meth c) {h h' : zH} (hW : zWd G h H) (hS : va_S (zAf G) s.heap H locs) {pc : Nat} {i : Instr} {len a b pos : Nat} {n : Int} (hc : zcod k pc = some (i, len, a, b, pos, n)) {al al' : zLs} {st st' : List zV} {pc' : Nat} (hp : zh1 i a b pc al st h = some (pc', al', st', h')) {ls : Array Slot} (hsz : ls.size = zL k) (hroom : cells + (zn h' - zn h) ≤ R.cells ∧ slots + (zs h' - zs h) ≤ R.slots)
    (kk : al' = al → zn h ≤ zn h' → zs h ≤ zs h' → ∀ (H1 : Heap) (locs1 : List Loc), zWd G h' H1 → va_S (zAf G) s.heap H1 locs1 → W p l e R s m args below meth c H1 locs1 (cells + (zn h' - zn h)) (slots + (zs h' - zs h)) Q (F0 m pc' ls (st'.map (zxv G)))) : W p l e R s m args below meth c H locs cells slots Q (F0 m pc ls (st.map (zxv G))) := by
  obtain ⟨hx, hb, hml, hown, hts, hfr, hlo, hT, hst, -⟩ := id C
  have hck := zcod_chk hc
  have nz : ∀ x : Nat, cells = cells + (x - x) := fun x => by omega
  have sz : ∀ x : Nat, slots = slots + (x - x) := fun x => by omega
  cases i with
  | getfield idx =>
    simp only [zchk, Bool.and_eq_true, decide_eq_true_eq] at hck
    simp only [zh1] at hp
    split at hp
    · rename_i r st1
      split at hp
      · rename_i hft
        cases r with
        | none => simp [zgR] at hp
        | some a1 =>
          simp only [zgR] at hp
          split at hp
          · rename_i hok
            cases hp
            refine zW_get C hW hok hck.2 (zcod_dec hc (by simp [zlen])) ?_
            have e1 : zfv G h a1 a b = zxr G (zr h a1 b) := by simp [zfv, hft]
            rw [e1]
            exact W.cs (nz (zn h)) (sz (zs h)) (kk rfl (Nat.le_refl _) (Nat.le_refl _) H locs hW hS)
          · cases hp
      · rename_i hft
        cases r with
        | none => simp [zgI] at hp
        | some a1 =>
          simp only [zgI] at hp
          split at hp
          · rename_i hok
            cases hp
            refine zW_get C hW hok hck.2 (zcod_dec hc (by simp [zlen])) ?_
            have e1 : zfv G h a1 a b = .int (zi h a1 b) := by simp [zfv, hft]
            rw [e1]
            exact W.cs (nz (zn h)) (sz (zs h)) (kk rfl (Nat.le_refl _) (Nat.le_refl _) H locs hW hS)
          · cases hp
    · cases hp
  | putfield idx =>
    simp only [zchk, Bool.and_eq_true, decide_eq_true_eq, Bool.or_eq_true, Bool.not_eq_true'] at hck
    have hfin : ((zcl a).2.1 b).2.2.2 = true → (zY k).name = "<init>" ∧ ((zcl a).2.1 b).1 = (zY k).cls := by
      intro hf
      rcases hck.2.2 with q | q
      · rw [q] at hf; cases hf
      · exact q
    have h10 : a < 10 ∧ b < (zcl a).2.2 := ⟨(zlink hts hck.2.1).1, (zlink hts hck.2.1).2.1⟩
    simp only [zh1] at hp
    split at hp
    · rename_i x r st1
      split at hp
      · rename_i hft
        cases r with
        | none => simp [zpI] at hp
        | some a1 =>
          simp only [zpI] at hp
          split at hp
          · rename_i hok
            cases hp
            have hob := (hW.2.2.1 a1 hok.1 hok.2.1).obj hok.2.2.1 h10.1
            refine zW_put C hW hS hok hck.2.1 hfin (zcod_dec hc (by simp [zlen])) (v := .int x) (by rw [zft_int hft]; rfl) (by rw [zft_int hft]; rfl) (fun H1 locs1 t1 z1 o1 s1 => ?_)
            exact W.cs (nz (zn h)) (sz (zs h)) (kk rfl (Nat.le_refl _) (Nat.le_refl _) H1 locs1 (hW.ui hok.1 z1 o1 (zce.mkobj hok.2.2.1 h10.1 hob.1 (by rw [zfv_ui (by omega)]; exact t1))) s1)
          · cases hp
      · split at hp
        · rename_i hft
          cases r with
          | none => simp [zpZ] at hp
          | some a1 =>
            simp only [zpZ] at hp
            split at hp
            · rename_i hok0
              obtain ⟨hok, h01⟩ := hok0
              cases hp
              have hob := (hW.2.2.1 a1 hok.1 hok.2.1).obj hok.2.2.1 h10.1
              refine zW_put C hW hS hok hck.2.1 hfin (zcod_dec hc (by simp [zlen])) (v := .int x) (by rw [zft_bool hft]; rcases h01 with q | q <;> subst q <;> decide +kernel) (by rw [zft_bool hft]; rcases h01 with q | q <;> subst q <;> decide +kernel) (fun H1 locs1 t1 z1 o1 s1 => ?_)
              exact W.cs (nz (zn h)) (sz (zs h)) (kk rfl (Nat.le_refl _) (Nat.le_refl _) H1 locs1 (hW.ui hok.1 z1 o1 (zce.mkobj hok.2.2.1 h10.1 hob.1 (by rw [zfv_ui (by omega)]; exact t1))) s1)
            · cases hp
        · cases hp
    · rename_i x r st1
      split at hp
      · rename_i hft
        cases r with
        | none => simp [zpR] at hp
        | some a1 =>
          simp only [zpR] at hp
          split at hp
          · rename_i hok
            cases hp
            have hob := (hW.2.2.1 a1 hok.1 hok.2.1).obj hok.2.2.1 h10.1
            have hfit := zft_ref h10.1 h10.2 hft G x
            refine zW_put C hW hS hok hck.2.1 hfin (zcod_dec hc (by simp [zlen])) (v := zxr G x) hfit.1 hfit.2 (fun H1 locs1 t1 z1 o1 s1 => ?_)
            exact W.cs (nz (zn h)) (sz (zs h)) (kk rfl (Nat.le_refl _) (Nat.le_refl _) H1 locs1 (hW.ur hok.1 z1 o1 (zce.mkobj hok.2.2.1 h10.1 hob.1 (by rw [zfv_ur hft]; exact t1))) s1)
          · cases hp
      · cases hp
    · cases hp
  | iaload =>
    simp only [zh1] at hp
    split at hp
    · rename_i j r st1
      cases r with
      | none => simp [zaI] at hp
      | some a1 =>
        simp only [zaI] at hp
        split at hp
        · rename_i hok
          cases hp
          exact zW_iald C hW hS hok (zcod_dec hc (by simp [zlen])) (W.cs (nz (zn h)) (sz (zs h)) (kk rfl (Nat.le_refl _) (Nat.le_refl _) H locs hW hS))
        · cases hp
    · cases hp
  | baload =>
    simp only [zh1] at hp
    split at hp
    · rename_i j r st1
      cases r with
      | none => simp [zaB] at hp
      | some a1 =>
        simp only [zaB] at hp
        split at hp
        · rename_i hok
          cases hp
          exact zW_bald C hW hok.1 hok.2 (zcod_dec hc (by simp [zlen])) (W.cs (nz (zn h)) (sz (zs h)) (kk rfl (Nat.le_refl _) (Nat.le_refl _) H locs hW hS))
        · cases hp
    · cases hp
  | aaload =>
    simp only [zh1] at hp
    split at hp
    · rename_i j r st1
      cases r with
      | none => simp [zaR] at hp
      | some a1 =>
        simp only [zaR] at hp
        split at hp
        · rename_i hok
          cases hp
          exact zW_aald C hW hok.1 hok.2 (zcod_dec hc (by simp [zlen])) (W.cs (nz (zn h)) (sz (zs h)) (kk rfl (Nat.le_refl _) (Nat.le_refl _) H locs hW hS))
        · cases hp
    · cases hp
  | iastore =>
    simp only [zh1] at hp
    split at hp
    · rename_i x j r st1
      cases r with
      | none => simp [ztI] at hp
      | some a1 =>
        simp only [ztI] at hp
        split at hp
        · rename_i hok
          cases hp
          exact zW_iast C hW hS hok.1 hok.2 (zcod_dec hc (by simp [zlen])) (fun H1 locs1 w1 s1 => W.cs (nz (zn h)) (sz (zs h)) (kk rfl (Nat.le_refl _) (Nat.le_refl _) H1 locs1 w1 s1))
        · cases hp
    · cases hp
  | bastore =>
    simp only [zh1] at hp
    split at hp
    · rename_i x j r st1
      cases r with
      | none => simp [ztB] at hp
      | some a1 =>
        simp only [ztB] at hp
        split at hp
        · rename_i hok
          cases hp
          exact zW_bast C hW hS hok.1 hok.2 (zcod_dec hc (by simp [zlen])) (fun H1 locs1 w1 s1 => W.cs (nz (zn h)) (sz (zs h)) (kk rfl (Nat.le_refl _) (Nat.le_refl _) H1 locs1 w1 s1))
        · split at hp
          · rename_i hok
            cases hp
            exact zW_zast C hW hS hok.1 hok.2.1 hok.2.2 (zcod_dec hc (by simp [zlen])) (fun H1 locs1 w1 s1 => W.cs (nz (zn h)) (sz (zs h)) (kk rfl (Nat.le_refl _) (Nat.le_refl _) H1 locs1 w1 s1))
          · cases hp
    · cases hp
  | aastore =>
    simp only [zh1] at hp
    split at hp
    · rename_i x j r st1
      cases r with
      | none => simp [ztR] at hp
      | some a1 =>
        simp only [ztR] at hp
        split at hp
        · rename_i hok
          cases hp
          exact zW_aast C hW hS hok.1 hok.2.1 hok.2.2 (zcod_dec hc (by simp [zlen])) (fun H1 locs1 w1 s1 => W.cs (nz (zn h)) (sz (zs h)) (kk rfl (Nat.le_refl _) (Nat.le_refl _) H1 locs1 w1 s1))
        · cases hp
    · cases hp
  | arraylength =>
    simp only [zh1] at hp
    split at hp
    · rename_i r st1
      cases r with
      | none => simp [zal] at hp
      | some a1 =>
        simp only [zal] at hp
        split at hp
        · rename_i hok
          cases hp
          exact zW_alen C hW hS hok.1 hok.2 (zcod_dec hc (by simp [zlen])) (W.cs (nz (zn h)) (sz (zs h)) (kk rfl (Nat.le_refl _) (Nat.le_refl _) H locs hW hS))
        · cases hp
    · cases hp
  | new idx =>
    simp only [zchk, Bool.and_eq_true, decide_eq_true_eq] at hck
    simp only [zh1, zno] at hp
    cases hp
    have en : zn (znw h a (zcl a).2.2) = zn h + 1 := rfl
    have es : zs (znw h a (zcl a).2.2) = zs h + (zcl a).2.2 := rfl
    rw [en, es] at hroom
    refine zW_new C hW hS hck.2.1 (zG_in hck.2.2 rfl) (by omega) (by omega) (zcod_dec hc (by simp [zlen])) (fun H1 w1 s1 => ?_)
    refine W.cs ?_ ?_ (kk rfl (by rw [en]; omega) (by rw [es]; omega) H1 locs w1 s1)
    · rw [en]; omega
    · rw [es]; omega
  | newarray ty =>
    simp only [zchk, Bool.and_eq_true, decide_eq_true_eq] at hck
    simp only [zh1] at hp
    split at hp
    · rename_i x st1
      simp only [zna] at hp
      split at hp
      · rename_i hok
        cases hp
        have en : zn (znw h a x.toNatClampNeg) = zn h + 1 := rfl
        have es : zs (znw h a x.toNatClampNeg) = zs h + x.toNatClampNeg := rfl
        rw [en, es] at hroom
        have harr : (Jvm.Cond.arrayClass (newarray.typeOf ty)).before args s = true := by
          rcases hck.2 with ⟨rfl, -⟩ | ⟨rfl, -⟩ | ⟨rfl, -⟩
          · exact hts _ zAr_int
          · exact hts _ zAr_byte
          · exact hts _ zAr_boolean
        refine zW_newa C hW hS hck.2 hok.1 hok.2 (by omega) (by omega) (zcod_dec hc (by simp [zlen])) harr (fun H1 w1 s1 => ?_)
        refine W.cs ?_ ?_ (kk rfl (by rw [en]; omega) (by rw [es]; omega) H1 locs w1 s1)
        · rw [en]; omega
        · rw [es]; omega
      · cases hp
    · cases hp
  | anewarray idx =>
    simp only [zchk, Bool.and_eq_true, decide_eq_true_eq] at hck
    simp only [zh1] at hp
    split at hp
    · rename_i x st1
      simp only [zna] at hp
      split at hp
      · rename_i hok
        cases hp
        have en : zn (znw h 103 x.toNatClampNeg) = zn h + 1 := rfl
        have es : zs (znw h 103 x.toNatClampNeg) = zs h + x.toNatClampNeg := rfl
        rw [en, es] at hroom
        refine zW_anew C hW hS (zG_in hck.2 rfl) hok.1 hok.2 (by omega) (by omega) (zcod_dec hc (by simp [zlen])) (fun H1 w1 s1 => ?_)
        refine W.cs ?_ ?_ (kk rfl (by rw [en]; omega) (by rw [es]; omega) H1 locs w1 s1)
        · rw [en]; omega
        · rw [es]; omega
      · cases hp
    · cases hp
  | checkcast idx =>
    simp only [zchk, Bool.and_eq_true, decide_eq_true_eq] at hck
    simp only [zh1] at hp
    split at hp
    · rename_i r st1
      cases r with
      | none =>
        simp only [zca] at hp
        cases hp
        exact lv_castN hx hb (zcod_dec hc (by simp [zlen])) (W.cs (nz (zn h)) (sz (zs h)) (kk rfl (Nat.le_refl _) (Nat.le_refl _) H locs hW hS))
      | some a1 =>
        simp only [zca] at hp
        split at hp
        · rename_i hok
          cases hp
          obtain ⟨-, cell, q1, q2, q3, -⟩ := (hW.2.2.1 a1 hok.1 hok.2.1).obj hok.2.2 hck.2.1
          exact va_castS hx hb hown (hts _ (zG_in hck.2.2 rfl)) (hT.1 a hck.2.1).2 ⟨cell, q1, by rw [q3]; rfl, by rw [q2]; exact (hT.1 a hck.2.1).2.1⟩ (zcod_dec hc (by simp [zlen])) (W.cs (nz (zn h)) (sz (zs h)) (kk rfl (Nat.le_refl _) (Nat.le_refl _) H locs hW hS))
        · cases hp
    · cases hp
  | invokespecial idx =>
    simp only [zh1] at hp
    split at hp
    · rename_i ha
      simp only [zchk, Bool.and_eq_true, decide_eq_true_eq, ha, if_true] at hck
      split at hp
      · rename_i a1 st1
        split at hp
        · rename_i hcs
          cases hp
          refine W.objInit hx hb hown (hts _ (zG_in hck.2.1.1 rfl)) (hts _ zObI) (hts _ zObC) rfl (hsz.trans hml.symm) rfl (zcod_dec hc (by simp [zlen])) (Nat.le_trans hck.2.1.2 hfr) ?_ (W.cs (nz (zn h)) (sz (zs h)) (kk rfl (Nat.le_refl _) (Nat.le_refl _) H locs hW hS))
          have := zcs_cat G st'
          show 2 * 0 + ((st'.map (zxv G)).map fun v => v.category).sum + 12 ≤ _
          rw [this]
          have := hck.2.2
          omega
        · cases hp
      · cases hp
    · cases hp
  | invokestatic idx =>
    simp only [zh1] at hp
    split at hp
    · rename_i ha
      have hck2 := zchk_ac hck ha
      split at hp
      · split at hp
        · rename_i hcs
          exact zac_sound C hW hS hc hck2 hp hcs hsz (fun e1 e2 e3 H1 locs1 w1 s1 => W.cs (by rw [e2]; exact nz _) (by rw [e3]; exact sz _) (kk e1 (Nat.le_of_eq e2.symm) (Nat.le_of_eq e3.symm) H1 locs1 w1 s1))
        · cases hp
      · cases hp
    · split at hp
      · rename_i hne ha
        have hck2 := zchk_st hck hne
        rw [ha] at hck2
        split at hp
        · split at hp
          · rename_i hcs
            unfold zcO at hp
            split at hp
            · cases hp
            · split at hp
              · rename_i hok
                simp only [Option.some.injEq, Prod.mk.injEq] at hp
                obtain ⟨e1, e2, e3, e4⟩ := hp
                subst e1; subst e2; subst e3; subst e4
                have en : ∀ x a, zn (zcy (znw h 103 x) a (zn h) 0 0 (zk h a).2) = zn h + 1 := fun _ _ => rfl
                have es : ∀ x a, zs (zcy (znw h 103 x) a (zn h) 0 0 (zk h a).2) = zs h + x := fun _ _ => rfl
                rw [en, es] at hroom
                refine zco_sound C hW hS hc hck2 hok hcs hsz ⟨?_, ?_⟩ (fun H1 locs1 w1 s1 => W.cs ?_ ?_ (kk rfl (Nat.le_succ _) (Nat.le_add_right _ _) H1 locs1 w1 s1))
                · have := hroom.1
                  omega
                · have := hroom.2
                  omega
                · rw [en]; omega
                · rw [es]; omega
              · cases hp
          · cases hp
        · cases hp
      · cases hp
  | _ => simp [zh1] at hp
end ZS4
