/-! The rows that read and write the heap, over the small heap. -/
theorem zad_ge {G : zg} {a : Nat} (h : 8 ≤ a) : zad G a = G.1 + (a - 8) := by
  unfold zad
  rw [if_neg (by omega)]
theorem zad_ne {G : zg} {a b : Nat} (h : 8 ≤ a) (h2 : 8 ≤ b) (hn : b ≠ a) : zad G b ≠ zad G a := by
  rw [zad_ge h, zad_ge h2]
  omega
theorem zad_A {G : zg} {a : Nat} (h : 8 ≤ a) : zAf G (zad G a) := by
  unfold zAf
  rw [zad_ge h]
  omega
theorem zce.obj {G : zg} {h : zH} {H : Heap} {a t : Nat} (hz : zce G h H a) (ht : (zk h a).1 = t) (h10 : t < 10) : (zk h a).2 = (zcl t).2.2 ∧ t_OB (zad G a) (G.2.2.1.1 t) (zcl t).2.2 (G.2.2.1.2 t) H (zfv G h a t) := by
  subst ht
  rcases hz with ⟨h1, h2, h3⟩ | ⟨h1, -⟩ | ⟨h1, -⟩
  · exact ⟨h2, h2 ▸ h3⟩
  · omega
  · omega
theorem zce.ints {G : zg} {h : zH} {H : Heap} {a t : Nat} (hz : zce G h H a) (ht : (zk h a).1 = t) (h10 : t = 100 ∨ t = 101 ∨ t = 102) : H[zad G a]? = some (arrV (G.2.2.2.1 t) (zk h a).2 (fun j => .int (zi h a j))) := by
  subst ht
  rcases hz with ⟨h1, h2, h3⟩ | ⟨h1, h2⟩ | ⟨h1, -⟩
  · omega
  · exact h2
  · omega
theorem zce.refs {G : zg} {h : zH} {H : Heap} {a : Nat} (hz : zce G h H a) (ht : (zk h a).1 = 103) : H[zad G a]? = some (arrV (G.2.2.2.1 103) (zk h a).2 (fun j => zxr G (zr h a j))) := by
  rcases hz with ⟨h1, h2, h3⟩ | ⟨h1, h2⟩ | ⟨h1, h2⟩
  · omega
  · omega
  · exact h2
theorem zce.kept {G : zg} {h h' : zH} {H H' : Heap} {b : Nat} (hz : zce G h H b) (ek : zk h' b = zk h b) (ei : ∀ j, zi h' b j = zi h b j) (er : ∀ j, zr h' b j = zr h b j) (ho : H'[zad G b]? = H[zad G b]?) : zce G h' H' b := by
  have ef : ∀ t, zfv G h' b t = zfv G h b t := fun t => by funext j; unfold zfv; rw [ei, er]
  have e1 : (fun j => Value.int (zi h' b j)) = fun j => Value.int (zi h b j) := by funext j; rw [ei]
  have e2 : (fun j => zxr G (zr h' b j)) = fun j => zxr G (zr h b j) := by funext j; rw [er]
  unfold zce
  rw [ek, ef, e1, e2]
  rcases hz with ⟨h1, h2, h3⟩ | ⟨h1, h2⟩ | ⟨h1, h2⟩
  · exact Or.inl ⟨h1, h2, h3.kept ho⟩
  · exact Or.inr (Or.inl ⟨h1, ho.trans h2⟩)
  · exact Or.inr (Or.inr ⟨h1, ho.trans h2⟩)
theorem zWd.upd {G : zg} {h h' : zH} {H H' : Heap} {a : Nat} (hW : zWd G h H) (ha : 8 ≤ a) (e1 : zn h' = zn h) (ek : ∀ b, zk h' b = zk h b) (ei : ∀ b, b ≠ a → ∀ j, zi h' b j = zi h b j) (er : ∀ b, b ≠ a → ∀ j, zr h' b j = zr h b j) (hz : H'.size = H.size) (ho : ∀ q, q ≠ zad G a → H'[q]? = H[q]?) (hce : zce G h' H' a) : zWd G h' H' := by
  obtain ⟨w1, w2, w3, w4⟩ := hW
  refine ⟨by rw [e1]; exact w1, by rw [hz, e1]; exact w2, fun b hb hb2 => ?_, fun b hb => ⟨(ek b).trans (w4 b hb).1, fun j => (ei b (by omega) j).trans ((w4 b hb).2 j)⟩⟩
  by_cases hba : b = a
  · subst hba; exact hce
  · exact (w3 b hb (by rw [← e1]; exact hb2)).kept (ek b) (ei b hba) (er b hba) (ho _ (zad_ne ha hb hba))
theorem zWd.new {G : zg} {h : zH} {H H' : Heap} {t N : Nat} (hW : zWd G h H) (hz : H'.size = H.size + 1) (ho : ∀ q, q < H.size → H'[q]? = H[q]?) (hce : zce G (znw h t N) H' (zn h)) : zWd G (znw h t N) H' := by
  obtain ⟨w1, w2, w3, w4⟩ := hW
  have hne : ∀ b, b < zn h → ¬ b = h.1 := fun b hb => Nat.ne_of_lt hb
  refine ⟨Nat.le_succ_of_le w1, by rw [hz, w2]; show _ = G.1 + (zn h + 1 - 8); omega, fun b hb hb2 => ?_, fun b hb => ?_⟩
  · by_cases hbn : b = zn h
    · subst hbn; exact hce
    · have hlt : b < zn h := by
        have : b < zn h + 1 := hb2
        omega
      refine (w3 b hb hlt).kept ?_ (fun j => ?_) (fun j => ?_) (ho _ ?_)
      · exact if_neg (hne b hlt)
      · exact if_neg (hne b hlt)
      · exact if_neg (hne b hlt)
      · rw [zad_ge hb, w2]; omega
  · have hlt : b < zn h := by omega
    refine ⟨?_, fun j => ?_⟩
    · rw [← (w4 b hb).1]; exact if_neg (hne b hlt)
    · rw [← (w4 b hb).2 j]; exact if_neg (hne b hlt)
theorem zSnew {G : zg} {H0 H H' : Heap} {locs : List Loc} (hS : va_S (zAf G) H0 H locs) (hz : H'.size = H.size + 1) (ho : ∀ q, q < H.size → H'[q]? = H[q]?) : va_S (zAf G) H0 H' locs :=
  ⟨Nat.le_trans hS.1 (by omega), fun q h1 h2 => (ho q (Nat.lt_of_lt_of_le h1 hS.1)).trans (hS.2.1 q h1 h2), hS.2.2⟩
theorem zadn {G : zg} {h : zH} {H : Heap} (hW : zWd G h H) : zad G (zn h) = H.size := by
  rw [zad_ge hW.1, hW.2.1]
theorem zft_ref {t k : Nat} (h10 : t < 10) (hk : k < (zcl t).2.2) (h : zft t k = 2) (G : zg) (r : Option Nat) : narrow (ztf t k) (zxr G r) = zxr G r ∧ fits (ztf t k) (zxr G r) = true := by
  have key : ∀ t, t < 10 → ∀ k, k < (zcl t).2.2 → zft t k = 2 → (∃ n, ztf t k = .object n) ∨ ∃ n, ztf t k = .array n := by
    have : ∀ t, t < 10 → (List.range (zcl t).2.2).all (fun k => match ztf t k with | .int => true | .boolean => true | .object _ => true | .array _ => true | _ => false) = true := zlt10 (by decide +kernel) (by decide +kernel) (by decide +kernel) (by decide +kernel) (by decide +kernel) (by decide +kernel) (by decide +kernel) (by decide +kernel) (by decide +kernel) (by decide +kernel)
    intro t ht k hk h2
    have h3 := List.all_eq_true.mp (this t ht) k (List.mem_range.mpr hk)
    unfold zft at h2
    cases hf : ztf t k <;> rw [hf] at h3 h2 <;> simp at h3 h2 ⊢
  rcases key t h10 k hk h with ⟨n, e⟩ | ⟨n, e⟩ <;> rw [e] <;> cases r <;> exact ⟨rfl, rfl⟩
theorem zft_int {t k : Nat} (h : zft t k = 0) : ztf t k = .int := by
  unfold zft at h
  cases hf : ztf t k <;> rw [hf] at h <;> simp at h ⊢
theorem zft_bool {t k : Nat} (h : zft t k = 1) : ztf t k = .boolean := by
  unfold zft at h
  cases hf : ztf t k <;> rw [hf] at h <;> simp at h ⊢
section ZS2
variable {p : Program} {l : Launch} {e : Env} {R : Room} {s : State} {m : MethodId} {args : Array Value} {below : List Frame} {meth : Method} {c : Code} {H : Heap} {locs : List Loc} {cells slots : Nat} {Q : State → Prop}
variable {G : zg} {k : Nat} {h : zH} {ls : Array Slot} {pc : Nat} {rest : List Value}
theorem zlink (hts : ∀ w ∈ zG, w.before args s = true) {idx t f pos : Nat} {n : Int} (hf : zfok k idx t f pos n = true) : t < 10 ∧ f < (zcl t).2.2 ∧ ∃ ref, (Cond.fieldLink (zY k).cls idx ref ((zcl t).2.1 f).2.1 ((zcl t).2.1 f).2.2.1).before args s = true ∧ ∀ x, s.fieldFound? ((zcl t).2.1 f).1 ((zcl t).2.1 f).2.1 ((zcl t).2.1 f).2.2.1 = some x → s.fieldFound? ref ((zcl t).2.1 f).2.1 ((zcl t).2.1 f).2.2.1 = some x := by
  simp only [zfok, Bool.and_eq_true, decide_eq_true_eq, Bool.or_eq_true] at hf
  obtain ⟨⟨⟨h1, h2⟩, h3⟩, h4⟩ := hf
  refine ⟨h1, h2, _, hts _ (zG_in h3 rfl), ?_⟩
  rcases h4 with h4 | ⟨⟨h4, h5⟩, h6⟩
  · rw [if_neg (by rw [h4]; decide)]
    exact fun x hx => hx
  · subst h5; subst h6
    rw [if_pos h4]
    exact u_same (hts _ zsame)
theorem zW_get (C : zCx G k p R s m args meth c) (hW : zWd G h H) {a t f idx pos : Nat} {n : Int} (hok : zok h a t f) (hf : zfok k idx t f pos n = true) (hd : decode (zB k) pc = .ok (.getfield idx, 3)) (kk : W p l e R s m args below meth c H locs cells slots Q (F0 m (pc + 3) ls (zfv G h a t f :: rest))) : W p l e R s m args below meth c H locs cells slots Q (F0 m pc ls (zxr G (some a) :: rest)) := by
  obtain ⟨hx, hb, hml, hown, hts, -, -, hT, -, -⟩ := C
  obtain ⟨h10, hfN, ref, hlink, hsame⟩ := zlink hts hf
  obtain ⟨o1, o2, o3, o4⟩ := hok
  obtain ⟨-, cell, q1, q2, q3, q4⟩ := (hW.2.2.1 a o1 o2).obj o3 h10
  obtain ⟨hS, hfc, kC, hkC, hkind⟩ := hT.1 t h10
  obtain ⟨cf, kf, fi, fd, hi, hsl⟩ := hS f hfN
  refine W.getf hx hb hown hlink (hsame _ hi) (u_facts hfc hkC (u_lays hts (zuw h10) hfN) hi).1 q1 (by rw [q3]; exact fun h => by cases h) (v := zfv G h a t f) ?_ rfl rfl hd kk
  rw [hsl, q4 f hfN]
theorem zapart (hts : ∀ w ∈ zG, w.before args s = true) (hT : zTb G s) {t : Nat} (h10 : t < 10) : ∀ x y, x < (zcl t).2.2 → y < (zcl t).2.2 → x ≠ y → (G.2.2.1.2 t) x ≠ (G.2.2.1.2 t) y := by
  intro x y hx hy hne
  obtain ⟨hS, -⟩ := hT.1 t h10
  obtain ⟨_, _, _, fa, hia, ea⟩ := hS x hx
  obtain ⟨_, _, _, fb, hib, eb⟩ := hS y hy
  rw [← ea, ← eb]
  refine u_apart (u_lays hts (zuw h10) hx) (u_lays hts (zuw h10) hy) hia hib ?_
  rw [(State.fieldFound?_type hia (ztf_ok t h10 x hx)).1, (State.fieldFound?_type hib (ztf_ok t h10 y hy)).1]
  exact znm_ok t h10 x hx y hy hne
theorem zW_put (C : zCx G k p R s m args meth c) (hW : zWd G h H) (hS0 : va_S (zAf G) s.heap H locs) {a t f idx pos : Nat} {n : Int} (hok : zok h a t f) (hf : zfok k idx t f pos n = true) (hfin : ((zcl t).2.1 f).2.2.2 = true → (zY k).name = "<init>" ∧ ((zcl t).2.1 f).1 = (zY k).cls) (hd : decode (zB k) pc = .ok (.putfield idx, 3)) {v : Value} (hn : narrow (ztf t f) v = v) (hv : fits (ztf t f) v = true)
    (kk : ∀ (H1 : Heap) (locs1 : List Loc), t_OB (zad G a) (G.2.2.1.1 t) (zcl t).2.2 (G.2.2.1.2 t) H1 (updV (zfv G h a t) f v) → H1.size = H.size → (∀ q, q ≠ zad G a → H1[q]? = H[q]?) → va_S (zAf G) s.heap H1 locs1 → W p l e R s m args below meth c H1 locs1 cells slots Q (F0 m (pc + 3) ls rest)) : W p l e R s m args below meth c H locs cells slots Q (F0 m pc ls (v :: zxr G (some a) :: rest)) := by
  obtain ⟨hx, hb, hml, hown, hts, -, -, hT, -, hname⟩ := C
  obtain ⟨h10, hfN, ref, hlink, hsame⟩ := zlink hts hf
  have hap := zapart hts hT h10
  obtain ⟨o1, o2, o3, o4⟩ := hok
  obtain ⟨-, cell, q1, q2, q3, q4⟩ := (hW.2.2.1 a o1 o2).obj o3 h10
  obtain ⟨hS, hfc, kC, hkC, hkind⟩ := hT.1 t h10
  obtain ⟨cf, kf, fi, fd, hi, hsl⟩ := hS f hfN
  have hlay := hts _ (zuw h10 _ (u_in_lay hfN))
  unfold u_lay at hlay
  have hst := (u_facts hfc hkC (u_lays hts (zuw h10) hfN) hi).1
  by_cases hfi : ((zcl t).2.1 f).2.2.2 = true
  · obtain ⟨hin, hdecl⟩ := hfin hfi
    rw [if_pos hfi] at hlay
    have hcf : m.cls = cf := by
      obtain ⟨_, _, c', _, _, _, -, -, hf', -, -, -, hown2, -⟩ := Cond.laysFinal_spec hlay
      have e1 : c' = cf := by have := hi.symm.trans hf'; simp at this; exact this.1.symm
      rw [hdecl] at hown2
      rw [← e1]; exact Option.some.inj (hown.symm.trans hown2)
    have h6 := u_fits hfc hkC hkind (Or.inr hlay) hi (ztf_ok t h10 f hfN) hn hv
    refine W.putFinK hx hb hown hlink (hsame _ hi) hst hcf (hname.trans hin) (by rw [q2]; exact h6) q1 q3 (by rw [hsl]; exact k2_hasslot (q4 f hfN)) rfl rfl hd fun H' e1 e2 e3 => ?_
    rw [hsl] at e1 ⊢
    exact kk H' _ ⟨_, e1, q2, q3, t_set q4 hap hfN v⟩ e2 e3 (hS0.put e2 e3 (zad_A o1))
  · rw [if_neg hfi] at hlay
    have h6 := u_store hfc hkC hkind hlay hi (ztf_ok t h10 f hfN) hn hv
    refine W.putK hx hb (f := fd) ⟨hown, hlink, ⟨_, _, _, hsame _ hi⟩, hst⟩ (by rw [q2]; exact h6) q1 q3 (by rw [hsl]; exact k2_hasslot (q4 f hfN)) rfl rfl hd fun H' e1 e2 e3 => ?_
    rw [hsl] at e1 ⊢
    exact kk H' _ ⟨_, e1, q2, q3, t_set q4 hap hfN v⟩ e2 e3 (hS0.put e2 e3 (zad_A o1))
end ZS2
theorem zfv_ui {G : zg} {h : zH} {a t f : Nat} {x : Int32} (hz : zft t f ≠ 2) : zfv G (zui h a f x) a t = updV (zfv G h a t) f (.int x) := by
  funext j
  by_cases hj : j = f
  · subst hj
    simp [zfv, updV, hz, zi, zui]
  · simp [zfv, updV, hj, zi, zr, zui]
theorem zfv_ur {G : zg} {h : zH} {a t f : Nat} {x : Option Nat} (hz : zft t f = 2) : zfv G (zur h a f x) a t = updV (zfv G h a t) f (zxr G x) := by
  funext j
  by_cases hj : j = f
  · subst hj
    simp [zfv, updV, hz, zr, zur]
  · simp [zfv, updV, hj, zi, zr, zur]
theorem zWd.ui {G : zg} {h : zH} {H H' : Heap} {a k : Nat} {x : Int32} (hW : zWd G h H) (ha : 8 ≤ a) (hz : H'.size = H.size) (ho : ∀ q, q ≠ zad G a → H'[q]? = H[q]?) (hce : zce G (zui h a k x) H' a) : zWd G (zui h a k x) H' :=
  hW.upd ha rfl (fun _ => rfl) (fun b hb j => by simp [zi, zui, hb]) (fun _ _ _ => rfl) hz ho hce
theorem zWd.ur {G : zg} {h : zH} {H H' : Heap} {a k : Nat} {x : Option Nat} (hW : zWd G h H) (ha : 8 ≤ a) (hz : H'.size = H.size) (ho : ∀ q, q ≠ zad G a → H'[q]? = H[q]?) (hce : zce G (zur h a k x) H' a) : zWd G (zur h a k x) H' :=
  hW.upd ha rfl (fun _ => rfl) (fun _ _ _ => rfl) (fun b hb j => by simp [zr, zur, hb]) hz ho hce
