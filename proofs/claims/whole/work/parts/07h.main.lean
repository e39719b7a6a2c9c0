/-! the small machine tells the truth: what it comes to, the real one comes to -/
theorem zpop_ok : ∀ (n : Nat) (acc st as rest : List zV), zpop n acc st = some (as, rest) → ∃ xs, st = xs ++ rest ∧ xs.length = n ∧ as = xs.reverse ++ acc
  | 0, acc, st, as, rest, h => by
    simp only [zpop, Option.some.injEq, Prod.mk.injEq] at h
    exact ⟨[], by rw [h.2]; rfl, rfl, by rw [h.1]; rfl⟩
  | n + 1, acc, [], as, rest, h => by simp [zpop] at h
  | n + 1, acc, v :: st, as, rest, h => by
    obtain ⟨xs, h1, h2, h3⟩ := zpop_ok n (v :: acc) st as rest h
    exact ⟨v :: xs, by rw [h1]; rfl, by simp [h2], by rw [h3]; simp⟩
theorem zpop_at {n : Nat} {st as rest : List zV} (h : zpop n [] st = some (as, rest)) (G : zg) : as.length = n ∧ st.map (zxv G) = (as.map (zxv G)).reverse ++ rest.map (zxv G) := by
  obtain ⟨xs, h1, h2, h3⟩ := zpop_ok n [] st as rest h
  rw [List.append_nil] at h3
  subst h1; subst h3
  exact ⟨by simp [h2], by rw [List.map_append, ← List.map_reverse, List.reverse_reverse]⟩
set_option maxHeartbeats 4000000 in
theorem zh1_grow {i : Instr} {a b pc pc' : Nat} {al al' : zLs} {st st' : List zV} {h h' : zH} (hp : zh1 i a b pc al st h = some (pc', al', st', h')) : zn h ≤ zn h' ∧ zs h ≤ zs h' := by
  cases i <;> simp only [zh1, zgI, zgR, zpI, zpZ, zpR, zaI, zaB, zaR, ztI, ztB, ztR, zal, zno, zna, zca, zcO, zcM] at hp <;> (repeat' split at hp) <;> first
    | (cases hp; done)
    | (simp only [Option.some.injEq, Prod.mk.injEq] at hp
       obtain ⟨-, -, -, e4⟩ := hp
       rw [← e4]
       exact ⟨Nat.le_refl _, Nat.le_refl _⟩)
    | (simp only [Option.some.injEq, Prod.mk.injEq] at hp
       obtain ⟨-, -, -, e4⟩ := hp
       rw [← e4]
       exact ⟨Nat.le_succ _, Nat.le_add_right _ _⟩)
theorem zc1_inl {m : Nat} {i : Instr} {a b pc : Nat} {al : zLs} {st : List zV} {h : zH} {q : zQ} (hp : zc1 m i a b pc al st h = some (.inl q)) : False := by
  cases i <;> simp only [zc1] at hp <;> (repeat' split at hp) <;> cases hp
theorem zc1_ret {m : Nat} {i : Instr} {a b pc : Nat} {al : zLs} {st : List zV} {h : zH} {r : Option zV × zH} (hp : zc1 m i a b pc al st h = some (.inr (.inl r))) : r.2 = h := by
  cases i <;> simp only [zc1] at hp <;> (repeat' split at hp) <;> first | (cases hp; done) | (cases hp; rfl)
theorem zex_grow : ∀ (n m pc : Nat) (ls : zLs) (st : List zV) (h : zH) (r : Option zV × zH), zex n m pc ls st h = some r → zn h ≤ zn r.2 ∧ zs h ≤ zs r.2
  | 0, _, _, _, _, _, _, hr => by simp [zex] at hr
  | n + 1, m, pc, ls, st, h, r, hr => by
    unfold zex at hr
    cases hs : zstp m pc ls st h with
    | none => rw [hs] at hr; simp at hr
    | some q =>
      rw [hs] at hr
      unfold zstp at hs
      cases hc : zcod m pc with
      | none => rw [hc] at hs; simp at hs
      | some w =>
        obtain ⟨i, len, a, b, pos, nn⟩ := w
        rw [hc] at hs
        simp only [zst1] at hs
        cases hp : zp1 i a nn pc ls st with
        | some q1 =>
          rw [hp] at hs
          simp only [Option.some.injEq] at hs
          subst hs
          exact zex_grow n _ _ _ _ _ _ hr
        | none =>
          rw [hp] at hs
          simp only at hs
          cases hh : zh1 i a b pc ls st h with
          | some q1 =>
            rw [hh] at hs
            simp only [Option.some.injEq] at hs
            subst hs
            have g1 := zh1_grow hh
            have g2 := zex_grow n _ _ _ _ _ _ hr
            exact ⟨Nat.le_trans g1.1 g2.1, Nat.le_trans g1.2 g2.2⟩
          | none =>
            rw [hh] at hs
            simp only at hs
            match q, hs, hr with
            | .inl q, hs, hr => exact (zc1_inl hs).elim
            | .inr (.inl q), hs, hr =>
              simp only [Option.some.injEq] at hr
              subst hr
              rw [zc1_ret hs]
              exact ⟨Nat.le_refl _, Nat.le_refl _⟩
            | .inr (.inr (k, as, q)), hs, hr =>
              have e : q.2.2.2 = h := by
                clear hr hc
                cases i <;> simp only [zc1] at hs <;> (repeat' split at hs) <;> first | (cases hs; done) | (cases hs; rfl)
              simp only at hr
              cases hx : zex n k 0 (zent k as) [] q.2.2.2 with
              | none => rw [hx] at hr; simp at hr
              | some r1 =>
                rw [hx] at hr
                have g1 := zex_grow n _ _ _ _ _ _ hx
                have g2 := zex_grow n _ _ _ _ _ _ hr
                rw [e] at g1
                exact ⟨Nat.le_trans g1.1 g2.1, Nat.le_trans g1.2 g2.2⟩
def zFin (k pc : Nat) (st : List zV) (r : Option zV) (h : zH) : Prop := ∃ (i : Instr) (len a b pos : Nat) (n : Int) (al : zLs), zcod k pc = some (i, len, a, b, pos, n) ∧ zc1 k i a b pc al st h = some (.inr (.inl (r, h)))
def zInn (l : Launch) (G : zg) (n : Nat) : Prop := ∀ (k pc : Nat) (al : zLs) (st : List zV) (h h1 : zH) (r : Option zV) (p : Program) (e : Env) (R : Room) (s : State) (m : MethodId) (args : Array Value) (below : List Frame) (meth : Method) (c : Code) (H : Heap) (locs : List Loc) (cells slots : Nat) (Q : State → Prop) (ls : Array Slot), zCx G k p R s m args meth c → zex n k pc al st h = some (r, h1) → zWd G h H → va_S (zAf G) s.heap H locs → zxl G ls (zL k) al → cells + (zn h1 - zn h) ≤ R.cells → slots + (zs h1 - zs h) ≤ R.slots →
  (∀ (pc' : Nat) (st' : List zV) (ls' : Array Slot) (H' : Heap) (locs' : List Loc), zFin k pc' st' r h1 → zWd G h1 H' → va_S (zAf G) s.heap H' locs' → W p l e R s m args below meth c H' locs' (cells + (zn h1 - zn h)) (slots + (zs h1 - zs h)) Q (F0 m pc' ls' (st'.map (zxv G)))) →
  W p l e R s m args below meth c H locs cells slots Q (F0 m pc ls (st.map (zxv G)))
section ZM
variable {p : Program} {l : Launch} {e : Env} {R : Room} {s : State} {m : MethodId} {args : Array Value} {below : List Frame} {meth : Method} {c : Code} {H : Heap} {locs : List Loc} {cells slots : Nat}
theorem zfin_met {G : zg} {k pc : Nat} {st : List zV} {r : Option zV} {h : zH} {ls : Array Slot} (hx : p.tables.exec = Jvm.exec) (hb : c.code = zB k) (hr : meth.sig.returnType = zRt k) (hlocks : meth.locks = false) (hf : zFin k pc st r h) (hW : zWd G h H) (hS : va_S (zAf G) s.heap H locs) : W p l e R s m args below meth c H locs cells slots (MQ below (zQc G (r.map (zxv G)) h) args s cells slots (zAf G)) (F0 m pc ls (st.map (zxv G))) := by
  obtain ⟨i, len, a, b, pos, n, al, hc, hz⟩ := hf
  cases i with
  | ireturn =>
    simp only [zc1] at hz
    split at hz
    · rename_i x
      split at hz
      · rename_i hrt
        cases hz
        rcases hrt with q | ⟨q, h01⟩
        · have hR : zRt k = some .int := by
            unfold zrt at q
            split at q <;> simp_all
          exact W.iret (v := x) hx hb (hr.trans hR) (fun t ht _ => ⟨rfl, by rw [ht]; exact hW, hS.F ht⟩) hS.2.2 (zcod_dec hc (by simp [zlen])) hlocks
        · have hR : zRt k = some .boolean := by
            unfold zrt at q
            split at q <;> simp_all
          exact W.zret (v := x) hx hb (hr.trans hR) (by rcases h01 with w | w <;> subst w <;> decide +kernel) (fun t ht _ => ⟨rfl, by rw [ht]; exact hW, hS.F ht⟩) hS.2.2 (zcod_dec hc (by simp [zlen])) hlocks
      · cases hz
    · cases hz
  | areturn =>
    simp only [zc1] at hz
    split at hz
    · rename_i x
      split at hz
      · rename_i q
        cases hz
        have hR : ∃ ty, zRt k = some ty ∧ ((∃ n, ty = .object n) ∨ ∃ t, ty = .array t) := by
          unfold zrt at q
          split at q <;> simp_all
        obtain ⟨ty, hR1, hR2⟩ := hR
        exact W.aret (v := zxr G x) hx hb (hr.trans hR1) hR2 (va_rf_or _) (fun t ht _ => ⟨rfl, by rw [ht]; exact hW, hS.F ht⟩) hS.2.2 (zcod_dec hc (by simp [zlen])) hlocks
      · cases hz
    · cases hz
  | return_ =>
    simp only [zc1] at hz
    split at hz
    · split at hz
      · rename_i q
        cases hz
        have hR : zRt k = none := by
          unfold zrt at q
          split at q <;> simp_all
        exact W.vret hx hb (hr.trans hR) (fun t ht _ => ⟨rfl, by rw [ht]; exact hW, hS.F ht⟩) hS.2.2 (zcod_dec hc (by simp [zlen])) hlocks
      · cases hz
    · cases hz
  | invokevirtual _ => simp only [zc1] at hz; (repeat' split at hz) <;> cases hz
  | invokespecial _ => simp only [zc1] at hz; (repeat' split at hz) <;> cases hz
  | invokestatic _ => simp only [zc1] at hz; (repeat' split at hz) <;> cases hz
  | _ => simp [zc1] at hz
end ZM
theorem zInn_met {l : Launch} {G : zg} {n : Nat} (hI : zInn l G n) {a : Nat} {as : List zV} {h h2 : zH} {r : Option zV} (hm : zmok a = true) (hlen : (zexp as).length ≤ zL a) (hz : zex n a 0 (zent a as) [] h = some (r, h2)) : zMet l G a as h r h2 := by
  refine va_MetF (cc := zB a) (maxL := zL a) (ret := zRt a) (zmok_pl hm) rfl ?_
  intro p e s m args below meth c s₁ B hml hv
  obtain ⟨rfl, hT, hst, hW⟩ := hv
  have hts0 := atoms_spec (ws := zwY a) B.pre
  have hts : ∀ w ∈ zG, w.before (as.map (zxv G)).toArray s = true := fun w hw => hts0 w (List.mem_cons_of_mem _ hw)
  have hown : s.vm.findClass (zY a).cls = some m.cls := findClass_of_methodNamed B.named
  have C : zCx G a p (zRm a (zn h2 - zn h) (zs h2 - zs h)) s m (as.map (zxv G)).toArray meth c := ⟨B.exec, B.bytes, hml, hown, hts, Nat.le_refl _, Nat.le_refl _, hT, hst, (name_of_methodNamed B.named B.method).1⟩
  rw [lg_entry_eq]
  refine hI a 0 (zent a as) [] h h2 r p e _ s m _ below meth c s.heap [] 0 0 _ _ C hz hW va_S.rf (zent_xl hlen) (by rw [Nat.zero_add]; exact Nat.le_refl _) (by rw [Nat.zero_add]; exact Nat.le_refl _) ?_
  intro pc' st' ls' H' locs' hf hW' hS'
  refine W.cs (Nat.zero_add _) (Nat.zero_add _) ?_
  exact zfin_met B.exec B.bytes B.returns B.notSynchronized hf hW' hS'
set_option maxHeartbeats 4000000 in
theorem zInn_all (l : Launch) (G : zg) : ∀ n, zInn l G n := by
  intro n
  induction n with
  | zero =>
    intro k pc al st h h1 r p e R s m args below meth c H locs cells slots Q ls C hz
    simp [zex] at hz
  | succ n ih =>
    intro k pc al st h h1 r p e R s m args below meth c H locs cells slots Q ls C hz hW hS hl hrc hrs hfin
    unfold zex at hz
    cases hs : zstp k pc al st h with
    | none => rw [hs] at hz; simp at hz
    | some q =>
      rw [hs] at hz
      unfold zstp at hs
      cases hc : zcod k pc with
      | none => rw [hc] at hs; simp at hs
      | some w =>
        obtain ⟨i, len, a, b, pos, nn⟩ := w
        rw [hc] at hs
        simp only [zst1] at hs
        cases hp : zp1 i a nn pc al st with
        | some q1 =>
          rw [hp] at hs
          simp only [Option.some.injEq] at hs
          subst hs
          obtain ⟨pc1, al1, st1⟩ := q1
          exact zp1_sound C hS hc hp hl (fun ls' hl' => ih k pc1 al1 st1 h h1 r p e R s m args below meth c H locs cells slots Q ls' C hz hW hS hl' hrc hrs hfin)
        | none =>
          rw [hp] at hs
          simp only at hs
          cases hh : zh1 i a b pc al st h with
          | some q1 =>
            rw [hh] at hs
            simp only [Option.some.injEq] at hs
            subst hs
            obtain ⟨pc1, al1, st1, h2⟩ := q1
            have g1 := zh1_grow hh
            have g2 := zex_grow n _ _ _ _ _ _ hz
            dsimp only at g1 g2 hz
            refine zh1_sound C hW hS hc hh hl.1 ⟨by omega, by omega⟩ (fun e1 _ _ H1 locs1 w1 s1 => ?_)
            subst e1
            refine ih k pc1 al1 st1 h2 h1 r p e R s m args below meth c H1 locs1 _ _ Q ls C hz w1 s1 hl (by omega) (by omega) ?_
            intro pc' st' ls' H' locs' hf hW' hS'
            refine W.cs ?_ ?_ (hfin pc' st' ls' H' locs' hf hW' hS')
            · omega
            · omega
          | none =>
            rw [hh] at hs
            simp only at hs
            match q, hs, hz with
            | .inl q, hs, hz => exact (zc1_inl hs).elim
            | .inr (.inl q), hs, hz =>
              simp only [Option.some.injEq] at hz
              have e1 := zc1_ret hs
              subst hz
              dsimp only at e1
              subst e1
              refine W.cs ?_ ?_ (hfin pc st ls H locs ⟨i, len, a, b, pos, nn, al, hc, hs⟩ hW hS)
              · omega
              · omega
            | .inr (.inr (k1, as, pc1, al1, st1, h2)), hs, hz =>
              simp only at hz
              cases hx : zex n k1 0 (zent k1 as) [] h2 with
              | none => rw [hx] at hz; simp at hz
              | some r1 =>
                rw [hx] at hz
                obtain ⟨r2, h3⟩ := r1
                have g1 := zex_grow n _ _ _ _ _ _ hx
                have g2 := zex_grow n _ _ _ _ _ _ hz
                dsimp only at g1 g2 hz
                have cont : h2 = h → al1 = al → pc1 = pc + 3 → ∀ (H1 : Heap) (locs1 : List Loc), zWd G h3 H1 → va_S (zAf G) s.heap H1 locs1 → W p l e R s m args below meth c H1 locs1 (cells + (zn h3 - zn h)) (slots + (zs h3 - zs h)) Q (F0 m (pc + 3) ls ((r2.map (zxv G)).toList ++ st1.map (zxv G))) := by
                  intro e1 e2 e3 H1 locs1 w1 s1
                  subst e1; subst e2; subst e3
                  have hmap : (r2.map (zxv G)).toList ++ st1.map (zxv G) = (r2.toList ++ st1).map (zxv G) := by cases r2 <;> simp
                  rw [hmap]
                  refine ih k (pc + 3) al1 (r2.toList ++ st1) h3 h1 r p e R s m args below meth c H1 locs1 _ _ Q ls C hz w1 s1 hl (by omega) (by omega) ?_
                  intro pc' st' ls' H' locs' hf hW' hS'
                  refine W.cs ?_ ?_ (hfin pc' st' ls' H' locs' hf hW' hS')
                  · omega
                  · omega
                have hck := zcod_chk hc
                cases i with
                | invokevirtual idx =>
                  simp only [zc1] at hs
                  split at hs
                  · rename_i as1 o st2 hpop
                    split at hs
                    · rename_i hok
                      simp only [Option.some.injEq, Sum.inr.injEq, Prod.mk.injEq] at hs
                      obtain ⟨e1, e2, e3, e4, e5, e6⟩ := hs
                      subst e1; subst e2; subst e3; subst e4; subst e5; subst e6
                      obtain ⟨c1, c2, c3⟩ := zchk_vi hck
                      obtain ⟨p1, p2⟩ := zpop_at hpop G
                      rw [p2]
                      have hM := zInn_met ih (zrok_all c1).1 hok.2.2.2.2 hx
                      exact zW_call (zrunV (p := p) (l := l) (e := e) (below := below) (As := as1.map (zxv G)) (rest := st2.map (zxv G)) C hS hW c1 c2 c3 ⟨hok.1, hok.2.1, hok.2.2.1⟩ hM (by rw [List.length_map]; exact p1) hl.1 (by rw [zcs_cat]; exact hok.2.2.2.1) (zcod_dec hc (by simp [zlen])) ⟨by omega, by omega⟩) hS (cont rfl rfl rfl)
                    · cases hs
                  · cases hs
                | invokespecial idx =>
                  simp only [zc1] at hs
                  split at hs
                  · cases hs
                  · rename_i hne
                    split at hs
                    · rename_i as1 o st2 hpop
                      split at hs
                      · rename_i hok
                        simp only [Option.some.injEq, Sum.inr.injEq, Prod.mk.injEq] at hs
                        obtain ⟨e1, e2, e3, e4, e5, e6⟩ := hs
                        subst e1; subst e2; subst e3; subst e4; subst e5; subst e6
                        obtain ⟨c1, c2, c3⟩ := zchk_sp hck hne
                        obtain ⟨p1, p2⟩ := zpop_at hpop G
                        rw [p2]
                        have hM := zInn_met ih (zrok_all c1).1 hok.2 hx
                        exact zW_call (zrunI (p := p) (l := l) (e := e) (below := below) (As := as1.map (zxv G)) (rest := st2.map (zxv G)) C hS hW c1 c2 c3 hM (by rw [List.length_map]; exact p1) hl.1 (by rw [zcs_cat]; exact hok.1) (zcod_dec hc (by simp [zlen])) ⟨by omega, by omega⟩) hS (cont rfl rfl rfl)
                      · cases hs
                    · cases hs
                | invokestatic idx =>
                  simp only [zc1] at hs
                  split at hs
                  · cases hs
                  · rename_i hne
                    split at hs
                    · rename_i as1 st2 hpop
                      split at hs
                      · rename_i hok
                        simp only [Option.some.injEq, Sum.inr.injEq, Prod.mk.injEq] at hs
                        obtain ⟨e1, e2, e3, e4, e5, e6⟩ := hs
                        subst e1; subst e2; subst e3; subst e4; subst e5; subst e6
                        obtain ⟨c1, c2, c3⟩ := zchk_st hck (fun q => hne (Or.inl q))
                        obtain ⟨p1, p2⟩ := zpop_at hpop G
                        rw [p2]
                        have hM := zInn_met ih (zrok_all c1).1 hok.2 hx
                        exact zW_call (zrunS (p := p) (l := l) (e := e) (below := below) (As := as1.map (zxv G)) (rest := st2.map (zxv G)) C hS hW c1 c2 c3 hM (by rw [List.length_map]; exact p1) hl.1 (by rw [zcs_cat]; exact hok.1) (zcod_dec hc (by simp [zlen])) ⟨by omega, by omega⟩) hS (cont rfl rfl rfl)
                      · cases hs
                    · cases hs
                | ireturn => simp only [zc1] at hs; (repeat' split at hs) <;> cases hs
                | areturn => simp only [zc1] at hs; (repeat' split at hs) <;> cases hs
                | return_ => simp only [zc1] at hs; (repeat' split at hs) <;> cases hs
                | _ => simp [zc1] at hs
