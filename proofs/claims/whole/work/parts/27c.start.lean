/-- a row made and kept by the reference -/
def al_h (h : zH) (q : Nat × Nat × Nat) : zH := zur (znw h q.1 q.2.1) 19 q.2.2 (some (zn h))
def AH : List (Nat × Nat × Nat) → zH → zH
  | [], h => h
  | q :: r, h => AH r (al_h h q)
noncomputable def EV (f : zH → Option (Option zV × zH)) : List (Nat × Nat × Nat) → zH → Option (Option zV × zH)
  | [], h => f h
  | q :: r, h => zna h q.1 (nI q.2.1) fun x h2 => zpR h2 (some 19) 9 q.2.2 x fun h3 => EV f r h3
section ZST
variable {h : zH} {q : Nat × Nat × Nat} {b k i : Nat}
theorem al_k1 : zk (al_h h q) b = if b = zn h then (q.1, q.2.1) else zk h b := rfl
theorem al_i1 : zi (al_h h q) b k = if b = zn h then 0 else zi h b k := rfl
theorem al_r1 : zr (al_h h q) b k = if b = 19 ∧ k = q.2.2 then some (zn h) else if b = zn h then none else zr h b k := rfl
theorem al_n1 : zn (al_h h q) = zn h + 1 := rfl
theorem al_s1 : zs (al_h h q) = zs h + q.2.1 := rfl
theorem EV_ok (f : zH → Option (Option zV × zH)) : ∀ (Ls : List (Nat × Nat × Nat)) (h : zH), 19 < zn h → zk h 19 = (9, 41) → (Ls.all fun q => decide (q.2.1 ≤ 100000 ∧ q.2.2 < 41)) = true → EV f Ls h = f (AH Ls h)
  | [], h, _, _, _ => rfl
  | q :: r, h, hn, hk, ha => by
    rw [List.all_cons, Bool.and_eq_true, decide_eq_true_eq] at ha
    have e : EV f (q :: r) h = zna h q.1 (nI q.2.1) fun x h2 => zpR h2 (some 19) 9 q.2.2 x fun h3 => EV f r h3 := rfl
    have hk2 : zk (znw h q.1 q.2.1) 19 = (9, 41) := by rw [zk_nw, if_neg (by omega)]; exact hk
    rw [e, na_k rfl ha.1.1, pR_k (by decide) (by rw [zn_nw]; omega) hk2 ha.1.2]
    exact EV_ok f r (al_h h q) (by rw [al_n1]; omega) (by rw [al_k1, if_neg (by omega)]; exact hk) ha.2
theorem AH_n : ∀ (Ls : List (Nat × Nat × Nat)) (h : zH), zn (AH Ls h) = zn h + Ls.length
  | [], h => rfl
  | q :: r, h => by
    show zn (AH r (al_h h q)) = _
    rw [AH_n r, al_n1, List.length_cons]
    omega
theorem AH_s : ∀ (Ls : List (Nat × Nat × Nat)) (h : zH), zs (AH Ls h) = zs h + (Ls.map fun q => q.2.1).sum
  | [], h => rfl
  | q :: r, h => by
    show zs (AH r (al_h h q)) = _
    rw [AH_s r, al_s1, List.map_cons, List.sum_cons]
    omega
theorem AH_lk : ∀ (Ls : List (Nat × Nat × Nat)) (h : zH) (b : Nat), b < zn h → zk (AH Ls h) b = zk h b ∧ (∀ k, zi (AH Ls h) b k = zi h b k) ∧ (b ≠ 19 → ∀ k, zr (AH Ls h) b k = zr h b k)
  | [], h, b, _ => ⟨rfl, fun _ => rfl, fun _ _ => rfl⟩
  | q :: r, h, b, hb => by
    obtain ⟨e1, e2, e3⟩ := AH_lk r (al_h h q) b (by rw [al_n1]; omega)
    refine ⟨?_, fun k => ?_, fun h19 k => ?_⟩
    · show zk (AH r (al_h h q)) b = _
      rw [e1, al_k1, if_neg (by omega)]
    · show zi (AH r (al_h h q)) b k = _
      rw [e2, al_i1, if_neg (by omega)]
    · show zr (AH r (al_h h q)) b k = _
      rw [e3 h19, al_r1, if_neg (fun q => h19 q.1), if_neg (by omega)]
theorem AH_row : ∀ (Ls : List (Nat × Nat × Nat)) (h : zH) (i : Nat) (q : Nat × Nat × Nat), Ls[i]? = some q → zk (AH Ls h) (zn h + i) = (q.1, q.2.1)
  | [], h, i, q, e => by simp at e
  | p :: r, h, 0, q, e => by
    have e' : p = q := by simpa using e
    subst e'
    show zk (AH r (al_h h p)) (zn h + 0) = _
    rw [Nat.add_zero, (AH_lk r (al_h h p) (zn h) (by rw [al_n1]; omega)).1, al_k1, if_pos rfl]
  | p :: r, h, i + 1, q, e => by
    have := AH_row r (al_h h p) i q (by simpa using e)
    rw [al_n1] at this
    show zk (AH r (al_h h p)) (zn h + (i + 1)) = _
    rw [show zn h + (i + 1) = zn h + 1 + i by omega]
    exact this
theorem AH_kp : ∀ (Ls : List (Nat × Nat × Nat)) (h : zH) (k : Nat), 19 < zn h → (Ls.all fun q => decide (q.2.2 ≠ k)) = true → zr (AH Ls h) 19 k = zr h 19 k
  | [], h, k, _, _ => rfl
  | q :: r, h, k, hn, ha => by
    rw [List.all_cons, Bool.and_eq_true, decide_eq_true_eq] at ha
    show zr (AH r (al_h h q)) 19 k = _
    rw [AH_kp r (al_h h q) k (by rw [al_n1]; omega) ha.2, al_r1, if_neg (fun q2 => ha.1 q2.2.symm), if_neg (by omega)]
theorem AH_19 : ∀ (Ls : List (Nat × Nat × Nat)) (h : zH) (i : Nat) (q : Nat × Nat × Nat), 19 < zn h → Ls[i]? = some q → ((Ls.drop (i + 1)).all fun p => decide (p.2.2 ≠ q.2.2)) = true → zr (AH Ls h) 19 q.2.2 = some (zn h + i)
  | [], h, i, q, _, e, _ => by simp at e
  | p :: r, h, 0, q, hn, e, ha => by
    have e' : p = q := by simpa using e
    subst e'
    show zr (AH r (al_h h p)) 19 p.2.2 = _
    rw [AH_kp r (al_h h p) p.2.2 (by rw [al_n1]; omega) (by simpa using ha), al_r1, if_pos ⟨rfl, rfl⟩, Nat.add_zero]
  | p :: r, h, i + 1, q, hn, e, ha => by
    have := AH_19 r (al_h h p) i q (by rw [al_n1]; omega) (by simpa using e) (by simpa using ha)
    rw [al_n1] at this
    show zr (AH r (al_h h p)) 19 q.2.2 = _
    rw [show zn h + (i + 1) = zn h + 1 + i by omega]
    exact this
end ZST
def rws : List (Nat × Nat × Nat) := [(100, 320, 3), (100, 320, 4), (100, 40, 6), (100, 40, 7), (102, 40, 8), (100, 40, 9), (100, 40, 10), (100, 40, 11), (100, 40, 12), (100, 40, 13), (100, 40, 14), (100, 40, 15), (102, 12, 17), (100, 20, 19), (100, 20, 20), (100, 40, 21), (100, 800, 22), (100, 800, 23), (100, 4000, 32), (100, 4000, 33), (100, 4000, 34), (100, 5, 38), (100, 40, 39), (102, 40, 40)]
theorem start_m {h : zH} (hn : zn h = 20) (hk : zk h 19 = (9, 41)) : ∃ h', zcall 111 [vR (some 19)] h = some (none, h') ∧ zn h' = 45 ∧ zs h' = zs h + 15017 ∧ MS h' ∧ (∀ a, a < 19 → zk h' a = zk h a ∧ zi h' a = zi h a ∧ zr h' a = zr h a) ∧ (∀ k, zi h' 19 k = if k = 2 then -1 else zi h 19 k) ∧ ∀ j, j < 320 → zi h' 21 j = -1 := by
  generalize g3 : zui (zur (znw h 100 200) 19 0 (some 20)) 19 2 (-1) = h3
  have n3 : zn h3 = 21 := by rw [← g3, zn_ui, zn_ur, zn_nw, hn]
  have s3 : zs h3 = zs h + 200 := by rw [← g3, zs_ui, zs_ur, zs_nw]
  have k3 : ∀ b, zk h3 b = if b = 20 then (100, 200) else zk h b := fun b => by rw [← g3, zk_ui, zk_ur, zk_nw, hn]
  have i3 : ∀ b k, zi h3 b k = if b = 19 ∧ k = 2 then -1 else if b = 20 then 0 else zi h b k := fun b k => by rw [← g3, zi_ui, zi_ur, zi_nw, hn]
  have r3 : ∀ b k, zr h3 b k = if b = 19 ∧ k = 0 then some 20 else if b = 20 then none else zr h b k := fun b k => by rw [← g3, zr_ui, zr_ur, zr_nw, hn]
  have hk3 : zk h3 19 = (9, 41) := by rw [k3, if_neg (by decide)]; exact hk
  have hk1 : zk (znw h 100 200) 19 = (9, 41) := by rw [zk_nw, if_neg (by omega)]; exact hk
  have e : zcall 111 [vR (some 19)] h = EV (fun h76 => zev 111 218 [some (vR (some 19)), some (vI (nI 0))] [] h76) rws h3 := by
    rw [e111, ul_s, na_k (x := 200) (N := 200) rfl (by decide), hn, pR_k (by decide) (by rw [zn_nw]; omega) hk1 (by decide), pI_k (by decide) (by rw [zn_ur, zn_nw]; omega) (by rw [zk_ur]; exact hk1) (by decide), g3]
    rfl
  rw [e, EV_ok _ rws h3 (by omega) hk3 (by decide)]
  have low := fun b hb => AH_lk rws h3 b hb
  have hrow : ∀ i q, rws[i]? = some q → zk (AH rws h3) (21 + i) = (q.1, q.2.1) := fun i q e => by
    have := AH_row rws h3 i q e
    rw [n3] at this
    exact this
  have h19 : ∀ i q, rws[i]? = some q → ((rws.drop (i + 1)).all fun p => decide (p.2.2 ≠ q.2.2)) = true → zr (AH rws h3) 19 q.2.2 = some (21 + i) := fun i q e ha => by
    have := AH_19 rws h3 i q (by omega) e ha
    rw [n3] at this
    exact this
  have nA : zn (AH rws h3) = 45 := by rw [AH_n, n3]; rfl
  have sA : zs (AH rws h3) = zs h + 15017 := by
    have q1 : (rws.map fun q => q.2.1).sum = 14817 := by decide
    have q2 := AH_s rws h3
    omega
  have MSm : MS (AH rws h3) := ⟨by rw [nA]; decide, by rw [(low 19 (by omega)).1]; exact hk3, by rw [AH_kp rws h3 0 (by omega) (by decide), r3, if_pos ⟨rfl, rfl⟩], h19 0 (100, 320, 3) rfl (by decide), h19 1 (100, 320, 4) rfl (by decide), h19 2 (100, 40, 6) rfl (by decide), h19 3 (100, 40, 7) rfl (by decide), h19 4 (102, 40, 8) rfl (by decide), h19 5 (100, 40, 9) rfl (by decide), h19 6 (100, 40, 10) rfl (by decide), h19 7 (100, 40, 11) rfl (by decide), h19 8 (100, 40, 12) rfl (by decide), h19 9 (100, 40, 13) rfl (by decide), h19 10 (100, 40, 14) rfl (by decide), h19 11 (100, 40, 15) rfl (by decide), h19 12 (102, 12, 17) rfl (by decide), h19 13 (100, 20, 19) rfl (by decide), h19 14 (100, 20, 20) rfl (by decide), h19 15 (100, 40, 21) rfl (by decide), h19 16 (100, 800, 22) rfl (by decide), h19 17 (100, 800, 23) rfl (by decide), h19 18 (100, 4000, 32) rfl (by decide), h19 19 (100, 4000, 33) rfl (by decide), h19 20 (100, 4000, 34) rfl (by decide), h19 21 (100, 5, 38) rfl (by decide), h19 22 (100, 40, 39) rfl (by decide), h19 23 (102, 40, 40) rfl (by decide), by rw [(low 20 (by omega)).1, k3, if_pos rfl], hrow 0 (100, 320, 3) rfl, hrow 1 (100, 320, 4) rfl, hrow 2 (100, 40, 6) rfl, hrow 3 (100, 40, 7) rfl, hrow 4 (102, 40, 8) rfl, hrow 5 (100, 40, 9) rfl, hrow 6 (100, 40, 10) rfl, hrow 7 (100, 40, 11) rfl, hrow 8 (100, 40, 12) rfl, hrow 9 (100, 40, 13) rfl, hrow 10 (100, 40, 14) rfl, hrow 11 (100, 40, 15) rfl, hrow 12 (102, 12, 17) rfl, hrow 13 (100, 20, 19) rfl, hrow 14 (100, 20, 20) rfl, hrow 15 (100, 40, 21) rfl, hrow 16 (100, 800, 22) rfl, hrow 17 (100, 800, 23) rfl, hrow 18 (100, 4000, 32) rfl, hrow 19 (100, 4000, 33) rfl, hrow 20 (100, 4000, 34) rfl, hrow 21 (100, 5, 38) rfl, hrow 22 (100, 40, 39) rfl, hrow 23 (102, 40, 40) rfl⟩
  obtain ⟨h', g, F, z⟩ := w111 MSm 320 0 (AH rws h3) (by omega) F1_rfl (fun j hj => absurd hj (by omega))
  refine ⟨h', g, F.1.trans nA, F.2.1.trans sA, F1_ms F MSm, fun a ha => ⟨?_, ?_, ?_⟩, fun k => ?_, z⟩
  · rw [F.2.2.1, (low a (by omega)).1, k3, if_neg (by omega)]
  · rw [F.2.2.2.2 a (by omega)]
    funext k
    rw [(low a (by omega)).2.1, i3, if_neg (by omega), if_neg (by omega)]
  · rw [F.2.2.2.1]
    funext k
    rw [(low a (by omega)).2.2 (by omega), r3, if_neg (by omega), if_neg (by omega)]
  · rw [F.2.2.2.2 19 (by decide), (low 19 (by omega)).2.1, i3, if_neg (show ¬ (19 : Nat) = 20 by decide)]
    by_cases q : k = 2
    · rw [if_pos ⟨rfl, q⟩, if_pos q]
    · rw [if_neg (fun q2 => q q2.2), if_neg q]
