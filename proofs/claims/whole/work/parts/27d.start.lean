theorem m120 (o : Int32) (i : Nat) (m : zH) (ho : ¬ o = 115) (hi : i < 5) : zcall 120 [vI o, vI (nI i)] m = some (some (vI (nI (loB i))), m) ∧ zcall 121 [vI o, vI (nI i)] m = some (some (vI (nI (hiB i))), m) := by
  rw [e120, e121, if_neg ho, if_neg ho]
  rcases (show i = 0 ∨ i = 1 ∨ i = 2 ∨ i = 3 ∨ i = 4 by omega) with q | q | q | q | q <;> subst q <;> exact ⟨rfl, rfl⟩
theorem m115 (i : Nat) (m : zH) (hi : i < 4) : zcall 120 [vI 115, vI (nI i)] m = some (some (vI (nI (loS i))), m) ∧ zcall 121 [vI 115, vI (nI i)] m = some (some (vI (nI (hiS i))), m) := by
  rw [e120, e121]
  rcases (show i = 0 ∨ i = 1 ∨ i = 2 ∨ i = 3 by omega) with q | q | q | q <;> subst q <;> exact ⟨rfl, rfl⟩
theorem start_ok (L : Nat) (xs : Nat → Int32) (hL : L ≤ 2048) : ∃ h, zcall 159 [vR (some 0)] (zh0 L xs) = zev 159 18 [some (vR (some 0)), some (vR (some 8)), some (vR (some 19)), some (vI (nI 0))] [] h ∧ LI L h 0 := by
  obtain ⟨h, c0, n, s, hCS, hz, k0, k16, r16, ⟨y1, y2, y3, y4, y5, y6⟩, y12, y15, y14⟩ := start_c L xs
  generalize g1 : znw h 9 41 = h1
  have n1 : zn h1 = 20 := by rw [← g1, zn_nw, n]
  have s1 : zs h1 = 625 := by rw [← g1, zs_nw, s]
  have kk1 : zk h1 19 = (9, 41) := by rw [← g1, zk_nw, n, if_pos rfl]
  have lo1 : ∀ a, a < 19 → zk h1 a = zk h a ∧ zi h1 a = zi h a ∧ zr h1 a = zr h a := fun a ha => by
    refine ⟨by rw [← g1, zk_nw, n, if_neg (by omega)], funext fun k => by rw [← g1, zi_nw, n, if_neg (by omega)], funext fun k => by rw [← g1, zr_nw, n, if_neg (by omega)]⟩
  have z19 : ∀ k, zi h1 19 k = 0 := fun k => by rw [← g1, zi_nw, n, if_pos rfl]
  obtain ⟨h2, c111, n2, s2, MSe, lo2, f19, f21⟩ := start_m n1 kk1
  have lo : ∀ a, a < 19 → zk h2 a = zk h a ∧ zi h2 a = zi h a ∧ zr h2 a = zr h a := fun a ha => ⟨(lo2 a ha).1.trans (lo1 a ha).1, (lo2 a ha).2.1.trans (lo1 a ha).2.1, (lo2 a ha).2.2.trans (lo1 a ha).2.2⟩
  have m19 : ∀ k, k ≠ 2 → zi h2 19 k = 0 := fun k hk => by rw [f19 k, if_neg hk, z19]
  have CSe : CS h2 := hCS h2 (by omega) (fun a ha => (lo a ha).1) (fun a ha => (lo a ha).2.2)
  have ed : zed h2 = 7 := by
    unfold zed
    rw [(lo 16 (by decide)).2.2, r16]
    rfl
  have W : LW h2 0 := by
    refine ⟨CSe, by omega, ⟨0, ?_⟩, Or.inl ed, fun l hl => absurd hl (by omega), fun l j hl => absurd hl (by omega)⟩
    rw [ed]
    exact ⟨by decide, by omega, by rw [(lo 16 (by decide)).1]; exact k16, by rw [(lo 16 (by decide)).2.2]; exact r16, by rw [(lo 16 (by decide)).2.1, y1, nI_0], Nat.le_refl _, by omega, by omega, C_7 CSe, Or.inl ⟨rfl, rfl⟩, fun i hi => absurd hi (by omega)⟩
  have a12 : ∀ k, zi h2 12 k = 0 := fun k => by rw [(lo 12 (by decide)).2.1]; exact y12 k
  have K : RK h2 h2 0 0 0 0 := by
    refine ⟨?_, ?_, ?_, by omega, ?_, ?_, by omega, ?_, ?_, ⟨0, by omega, ?_, ?_⟩, ?_, ?_, ?_, ?_, ?_, ⟨0, by omega, ?_, ?_⟩, ?_⟩
    · rw [m19 5 (by decide), nI_0]
    · rw [(lo 17 (by decide)).2.1, y2, nI_0]
    · rw [m19 18 (by decide), nI_0]
    · rw [(lo 13 (by decide)).2.1, y3, nI_0]
    · rw [m19 16 (by decide), nI_0]
    · rw [a12, nI_0]
    · rw [m19 31 (by decide), nI_0]
    · rw [a12, nI_0]
    · rw [m19 24 (by decide), nI_0]
    · rw [a12, m19 26 (by decide)]
    · rw [a12, m19 27 (by decide)]
    · rw [a12, m19 28 (by decide)]
    · rw [a12, m19 29 (by decide)]
    · rw [a12, m19 30 (by decide)]
    · rw [(lo 13 (by decide)).2.1, y4, nI_0]
    · rw [m19 25 (by decide), nI_0]
    · rw [(lo 9 (by decide)).2.1, y6, f19 2, if_pos rfl]
  have X : RX h2 h2 := ⟨0, by omega, by rw [(lo 9 (by decide)).2.1, y5, nI_0], by rw [m19 1 (by decide), nI_0], fun i hi => absurd hi (by omega)⟩
  have G : RG h2 (zi h2 21) (zi h2 33) 0 0 := ⟨fun l hl => absurd hl (by omega), fun j hj => Or.inl ⟨f21 j hj, by rw [(lo 14 (by decide)).2.1]; exact y14 j hj⟩, fun u hu => absurd hu (by omega), fun u _ _ => by rw [(lo 15 (by decide)).2.1]; exact y15 u⟩
  have O : RO h2 h2 0 0 0 := ⟨by unfold mow; simp, by omega, by omega, by omega⟩
  have t : ∀ a k, a < 8 → zi h2 a k = zsv xs a k := fun a k ha => by rw [(lo a (by omega)).2.1]; exact hz a k ha
  refine ⟨h2, ?_, ⟨0, 0, 0, 0, W, MSe, K, X, fun q hq => absurd hq (by omega), fun l hl => absurd hl (by omega), fun l hl => absurd hl (by omega), ⟨fun q hq => absurd hq (by omega), fun l hl => absurd hl (by omega)⟩, G, fun l hl => absurd hl (by omega), ⟨fun l j hl => absurd hl (by omega), fun l hl => absurd hl (by omega)⟩, ⟨fun l hl => absurd hl (by omega), fun k hk => absurd hk (by omega)⟩, O⟩, ?_, by rw [(lo 0 (by decide)).1]; exact k0, hL⟩
  · rw [e159, no_k (t := 8) (N := 2) rfl, show zn (zh0 L xs) = 8 from rfl, ul_s, cV_k c0, no_k (t := 9) (N := 41) rfl, n, g1, ul_s, cV_k c111, nI_0]
  · obtain ⟨-, -, -, -, -, -, -, -, -, -, -, -, -, -, -, -, -, -, -, -, -, c1', c2', c3', c4', c5', c6', -⟩ := CSe
    refine ⟨⟨by decide, by decide, by decide, by decide, c1', c2', fun i hi => ?_, fun i m hi => m120 98 i m (by decide) hi⟩, ⟨by decide, by decide, by decide, by decide, c3', c4', fun i hi => ?_, fun i m hi => m115 i m hi⟩, ⟨by decide, by decide, by decide, by decide, c5', c6', fun i hi => ?_, fun i m hi => m120 103 i m (by decide) (by omega)⟩⟩
    · rw [t 1 i (by decide), t 2 i (by decide)]
      rcases (show i = 0 ∨ i = 1 ∨ i = 2 ∨ i = 3 ∨ i = 4 by omega) with q | q | q | q | q <;> subst q <;> exact ⟨rfl, rfl, by decide, by decide⟩
    · rw [t 3 i (by decide), t 4 i (by decide)]
      rcases (show i = 0 ∨ i = 1 ∨ i = 2 ∨ i = 3 by omega) with q | q | q | q <;> subst q <;> exact ⟨rfl, rfl, by decide, by decide⟩
    · rw [t 5 i (by decide), t 6 i (by decide)]
      rcases (show i = 0 ∨ i = 1 ∨ i = 2 ∨ i = 3 by omega) with q | q | q | q <;> subst q <;> exact ⟨rfl, rfl, by decide, by decide⟩
/-- the law on the small machine: true, within the room -/
theorem zlaw_ok (L : Nat) (xs : Nat → Int32) (hL : L ≤ 2048) : ∃ h1, zev 159 0 (zent 159 [vR (some 0)]) [] (zh0 L xs) = some (some (vI 1), h1) ∧ zn h1 ≤ 600008 ∧ zs h1 ≤ 7302250 := by
  obtain ⟨h, e, I⟩ := start_ok L xs hL
  obtain ⟨h1, t', e1, ⟨⟨n, p, s, c, r⟩, -⟩, ht⟩ := w159 (L := L) 512 0 h (by omega) (by omega) I
  refine ⟨h1, ?_, ?_, ?_⟩
  · have e2 : zcall 159 [vR (some 0)] (zh0 L xs) = some (some (vI 1), h1) := e.trans e1
    exact e2
  · obtain ⟨o1, o2, o3, o4⟩ := r.2.2.2.2.2.2.2.2.2.2.2.2
    omega
  · obtain ⟨o1, o2, o3, o4⟩ := r.2.2.2.2.2.2.2.2.2.2.2.2
    omega
