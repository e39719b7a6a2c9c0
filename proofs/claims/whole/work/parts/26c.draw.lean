/-- the rows that a new lot has in the reference -/
def KA (a : Nat) : Prop := a = 23 ∨ a = 24 ∨ a = 25 ∨ a = 28 ∨ a = 30 ∨ a = 31 ∨ a = 32 ∨ a = 36
def nv (m : zH) (a j : Nat) : Int32 := if a = 23 then 2 * zi m 43 j else if a = 25 then zi m 44 j else if a = 28 ∨ a = 30 ∨ a = 36 then 0 else -1
def CB (m m1 : zH) (n l : Nat) : Prop := zn m1 = zn m ∧ zs m1 = zs m ∧ zk m1 = zk m ∧ zr m1 = zr m ∧ (∀ a, ¬ KA a → zi m1 a = zi m a) ∧ ∀ a j, KA a → zi m1 a j = if n ≤ j ∧ j < l then nv m a j else zi m a j
section ZDW
variable {hc hm h h' h1 h2 m m1 m' : zH} {n n' p s s' c t l j k a T : Nat} {x y : Int32} {f : Nat}
theorem RG_c2 {g v : Nat → Int32} (r : RG h g v n s) (C : ∀ l k, l < n → k < 4 → cf h' l k = cf h l k) (e1 : ∀ j, j < 320 → zi h' 14 j = zi h 14 j) (e2 : zi h' 15 = zi h 15) : RG h' g v n s := by
  obtain ⟨g1, g2, g3, g4⟩ := r
  refine ⟨fun l hl => ?_, fun j hj => by rw [e1 j hj]; exact g2 j hj, by rw [e2]; exact g3, by rw [e2]; exact g4⟩
  rw [C l 0 hl (by decide), C l 1 hl (by decide), C l 2 hl (by decide), C l 3 hl (by decide)]
  exact g1 l hl
theorem q42 (r : R hc hm n p s c t) (D : DX hc hm n s h m n' s') : ∃ h', zcall 42 [vR (some 13), vI (nI n), vI (nI s)] h = some (none, h') ∧ D7 hc h' n ∧ LW h' n ∧ (∀ j, j < 320 → zi h' 14 j = zi hc 14 j) ∧ zi h' 13 3 = nI s ∧ zn h' = zn h ∧ zs h' = zs h ∧ zi h' 9 = zi h 9 ∧ zi h' 15 = zi hc 15 := by
  obtain ⟨w0, rm, rk, rx, rmo, rl, rd, rh, rg, rb, bs, rt, ro⟩ := id r
  obtain ⟨⟨⟨d1, d2, d3, d4, d5, d6, d7, d8⟩, w, hnn, -⟩, hss, hs', C, -⟩ := D
  have h45 := w0.1.1
  obtain ⟨h1, v4, v5, v6, e1, A1, z1⟩ := w42 w.1 rg w0.2.1 rk.2.2.2.2.2.2.1 w.2.1 hs' C 320 0 h none none none (by omega) F1_rfl (fun j hj => by rw [if_neg (by omega)])
  rw [nI_0] at e1
  have A4 : Q4 h h1 := ⟨A1.1, A1.2.1, A1.2.2.1, A1.2.2.2.1, fun a r1 r2 r3 r4 => A1.2.2.2.2 a r4, by rw [A1.2.2.2.2 13 (by decide)], by rw [A1.2.2.2.2 9 (by decide)]⟩
  have w1 := Q4_LW A4 w
  have hz : zed h1 ≠ 16 := fun q => by
    obtain ⟨q1, q2, q3, q4⟩ := LW_ed w1
    rw [q, q3] at q2
    exact absurd q2 (by decide)
  obtain ⟨h2, e2, V⟩ := w42b (h := h1) (n := n) (s := s) (u4 := v4) (u5 := v5) (u6 := v6) hz (n' - n) n' h1 (by omega) ⟨rfl, rfl, rfl, fun _ _ => rfl, fun _ _ => rfl, w1, fun _ _ => rfl⟩
  obtain ⟨b1, b2, b3, b4, b5, w2, b7⟩ := V
  have ze2 : zed h2 = zed h := by
    rw [← Q4_ed A4]
    unfold zed
    rw [b5 16 (Ne.symm hz)]
  have k13 : (zk h2 13).1 ≠ 0 := by
    rw [w2.1.2.2.2.2.1]
    decide
  refine ⟨zui h2 13 3 (nI s), ?_, ⟨?_, fun a ha => ?_, fun a q1 q2 q3 q4 q5 q6 => ?_, fun a q1 q2 q3 => ?_, ?_, fun l hl => ?_, ?_⟩, LW_ui w2 k13, fun j hj => ?_, zi_us, b1.trans A1.1, b2.trans A1.2.1, ?_, ?_⟩
  · rw [e42, e1, b42_2, Cr13_0 w1.1, Cl14 w1.1, if_neg (nI_nlt (Nat.le_refl _) (by decide)), Cr13_2 w1.1, Lv16 w1, Lsz w1, sub1, e2]
  · show zn hc ≤ zn h2
    rw [b1, A1.1]; exact d1
  · show zk h2 a = zk hc a
    rw [b3, A1.2.2.1]; exact d2 a ha
  · rw [zi_f (Ne.symm q4), b4 a q6, A1.2.2.2.2 a q5]
    exact d3 a q1 q2 q3 q4 q5 q6
  · show zr h2 a = zr hc a
    rw [b5 a (by rw [Q4_ed A4]; rcases d7 with q | q <;> omega), A1.2.2.2.1]
    exact d4 a q1 q2 q3
  · rw [zi_uk (by decide), b4 13 (by decide), A1.2.2.2.2 13 (by decide)]
    exact d5
  · show zla h2 l = zla hc l
    rw [b7 l hl, Q4_la A4]
    exact d6 l hl
  · show zed h2 = zed hc ∨ zn hc ≤ zed h2
    rw [ze2]; exact d7
  · rw [zi_ua (by decide), b4 14 (by decide)]
    exact z1 j hj
  · rw [zi_f (by decide), b4 9 (by decide), A1.2.2.2.2 9 (by decide)]
  · rw [zi_f (by decide), b4 15 (by decide), A1.2.2.2.2 15 (by decide)]
    exact d3 15 (by omega) (by decide) (by decide) (by decide) (by decide) (by decide)
theorem w114a (H : MS m) (e5 : zi m 19 5 = nI n) : ∀ (k c : Nat) (m1 : zH), c + k = 320 → F1 21 m m1 → (∀ j, j < c → zi m1 21 j = zi m 22 j) → ∃ m', zev 114 26 [some (vR (some 19)), some (vI x), some (vI (nI c))] [] m1 = zev 114 56 [some (vR (some 19)), some (vI x), some (vI (nI n))] [] m' ∧ F1 21 m m' ∧ ∀ j, j < 320 → zi m' 21 j = zi m 22 j := by
  intro k
  induction k with
  | zero =>
    intro c m1 hk A e
    have : c = 320 := by omega
    subst this
    have M := F1_ms A H
    refine ⟨m1, ?_, A, e⟩
    rw [b114_26, if_neg (by decide), Mi_lots M, A.2.2.2.2 19 (by decide), e5]
  | succ k ih =>
    intro c m1 hk A e
    have M := F1_ms A H
    rw [b114_26, if_pos (show nI c < (320 : Int32) from nI_lt (a := c) (b := 320) (by omega) (by decide)), Mr_cells M, Mr_draft M, Ma_draft M (by omega), A.2.2.2.2 22 (by decide), Mt_cells M (by omega), nI_1]
    refine ih (c + 1) _ (by omega) (F1_u A) (fun j hj => ?_)
    rw [zi_ui]
    by_cases q : j = c
    · rw [if_pos ⟨rfl, q⟩, q]
    · rw [if_neg (fun q2 => q q2.2)]
      exact e j (by omega)
theorem CB_ms (A : CB m m1 n l) (H : MS m) : MS m1 := by
  obtain ⟨a1, -, a3, a4, -⟩ := A
  unfold MS
  rw [a1, a3, a4]
  exact H
theorem w114b (H : MS m) (e36 : zi m 19 36 = nI n') (e16 : zi m 19 16 = nI s) (hn' : n' ≤ 40) (g : ∀ l, n ≤ l → l < n' → zi m 44 l = 0 ∨ zi m 44 l = 1) : ∀ (k l : Nat) (m1 : zH), l + k = n' → n ≤ l → CB m m1 n l → ∃ m', zev 114 56 [some (vR (some 19)), some (vI x), some (vI (nI l))] [] m1 = zev 114 143 [some (vR (some 19)), some (vI x), some (vI (nI s))] [] m' ∧ CB m m' n n' := by
  have n19 : ¬ KA 19 := by unfold KA; omega
  have n43 : ¬ KA 43 := by unfold KA; omega
  have n44 : ¬ KA 44 := by unfold KA; omega
  intro k
  induction k with
  | zero =>
    intro l m1 hk hl A
    have : l = n' := by omega
    subst this
    have M := CB_ms A H
    have z19 := A.2.2.2.2.1 19 n19
    refine ⟨m1, ?_, A⟩
    rw [b114_56, Mi_newLots M, z19, e36, if_neg (nI_nlt (by omega) (by omega)), Mi_streets M, z19, e16]
  | succ k ih =>
    intro l m1 hk hl A
    have M := CB_ms A H
    have z19 := A.2.2.2.2.1 19 n19
    have z43 := A.2.2.2.2.1 43 n43
    have z44 := A.2.2.2.2.1 44 n44
    have hl40 : l < 40 := by omega
    have hg := g l hl (by omega)
    generalize hz : zi m 44 l = z at hg
    have M1 : MS (zui m1 23 l (2 * zi m 43 l)) := M
    have M2 : MS (zui (zui m1 23 l (2 * zi m 43 l)) 25 l z) := M
    have M3 : MS (zui (zui (zui m1 23 l (2 * zi m 43 l)) 25 l z) 24 l (-1)) := M
    have M4 : MS (zui (zui (zui (zui m1 23 l (2 * zi m 43 l)) 25 l z) 24 l (-1)) 28 l 0) := M
    have M5 : MS (zui (zui (zui (zui (zui m1 23 l (2 * zi m 43 l)) 25 l z) 24 l (-1)) 28 l 0) 30 l 0) := M
    have M6 : MS (zui (zui (zui (zui (zui (zui m1 23 l (2 * zi m 43 l)) 25 l z) 24 l (-1)) 28 l 0) 30 l 0) 31 l (-1)) := M
    have M7 : MS (zui (zui (zui (zui (zui (zui (zui m1 23 l (2 * zi m 43 l)) 25 l z) 24 l (-1)) 28 l 0) 30 l 0) 31 l (-1)) 32 l (-1)) := M
    rw [b114_56, Mi_newLots M, z19, e36, if_pos (nI_lt (by omega) (by omega)), Mr_halves M, Mr_newCells M, Ma_newCells M hl40, z43, Mt_halves M hl40, Mr_isGift M1, Mr_newGift M1, Ma_newGift M1 hl40, zi_ua (by decide), z44, hz, Mt_isGift M1 hl40 hg, Mr_owners M2, Mt_owners M2 hl40, Mr_partsLeft M3, Mt_partsLeft M3 hl40, Mr_yearsOut M4, Mt_yearsOut M4 hl40, Mr_gotDay M5, Mt_gotDay M5 hl40, Mr_condition M6, Mt_condition M6 hl40, Mr_bidMany M7, Mt_bidMany M7 hl40, nI_1]
    refine ih (l + 1) _ (by omega) (by omega) ⟨A.1, A.2.1, A.2.2.1, A.2.2.2.1, fun a ha => ?_, fun a j ha => ?_⟩
    · unfold KA at ha
      rw [zi_f (by omega), zi_f (by omega), zi_f (by omega), zi_f (by omega), zi_f (by omega), zi_f (by omega), zi_f (by omega), zi_f (by omega)]
      exact A.2.2.2.2.1 a ha
    · have e0 := A.2.2.2.2.2 a j ha
      have key : zi (zui (zui (zui (zui (zui (zui (zui (zui m1 23 l (2 * zi m 43 l)) 25 l z) 24 l (-1)) 28 l 0) 30 l 0) 31 l (-1)) 32 l (-1)) 36 l 0) a j = if j = l then nv m a l else zi m1 a j := by
        rw [zi_ui, zi_ui, zi_ui, zi_ui, zi_ui, zi_ui, zi_ui, zi_ui]
        unfold nv
        unfold KA at ha
        rcases ha with q | q | q | q | q | q | q | q <;> subst q <;> by_cases qj : j = l <;> simp [qj, hz]
      rw [key, e0]
      by_cases q : j = l
      · rw [if_pos q, if_pos (by omega), q]
      · rw [if_neg q]
        by_cases q2 : n ≤ j ∧ j < l
        · rw [if_pos q2, if_pos (by omega)]
        · rw [if_neg q2, if_neg (by omega)]
theorem w114c (H : MS m) (e36 : zi m 19 36 = nI n') (e37 : zi m 19 37 = nI s') (hs' : s' ≤ 12) : ∀ (k u : Nat) (m1 : zH), u + k = s' → F1 33 m m1 → (∀ j, zi m1 33 j = if s ≤ j ∧ j < u then 0 else zi m 33 j) → s ≤ u → ∃ m2, zev 114 143 [some (vR (some 19)), some (vI x), some (vI (nI u))] [] m1 = some (some (vI (nI n')), zui (zui m2 19 5 (nI n')) 19 16 (nI s')) ∧ F1 33 m m2 ∧ ∀ j, zi m2 33 j = if s ≤ j ∧ j < s' then 0 else zi m 33 j := by
  intro k
  induction k with
  | zero =>
    intro u m1 hk A e hs
    have : u = s' := by omega
    subst this
    have M := F1_ms A H
    have z19 := A.2.2.2.2 19 (by decide)
    have M1 : MS (zui m1 19 5 (nI n')) := M
    have M2 : MS (zui (zui m1 19 5 (nI n')) 19 16 (nI u)) := M
    refine ⟨m1, ?_, A, e⟩
    rw [b114_143, Mi_newStreets M, z19, e37, if_neg (nI_nlt (by omega) (by omega)), Mi_newLots M, z19, e36, Mp_lots M, Mi_newStreets M1, zi_uk (by decide), z19, e37, Mp_streets M1, Mi_lots M2, zi_uk (by decide), zi_us]
  | succ k ih =>
    intro u m1 hk A e hs
    have M := F1_ms A H
    have z19 := A.2.2.2.2 19 (by decide)
    rw [b114_143, Mi_newStreets M, z19, e37, if_pos (nI_lt (by omega) (by omega)), Mr_vacated M, Mt_vacated M (by omega) (Or.inl rfl), nI_1]
    refine ih (u + 1) _ (by omega) (F1_u A) (fun j => ?_) (by omega)
    rw [zi_ui, e j]
    by_cases q : j = u
    · rw [if_pos ⟨rfl, q⟩, if_pos (by omega)]
    · rw [if_neg (fun q2 => q q2.2)]
      by_cases q2 : s ≤ j ∧ j < u
      · rw [if_pos q2, if_pos (by omega)]
      · rw [if_neg q2, if_neg (by omega)]
end ZDW
