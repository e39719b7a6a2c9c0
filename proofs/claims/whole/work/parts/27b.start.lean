def zsk (L a : Nat) : Nat × Nat := match a with
  | 0 => (100, L)
  | 1 => (100, 5)
  | 2 => (100, 5)
  | 3 => (100, 4)
  | 4 => (100, 4)
  | 5 => (100, 4)
  | 6 => (100, 4)
  | _ => (103, 0)
def zsv (xs : Nat → Int32) (a j : Nat) : Int32 := match a with
  | 0 => xs j
  | 1 => ([0, 0, 1, 1, 1] : List Int32).getD j 0
  | 2 => ([19, 15, 9, 9, 9] : List Int32).getD j 0
  | 3 => ([0, 0, 0, 1] : List Int32).getD j 0
  | 4 => ([19, 15, 1, 20] : List Int32).getD j 0
  | 5 => ([0, 0, 1, 1] : List Int32).getD j 0
  | 6 => ([19, 15, 9, 9] : List Int32).getD j 0
  | _ => 0
/-- the heap at the law's entry: the script and the tables -/
def zh0 (L : Nat) (xs : Nat → Int32) : zH := (8, 0, zsk L, zsv xs, fun _ _ => none)
theorem w8 {h : zH} (hn : 14 < zn h) (hk : zk h 14 = (100, 320)) : ∀ (k i : Nat) (h1 : zH), i + k = 320 → F1 14 h h1 → (∀ j, j < i → zi h1 14 j = -1) → ∃ h2, zev 8 5 [some (vR (some 14)), some (vI (-1)), some (vI (nI i)), some (vI (nI 320))] [] h1 = some (none, h2) ∧ F1 14 h h2 ∧ ∀ j, j < 320 → zi h2 14 j = -1 := by
  intro k
  induction k with
  | zero =>
    intro i h1 hi A e
    have : i = 320 := by omega
    subst this
    exact ⟨h1, by rw [b8_5, if_neg (nI_nlt (Nat.le_refl _) (by decide))], A, e⟩
  | succ k ih =>
    intro i h1 hi A e
    rw [b8_5, if_pos (nI_lt (by omega) (by decide)), tI_k (by decide) (by rw [A.1]; exact hn) (by rw [A.2.2.1]; exact hk) (by omega) (by decide), nI_1]
    refine ih (i + 1) _ (by omega) (F1_u A) (fun j hj => ?_)
    rw [zi_ui]
    by_cases q : j = i
    · rw [if_pos ⟨rfl, q⟩]
    · rw [if_neg (fun q2 => q q2.2)]
      exact e j (by omega)
theorem w111 {m : zH} (H : MS m) : ∀ (k i : Nat) (m1 : zH), i + k = 320 → F1 21 m m1 → (∀ j, j < i → zi m1 21 j = -1) → ∃ m2, zev 111 218 [some (vR (some 19)), some (vI (nI i))] [] m1 = some (none, m2) ∧ F1 21 m m2 ∧ ∀ j, j < 320 → zi m2 21 j = -1 := by
  intro k
  induction k with
  | zero =>
    intro i m1 hi A e
    have : i = 320 := by omega
    subst this
    exact ⟨m1, by rw [b111_218, if_neg (by decide)], A, e⟩
  | succ k ih =>
    intro i m1 hi A e
    have M := F1_ms A H
    rw [b111_218, if_pos (show nI i < (320 : Int32) from nI_lt (a := i) (b := 320) (by omega) (by decide)), Mr_cells M, Mt_cells M (by omega), nI_1]
    refine ih (i + 1) _ (by omega) (F1_u A) (fun j hj => ?_)
    rw [zi_ui]
    by_cases q : j = i
    · rw [if_pos ⟨rfl, q⟩]
    · rw [if_neg (fun q2 => q q2.2)]
      exact e j (by omega)
theorem na_k {h : zH} {t N : Nat} {x : Int32} {f : Option Nat → zH → Option (Option zV × zH)} (hx : x = nI N) (hN : N ≤ 100000) : zna h t x f = f (some (zn h)) (znw h t N) := by
  subst hx
  unfold zna
  rw [if_pos ⟨nI_nn (by omega), by rw [nI_clamp (by omega)]; exact hN⟩, nI_clamp (by omega)]
theorem no_k {h : zH} {t N : Nat} {f : Option Nat → zH → Option (Option zV × zH)} (hN : (zcl t).2.2 = N) : zno h t f = f (some (zn h)) (znw h t N) := by
  subst hN
  rfl
theorem start_c (L : Nat) (xs : Nat → Int32) : ∃ h, zcall 0 [vR (some 8)] (znw (zh0 L xs) 8 2) = some (none, h) ∧ zn h = 19 ∧ zs h = 584 ∧ (∀ h', 45 ≤ zn h' → (∀ a, a < 19 → zk h' a = zk h a) → (∀ a, a < 19 → zr h' a = zr h a) → CS h') ∧ (∀ a k, a < 8 → zi h a k = zsv xs a k) ∧ zk h 0 = (100, L) ∧ zk h 16 = (0, 3) ∧ zr h 16 1 = some 7 ∧ (zi h 16 2 = 0 ∧ zi h 17 1 = 0 ∧ zi h 13 3 = 0 ∧ zi h 13 4 = 0 ∧ zi h 9 2 = 0 ∧ zi h 9 3 = -1) ∧ (∀ k, zi h 12 k = 0) ∧ (∀ k, zi h 15 k = 0) ∧ ∀ j, j < 320 → zi h 14 j = -1 := by
  generalize g0 : zh0 L xs = h0
  have n0 : zn h0 = 8 := by rw [← g0]; rfl
  have s0 : zs h0 = 0 := by rw [← g0]; rfl
  have k0 : ∀ b, zk h0 b = zsk L b := fun b => by rw [← g0]; rfl
  have i0 : ∀ b k, zi h0 b k = zsv xs b k := fun b k => by rw [← g0]; rfl
  generalize g1 : znw h0 8 2 = h1
  have n1 : zn h1 = 9 := by rw [← g1, zn_nw, n0]
  have s1 : zs h1 = zs h0 + 2 := by rw [← g1, zs_nw]
  have k1 : ∀ b, zk h1 b = if b = 8 then (8, 2) else zk h0 b := fun b => by rw [← g1, zk_nw, n0]
  have i1 : ∀ b k, zi h1 b k = if b = 8 then 0 else zi h0 b k := fun b k => by rw [← g1, zi_nw, n0]
  have r1 : ∀ b k, zr h1 b k = if b = 8 then none else zr h0 b k := fun b k => by rw [← g1, zr_nw, n0]
  generalize g2 : znw h1 6 6 = h2
  have n2 : zn h2 = 10 := by rw [← g2, zn_nw, n1]
  have s2 : zs h2 = zs h1 + 6 := by rw [← g2, zs_nw]
  have k2 : ∀ b, zk h2 b = if b = 9 then (6, 6) else zk h1 b := fun b => by rw [← g2, zk_nw, n1]
  have i2 : ∀ b k, zi h2 b k = if b = 9 then 0 else zi h1 b k := fun b k => by rw [← g2, zi_nw, n1]
  have r2 : ∀ b k, zr h2 b k = if b = 9 then none else zr h1 b k := fun b k => by rw [← g2, zr_nw, n1]
  generalize g3 : znw h2 101 200 = h3
  have n3 : zn h3 = 11 := by rw [← g3, zn_nw, n2]
  have s3 : zs h3 = zs h2 + 200 := by rw [← g3, zs_nw]
  have k3 : ∀ b, zk h3 b = if b = 10 then (101, 200) else zk h2 b := fun b => by rw [← g3, zk_nw, n2]
  have i3 : ∀ b k, zi h3 b k = if b = 10 then 0 else zi h2 b k := fun b k => by rw [← g3, zi_nw, n2]
  have r3 : ∀ b k, zr h3 b k = if b = 10 then none else zr h2 b k := fun b k => by rw [← g3, zr_nw, n2]
  generalize g4 : zur h3 9 0 (some 10) = h4
  have n4 : zn h4 = 11 := by rw [← g4, zn_ur, n3]
  have s4 : zs h4 = zs h3 := by rw [← g4, zs_ur]
  have k4 : ∀ b, zk h4 b = zk h3 b := fun b => by rw [← g4, zk_ur]
  have i4 : ∀ b k, zi h4 b k = zi h3 b k := fun b k => by rw [← g4, zi_ur]
  have r4 : ∀ b k, zr h4 b k = if b = 9 ∧ k = 0 then some 10 else zr h3 b k := fun b k => by rw [← g4, zr_ur]
  generalize g5 : znw h4 100 5 = h5
  have n5 : zn h5 = 12 := by rw [← g5, zn_nw, n4]
  have s5 : zs h5 = zs h4 + 5 := by rw [← g5, zs_nw]
  have k5 : ∀ b, zk h5 b = if b = 11 then (100, 5) else zk h4 b := fun b => by rw [← g5, zk_nw, n4]
  have i5 : ∀ b k, zi h5 b k = if b = 11 then 0 else zi h4 b k := fun b k => by rw [← g5, zi_nw, n4]
  have r5 : ∀ b k, zr h5 b k = if b = 11 then none else zr h4 b k := fun b k => by rw [← g5, zr_nw, n4]
  generalize g6 : zur h5 9 1 (some 11) = h6
  have n6 : zn h6 = 12 := by rw [← g6, zn_ur, n5]
  have s6 : zs h6 = zs h5 := by rw [← g6, zs_ur]
  have k6 : ∀ b, zk h6 b = zk h5 b := fun b => by rw [← g6, zk_ur]
  have i6 : ∀ b k, zi h6 b k = zi h5 b k := fun b k => by rw [← g6, zi_ur]
  have r6 : ∀ b k, zr h6 b k = if b = 9 ∧ k = 1 then some 11 else zr h5 b k := fun b k => by rw [← g6, zr_ur]
  generalize g7 : zui h6 9 3 (-1) = h7
  have n7 : zn h7 = 12 := by rw [← g7, zn_ui, n6]
  have s7 : zs h7 = zs h6 := by rw [← g7, zs_ui]
  have k7 : ∀ b, zk h7 b = zk h6 b := fun b => by rw [← g7, zk_ui]
  have i7 : ∀ b k, zi h7 b k = if b = 9 ∧ k = 3 then (-1) else zi h6 b k := fun b k => by rw [← g7, zi_ui]
  have r7 : ∀ b k, zr h7 b k = zr h6 b k := fun b k => by rw [← g7, zr_ui]
  have c2 : zcall 2 [vR (some 9)] h2 = some (none, h7) := by
    rw [e2, ul_s, na_k (h := h2) (x := 200) (N := 200) rfl (by decide), n2, g3, pR_k (h := h3) (by decide) (by rw [n3]; decide) (by rw [k3, if_neg (by decide), k2, if_pos rfl]) (by decide), g4, na_k (h := h4) (x := 5) (N := 5) rfl (by decide), n4, g5, pR_k (h := h5) (by decide) (by rw [n5]; decide) (by rw [k5, if_neg (by decide), k4, k3, if_neg (by decide), k2, if_pos rfl]) (by decide), g6, pI_k (h := h6) (by decide) (by rw [n6]; decide) (by rw [k6, k5, if_neg (by decide), k4, k3, if_neg (by decide), k2, if_pos rfl]) (by decide), g7]
  generalize g8 : zur h7 8 0 (some 9) = h8
  have n8 : zn h8 = 12 := by rw [← g8, zn_ur, n7]
  have s8 : zs h8 = zs h7 := by rw [← g8, zs_ur]
  have k8 : ∀ b, zk h8 b = zk h7 b := fun b => by rw [← g8, zk_ur]
  have i8 : ∀ b k, zi h8 b k = zi h7 b k := fun b k => by rw [← g8, zi_ur]
  have r8 : ∀ b k, zr h8 b k = if b = 8 ∧ k = 0 then some 9 else zr h7 b k := fun b k => by rw [← g8, zr_ur]
  generalize g9 : znw h8 3 9 = h9
  have n9 : zn h9 = 13 := by rw [← g9, zn_nw, n8]
  have s9 : zs h9 = zs h8 + 9 := by rw [← g9, zs_nw]
  have k9 : ∀ b, zk h9 b = if b = 12 then (3, 9) else zk h8 b := fun b => by rw [← g9, zk_nw, n8]
  have i9 : ∀ b k, zi h9 b k = if b = 12 then 0 else zi h8 b k := fun b k => by rw [← g9, zi_nw, n8]
  have r9 : ∀ b k, zr h9 b k = if b = 12 then none else zr h8 b k := fun b k => by rw [← g9, zr_nw, n8]
  generalize g10 : znw h9 5 5 = h10
  have n10 : zn h10 = 14 := by rw [← g10, zn_nw, n9]
  have s10 : zs h10 = zs h9 + 5 := by rw [← g10, zs_nw]
  have k10 : ∀ b, zk h10 b = if b = 13 then (5, 5) else zk h9 b := fun b => by rw [← g10, zk_nw, n9]
  have i10 : ∀ b k, zi h10 b k = if b = 13 then 0 else zi h9 b k := fun b k => by rw [← g10, zi_nw, n9]
  have r10 : ∀ b k, zr h10 b k = if b = 13 then none else zr h9 b k := fun b k => by rw [← g10, zr_nw, n9]
  generalize g11 : znw h10 100 320 = h11
  have n11 : zn h11 = 15 := by rw [← g11, zn_nw, n10]
  have s11 : zs h11 = zs h10 + 320 := by rw [← g11, zs_nw]
  have k11 : ∀ b, zk h11 b = if b = 14 then (100, 320) else zk h10 b := fun b => by rw [← g11, zk_nw, n10]
  have i11 : ∀ b k, zi h11 b k = if b = 14 then 0 else zi h10 b k := fun b k => by rw [← g11, zi_nw, n10]
  have r11 : ∀ b k, zr h11 b k = if b = 14 then none else zr h10 b k := fun b k => by rw [← g11, zr_nw, n10]
  generalize g12 : zur h11 13 0 (some 14) = h12
  have n12 : zn h12 = 15 := by rw [← g12, zn_ur, n11]
  have s12 : zs h12 = zs h11 := by rw [← g12, zs_ur]
  have k12 : ∀ b, zk h12 b = zk h11 b := fun b => by rw [← g12, zk_ur]
  have i12 : ∀ b k, zi h12 b k = zi h11 b k := fun b k => by rw [← g12, zi_ur]
  have r12 : ∀ b k, zr h12 b k = if b = 13 ∧ k = 0 then some 14 else zr h11 b k := fun b k => by rw [← g12, zr_ur]
  generalize g13 : znw h12 102 12 = h13
  have n13 : zn h13 = 16 := by rw [← g13, zn_nw, n12]
  have s13 : zs h13 = zs h12 + 12 := by rw [← g13, zs_nw]
  have k13 : ∀ b, zk h13 b = if b = 15 then (102, 12) else zk h12 b := fun b => by rw [← g13, zk_nw, n12]
  have i13 : ∀ b k, zi h13 b k = if b = 15 then 0 else zi h12 b k := fun b k => by rw [← g13, zi_nw, n12]
  have r13 : ∀ b k, zr h13 b k = if b = 15 then none else zr h12 b k := fun b k => by rw [← g13, zr_nw, n12]
  generalize g14 : zur h13 13 1 (some 15) = h14
  have n14 : zn h14 = 16 := by rw [← g14, zn_ur, n13]
  have s14 : zs h14 = zs h13 := by rw [← g14, zs_ur]
  have k14 : ∀ b, zk h14 b = zk h13 b := fun b => by rw [← g14, zk_ur]
  have i14 : ∀ b k, zi h14 b k = zi h13 b k := fun b k => by rw [← g14, zi_ur]
  have r14 : ∀ b k, zr h14 b k = if b = 13 ∧ k = 1 then some 15 else zr h13 b k := fun b k => by rw [← g14, zr_ur]
  generalize g15 : znw h14 0 3 = h15
  have n15 : zn h15 = 17 := by rw [← g15, zn_nw, n14]
  have s15 : zs h15 = zs h14 + 3 := by rw [← g15, zs_nw]
  have k15 : ∀ b, zk h15 b = if b = 16 then (0, 3) else zk h14 b := fun b => by rw [← g15, zk_nw, n14]
  have i15 : ∀ b k, zi h15 b k = if b = 16 then 0 else zi h14 b k := fun b k => by rw [← g15, zi_nw, n14]
  have r15 : ∀ b k, zr h15 b k = if b = 16 then none else zr h14 b k := fun b k => by rw [← g15, zr_nw, n14]
  generalize g16 : zui h15 16 0 0 = h16
  have n16 : zn h16 = 17 := by rw [← g16, zn_ui, n15]
  have s16 : zs h16 = zs h15 := by rw [← g16, zs_ui]
  have k16 : ∀ b, zk h16 b = zk h15 b := fun b => by rw [← g16, zk_ui]
  have i16 : ∀ b k, zi h16 b k = if b = 16 ∧ k = 0 then 0 else zi h15 b k := fun b k => by rw [← g16, zi_ui]
  have r16 : ∀ b k, zr h16 b k = zr h15 b k := fun b k => by rw [← g16, zr_ui]
  generalize g17 : zur h16 16 1 (some 7) = h17
  have n17 : zn h17 = 17 := by rw [← g17, zn_ur, n16]
  have s17 : zs h17 = zs h16 := by rw [← g17, zs_ur]
  have k17 : ∀ b, zk h17 b = zk h16 b := fun b => by rw [← g17, zk_ur]
  have i17 : ∀ b k, zi h17 b k = zi h16 b k := fun b k => by rw [← g17, zi_ur]
  have r17 : ∀ b k, zr h17 b k = if b = 16 ∧ k = 1 then some 7 else zr h16 b k := fun b k => by rw [← g17, zr_ur]
  have c7 : zcall 7 [vR (some 16)] h15 = some (none, h15) := by rw [e7, ul_s]
  have c6 : zcall 6 [vR (some 16)] h15 = some (none, h16) := by rw [e6, ul_s, cV_k c7, pI_k (h := h15) (by decide) (by rw [n15]; decide) (by rw [k15, if_pos rfl]) (by decide), g16]
  have c5 : zcall 5 [vR (some 16)] h15 = some (none, h17) := by rw [e5, ul_s, cV_k c6, pR_k (h := h16) (by decide) (by rw [n16]; decide) (by rw [k16, k15, if_pos rfl]) (by decide), g17]
  generalize g18 : zur h17 13 2 (some 16) = h18
  have n18 : zn h18 = 17 := by rw [← g18, zn_ur, n17]
  have s18 : zs h18 = zs h17 := by rw [← g18, zs_ur]
  have k18 : ∀ b, zk h18 b = zk h17 b := fun b => by rw [← g18, zk_ur]
  have i18 : ∀ b k, zi h18 b k = zi h17 b k := fun b k => by rw [← g18, zi_ur]
  have r18 : ∀ b k, zr h18 b k = if b = 13 ∧ k = 2 then some 16 else zr h17 b k := fun b k => by rw [← g18, zr_ur]
  obtain ⟨h19, g19, F19, z19⟩ := w8 (h := h18) (by rw [n18]; decide) (by rw [k18, k17, k16, k15, if_neg (by decide), k14, k13, if_neg (by decide), k12, k11, if_pos rfl]) 320 0 h18 rfl F1_rfl (fun j hj => absurd hj (Nat.not_lt_zero j))
  rw [nI_0] at g19
  have n19 : zn h19 = 17 := F19.1.trans n18
  have s19 : zs h19 = zs h18 := F19.2.1
  have k19 : ∀ b, zk h19 b = zk h18 b := fun b => by rw [F19.2.2.1]
  have i19 : ∀ b, b ≠ 14 → ∀ k, zi h19 b k = zi h18 b k := fun b hb k => by rw [F19.2.2.2.2 b hb]
  have r19 : ∀ b k, zr h19 b k = zr h18 b k := fun b k => by rw [F19.2.2.2.1]
  have c8 : zcall 8 [vR (some 14), vI (-1)] h18 = some (none, h19) := by
    rw [e8, al_k (by rw [n18]; decide) (by rw [k18, k17, k16, k15, if_neg (by decide), k14, k13, if_neg (by decide), k12, k11, if_pos rfl]) (by decide)]
    exact g19
  have c4 : zcall 4 [vR (some 13)] h10 = some (none, h19) := by
    rw [e4, ul_s, na_k (h := h10) (x := 320) (N := 320) rfl (by decide), n10, g11, pR_k (h := h11) (by decide) (by rw [n11]; decide) (by rw [k11, if_neg (by decide), k10, if_pos rfl]) (by decide), g12, na_k (h := h12) (x := 12) (N := 12) rfl (by decide), n12, g13, pR_k (h := h13) (by decide) (by rw [n13]; decide) (by rw [k13, if_neg (by decide), k12, k11, if_neg (by decide), k10, if_pos rfl]) (by decide), g14, no_k (h := h14) (t := 0) (N := 3) rfl, n14, g15, ul_s, cV_k c5, pR_k (h := h17) (by decide) (by rw [n17]; decide) (by rw [k17, k16, k15, if_neg (by decide), k14, k13, if_neg (by decide), k12, k11, if_neg (by decide), k10, if_pos rfl]) (by decide), g18, gR_k (h := h18) (by decide) (by rw [n18]; decide) (by rw [k18, k17, k16, k15, if_neg (by decide), k14, k13, if_neg (by decide), k12, k11, if_neg (by decide), k10, if_pos rfl]) (by decide), r18, if_neg (by decide), r17, if_neg (by decide), r16, r15, if_neg (by decide), r14, if_neg (by decide), r13, if_neg (by decide), r12, if_pos ⟨rfl, rfl⟩, cV_k c8]
  generalize g20 : zur h19 12 0 (some 13) = h20
  have n20 : zn h20 = 17 := by rw [← g20, zn_ur, n19]
  have s20 : zs h20 = zs h19 := by rw [← g20, zs_ur]
  have k20 : ∀ b, zk h20 b = zk h19 b := fun b => by rw [← g20, zk_ur]
  have i20 : ∀ b k, zi h20 b k = zi h19 b k := fun b k => by rw [← g20, zi_ur]
  have r20 : ∀ b k, zr h20 b k = if b = 12 ∧ k = 0 then some 13 else zr h19 b k := fun b k => by rw [← g20, zr_ur]
  generalize g21 : znw h20 4 2 = h21
  have n21 : zn h21 = 18 := by rw [← g21, zn_nw, n20]
  have s21 : zs h21 = zs h20 + 2 := by rw [← g21, zs_nw]
  have k21 : ∀ b, zk h21 b = if b = 17 then (4, 2) else zk h20 b := fun b => by rw [← g21, zk_nw, n20]
  have i21 : ∀ b k, zi h21 b k = if b = 17 then 0 else zi h20 b k := fun b k => by rw [← g21, zi_nw, n20]
  have r21 : ∀ b k, zr h21 b k = if b = 17 then none else zr h20 b k := fun b k => by rw [← g21, zr_nw, n20]
  generalize g22 : znw h21 100 20 = h22
  have n22 : zn h22 = 19 := by rw [← g22, zn_nw, n21]
  have s22 : zs h22 = zs h21 + 20 := by rw [← g22, zs_nw]
  have k22 : ∀ b, zk h22 b = if b = 18 then (100, 20) else zk h21 b := fun b => by rw [← g22, zk_nw, n21]
  have i22 : ∀ b k, zi h22 b k = if b = 18 then 0 else zi h21 b k := fun b k => by rw [← g22, zi_nw, n21]
  have r22 : ∀ b k, zr h22 b k = if b = 18 then none else zr h21 b k := fun b k => by rw [← g22, zr_nw, n21]
  generalize g23 : zur h22 17 0 (some 18) = h23
  have n23 : zn h23 = 19 := by rw [← g23, zn_ur, n22]
  have s23 : zs h23 = zs h22 := by rw [← g23, zs_ur]
  have k23 : ∀ b, zk h23 b = zk h22 b := fun b => by rw [← g23, zk_ur]
  have i23 : ∀ b k, zi h23 b k = zi h22 b k := fun b k => by rw [← g23, zi_ur]
  have r23 : ∀ b k, zr h23 b k = if b = 17 ∧ k = 0 then some 18 else zr h22 b k := fun b k => by rw [← g23, zr_ur]
  have c9 : zcall 9 [vR (some 17)] h21 = some (none, h23) := by
    rw [e9, ul_s, na_k (h := h21) (x := 20) (N := 20) rfl (by decide), n21, g22, pR_k (h := h22) (by decide) (by rw [n22]; decide) (by rw [k22, if_neg (by decide), k21, if_pos rfl]) (by decide), g23]
  generalize g24 : zur h23 12 1 (some 17) = h24
  have n24 : zn h24 = 19 := by rw [← g24, zn_ur, n23]
  have s24 : zs h24 = zs h23 := by rw [← g24, zs_ur]
  have k24 : ∀ b, zk h24 b = zk h23 b := fun b => by rw [← g24, zk_ur]
  have i24 : ∀ b k, zi h24 b k = zi h23 b k := fun b k => by rw [← g24, zi_ur]
  have r24 : ∀ b k, zr h24 b k = if b = 12 ∧ k = 1 then some 17 else zr h23 b k := fun b k => by rw [← g24, zr_ur]
  have c3 : zcall 3 [vR (some 12)] h9 = some (none, h24) := by
    rw [e3, ul_s, no_k (h := h9) (t := 5) (N := 5) rfl, n9, g10, ul_s, cV_k c4, pR_k (h := h19) (by decide) (by rw [n19]; decide) (by rw [k19, k18, k17, k16, k15, if_neg (by decide), k14, k13, if_neg (by decide), k12, k11, if_neg (by decide), k10, if_neg (by decide), k9, if_pos rfl]) (by decide), g20, no_k (h := h20) (t := 4) (N := 2) rfl, n20, g21, ul_s, cV_k c9, pR_k (h := h23) (by decide) (by rw [n23]; decide) (by rw [k23, k22, if_neg (by decide), k21, if_neg (by decide), k20, k19, k18, k17, k16, k15, if_neg (by decide), k14, k13, if_neg (by decide), k12, k11, if_neg (by decide), k10, if_neg (by decide), k9, if_pos rfl]) (by decide), g24]
  generalize g25 : zur h24 8 1 (some 12) = h25
  have n25 : zn h25 = 19 := by rw [← g25, zn_ur, n24]
  have s25 : zs h25 = zs h24 := by rw [← g25, zs_ur]
  have k25 : ∀ b, zk h25 b = zk h24 b := fun b => by rw [← g25, zk_ur]
  have i25 : ∀ b k, zi h25 b k = zi h24 b k := fun b k => by rw [← g25, zi_ur]
  have r25 : ∀ b k, zr h25 b k = if b = 8 ∧ k = 1 then some 12 else zr h24 b k := fun b k => by rw [← g25, zr_ur]
  have c0 : zcall 0 [vR (some 8)] h1 = some (none, h25) := by
    rw [e0, ul_s, no_k (h := h1) (t := 6) (N := 6) rfl, n1, g2, ul_s, cV_k c2, pR_k (h := h7) (by decide) (by rw [n7]; decide) (by rw [k7, k6, k5, if_neg (by decide), k4, k3, if_neg (by decide), k2, if_neg (by decide), k1, if_pos rfl]) (by decide), g8, no_k (h := h8) (t := 3) (N := 9) rfl, n8, g9, ul_s, cV_k c3, pR_k (h := h24) (by decide) (by rw [n24]; decide) (by rw [k24, k23, k22, if_neg (by decide), k21, if_neg (by decide), k20, k19, k18, k17, k16, k15, if_neg (by decide), k14, k13, if_neg (by decide), k12, k11, if_neg (by decide), k10, if_neg (by decide), k9, if_neg (by decide), k8, k7, k6, k5, if_neg (by decide), k4, k3, if_neg (by decide), k2, if_neg (by decide), k1, if_pos rfl]) (by decide), g25]
  refine ⟨h25, c0, n25, by rw [s25, s24, s23, s22, s21, s20, s19, s18, s17, s16, s15, s14, s13, s12, s11, s10, s9, s8, s7, s6, s5, s4, s3, s2, s1, s0], fun h' hn hk hr => ⟨hn, by rw [hk 8 (by decide), k25, k24, k23, k22, if_neg (by decide), k21, if_neg (by decide), k20, k19, k18, k17, k16, k15, if_neg (by decide), k14, k13, if_neg (by decide), k12, k11, if_neg (by decide), k10, if_neg (by decide), k9, if_neg (by decide), k8, k7, k6, k5, if_neg (by decide), k4, k3, if_neg (by decide), k2, if_neg (by decide), k1, if_pos rfl], by rw [hk 9 (by decide), k25, k24, k23, k22, if_neg (by decide), k21, if_neg (by decide), k20, k19, k18, k17, k16, k15, if_neg (by decide), k14, k13, if_neg (by decide), k12, k11, if_neg (by decide), k10, if_neg (by decide), k9, if_neg (by decide), k8, k7, k6, k5, if_neg (by decide), k4, k3, if_neg (by decide), k2, if_pos rfl], by rw [hk 12 (by decide), k25, k24, k23, k22, if_neg (by decide), k21, if_neg (by decide), k20, k19, k18, k17, k16, k15, if_neg (by decide), k14, k13, if_neg (by decide), k12, k11, if_neg (by decide), k10, if_neg (by decide), k9, if_pos rfl], by rw [hk 13 (by decide), k25, k24, k23, k22, if_neg (by decide), k21, if_neg (by decide), k20, k19, k18, k17, k16, k15, if_neg (by decide), k14, k13, if_neg (by decide), k12, k11, if_neg (by decide), k10, if_pos rfl], by rw [hk 17 (by decide), k25, k24, k23, k22, if_neg (by decide), k21, if_pos rfl], by rw [hr 8 (by decide), r25, if_neg (by decide), r24, if_neg (by decide), r23, if_neg (by decide), r22, if_neg (by decide), r21, if_neg (by decide), r20, if_neg (by decide), r19, r18, if_neg (by decide), r17, if_neg (by decide), r16, r15, if_neg (by decide), r14, if_neg (by decide), r13, if_neg (by decide), r12, if_neg (by decide), r11, if_neg (by decide), r10, if_neg (by decide), r9, if_neg (by decide), r8, if_pos ⟨rfl, rfl⟩], by rw [hr 8 (by decide), r25, if_pos ⟨rfl, rfl⟩], by rw [hr 9 (by decide), r25, if_neg (by decide), r24, if_neg (by decide), r23, if_neg (by decide), r22, if_neg (by decide), r21, if_neg (by decide), r20, if_neg (by decide), r19, r18, if_neg (by decide), r17, if_neg (by decide), r16, r15, if_neg (by decide), r14, if_neg (by decide), r13, if_neg (by decide), r12, if_neg (by decide), r11, if_neg (by decide), r10, if_neg (by decide), r9, if_neg (by decide), r8, if_neg (by decide), r7, r6, if_neg (by decide), r5, if_neg (by decide), r4, if_pos ⟨rfl, rfl⟩], by rw [hr 9 (by decide), r25, if_neg (by decide), r24, if_neg (by decide), r23, if_neg (by decide), r22, if_neg (by decide), r21, if_neg (by decide), r20, if_neg (by decide), r19, r18, if_neg (by decide), r17, if_neg (by decide), r16, r15, if_neg (by decide), r14, if_neg (by decide), r13, if_neg (by decide), r12, if_neg (by decide), r11, if_neg (by decide), r10, if_neg (by decide), r9, if_neg (by decide), r8, if_neg (by decide), r7, r6, if_pos ⟨rfl, rfl⟩], by rw [hr 12 (by decide), r25, if_neg (by decide), r24, if_neg (by decide), r23, if_neg (by decide), r22, if_neg (by decide), r21, if_neg (by decide), r20, if_pos ⟨rfl, rfl⟩], by rw [hr 12 (by decide), r25, if_neg (by decide), r24, if_pos ⟨rfl, rfl⟩], by rw [hr 13 (by decide), r25, if_neg (by decide), r24, if_neg (by decide), r23, if_neg (by decide), r22, if_neg (by decide), r21, if_neg (by decide), r20, if_neg (by decide), r19, r18, if_neg (by decide), r17, if_neg (by decide), r16, r15, if_neg (by decide), r14, if_neg (by decide), r13, if_neg (by decide), r12, if_pos ⟨rfl, rfl⟩], by rw [hr 13 (by decide), r25, if_neg (by decide), r24, if_neg (by decide), r23, if_neg (by decide), r22, if_neg (by decide), r21, if_neg (by decide), r20, if_neg (by decide), r19, r18, if_neg (by decide), r17, if_neg (by decide), r16, r15, if_neg (by decide), r14, if_pos ⟨rfl, rfl⟩], by rw [hr 13 (by decide), r25, if_neg (by decide), r24, if_neg (by decide), r23, if_neg (by decide), r22, if_neg (by decide), r21, if_neg (by decide), r20, if_neg (by decide), r19, r18, if_pos ⟨rfl, rfl⟩], by rw [hr 17 (by decide), r25, if_neg (by decide), r24, if_neg (by decide), r23, if_pos ⟨rfl, rfl⟩], by rw [hk 10 (by decide), k25, k24, k23, k22, if_neg (by decide), k21, if_neg (by decide), k20, k19, k18, k17, k16, k15, if_neg (by decide), k14, k13, if_neg (by decide), k12, k11, if_neg (by decide), k10, if_neg (by decide), k9, if_neg (by decide), k8, k7, k6, k5, if_neg (by decide), k4, k3, if_pos rfl], by rw [hk 11 (by decide), k25, k24, k23, k22, if_neg (by decide), k21, if_neg (by decide), k20, k19, k18, k17, k16, k15, if_neg (by decide), k14, k13, if_neg (by decide), k12, k11, if_neg (by decide), k10, if_neg (by decide), k9, if_neg (by decide), k8, k7, k6, k5, if_pos rfl], by rw [hk 14 (by decide), k25, k24, k23, k22, if_neg (by decide), k21, if_neg (by decide), k20, k19, k18, k17, k16, k15, if_neg (by decide), k14, k13, if_neg (by decide), k12, k11, if_pos rfl], by rw [hk 15 (by decide), k25, k24, k23, k22, if_neg (by decide), k21, if_neg (by decide), k20, k19, k18, k17, k16, k15, if_neg (by decide), k14, k13, if_pos rfl], by rw [hk 18 (by decide), k25, k24, k23, k22, if_pos rfl], by rw [hk 1 (by decide), k25, k24, k23, k22, if_neg (by decide), k21, if_neg (by decide), k20, k19, k18, k17, k16, k15, if_neg (by decide), k14, k13, if_neg (by decide), k12, k11, if_neg (by decide), k10, if_neg (by decide), k9, if_neg (by decide), k8, k7, k6, k5, if_neg (by decide), k4, k3, if_neg (by decide), k2, if_neg (by decide), k1, if_neg (by decide), k0]; rfl, by rw [hk 2 (by decide), k25, k24, k23, k22, if_neg (by decide), k21, if_neg (by decide), k20, k19, k18, k17, k16, k15, if_neg (by decide), k14, k13, if_neg (by decide), k12, k11, if_neg (by decide), k10, if_neg (by decide), k9, if_neg (by decide), k8, k7, k6, k5, if_neg (by decide), k4, k3, if_neg (by decide), k2, if_neg (by decide), k1, if_neg (by decide), k0]; rfl, by rw [hk 3 (by decide), k25, k24, k23, k22, if_neg (by decide), k21, if_neg (by decide), k20, k19, k18, k17, k16, k15, if_neg (by decide), k14, k13, if_neg (by decide), k12, k11, if_neg (by decide), k10, if_neg (by decide), k9, if_neg (by decide), k8, k7, k6, k5, if_neg (by decide), k4, k3, if_neg (by decide), k2, if_neg (by decide), k1, if_neg (by decide), k0]; rfl, by rw [hk 4 (by decide), k25, k24, k23, k22, if_neg (by decide), k21, if_neg (by decide), k20, k19, k18, k17, k16, k15, if_neg (by decide), k14, k13, if_neg (by decide), k12, k11, if_neg (by decide), k10, if_neg (by decide), k9, if_neg (by decide), k8, k7, k6, k5, if_neg (by decide), k4, k3, if_neg (by decide), k2, if_neg (by decide), k1, if_neg (by decide), k0]; rfl, by rw [hk 5 (by decide), k25, k24, k23, k22, if_neg (by decide), k21, if_neg (by decide), k20, k19, k18, k17, k16, k15, if_neg (by decide), k14, k13, if_neg (by decide), k12, k11, if_neg (by decide), k10, if_neg (by decide), k9, if_neg (by decide), k8, k7, k6, k5, if_neg (by decide), k4, k3, if_neg (by decide), k2, if_neg (by decide), k1, if_neg (by decide), k0]; rfl, by rw [hk 6 (by decide), k25, k24, k23, k22, if_neg (by decide), k21, if_neg (by decide), k20, k19, k18, k17, k16, k15, if_neg (by decide), k14, k13, if_neg (by decide), k12, k11, if_neg (by decide), k10, if_neg (by decide), k9, if_neg (by decide), k8, k7, k6, k5, if_neg (by decide), k4, k3, if_neg (by decide), k2, if_neg (by decide), k1, if_neg (by decide), k0]; rfl, by rw [hk 7 (by decide), k25, k24, k23, k22, if_neg (by decide), k21, if_neg (by decide), k20, k19, k18, k17, k16, k15, if_neg (by decide), k14, k13, if_neg (by decide), k12, k11, if_neg (by decide), k10, if_neg (by decide), k9, if_neg (by decide), k8, k7, k6, k5, if_neg (by decide), k4, k3, if_neg (by decide), k2, if_neg (by decide), k1, if_neg (by decide), k0]; rfl⟩, fun a k ha => by rw [i25, i24, i23, i22, if_neg (fun q => by subst q; exact absurd ha (by decide)), i21, if_neg (fun q => by subst q; exact absurd ha (by decide)), i20, i19 a (fun q => by subst q; exact absurd ha (by decide)), i18, i17, i16, if_neg (fun q => by have q := q.1; subst q; exact absurd ha (by decide)), i15, if_neg (fun q => by subst q; exact absurd ha (by decide)), i14, i13, if_neg (fun q => by subst q; exact absurd ha (by decide)), i12, i11, if_neg (fun q => by subst q; exact absurd ha (by decide)), i10, if_neg (fun q => by subst q; exact absurd ha (by decide)), i9, if_neg (fun q => by subst q; exact absurd ha (by decide)), i8, i7, if_neg (fun q => by have q := q.1; subst q; exact absurd ha (by decide)), i6, i5, if_neg (fun q => by subst q; exact absurd ha (by decide)), i4, i3, if_neg (fun q => by subst q; exact absurd ha (by decide)), i2, if_neg (fun q => by subst q; exact absurd ha (by decide)), i1, if_neg (fun q => by subst q; exact absurd ha (by decide)), i0], by rw [k25, k24, k23, k22, if_neg (by decide), k21, if_neg (by decide), k20, k19, k18, k17, k16, k15, if_neg (by decide), k14, k13, if_neg (by decide), k12, k11, if_neg (by decide), k10, if_neg (by decide), k9, if_neg (by decide), k8, k7, k6, k5, if_neg (by decide), k4, k3, if_neg (by decide), k2, if_neg (by decide), k1, if_neg (by decide), k0]; rfl, by rw [k25, k24, k23, k22, if_neg (by decide), k21, if_neg (by decide), k20, k19, k18, k17, k16, k15, if_pos rfl], by rw [r25, if_neg (by decide), r24, if_neg (by decide), r23, if_neg (by decide), r22, if_neg (by decide), r21, if_neg (by decide), r20, if_neg (by decide), r19, r18, if_neg (by decide), r17, if_pos ⟨rfl, rfl⟩], ⟨by rw [i25, i24, i23, i22, if_neg (by decide), i21, if_neg (by decide), i20, i19 16 (by decide), i18, i17, i16, if_neg (by decide), i15, if_pos rfl], by rw [i25, i24, i23, i22, if_neg (by decide), i21, if_pos rfl], by rw [i25, i24, i23, i22, if_neg (by decide), i21, if_neg (by decide), i20, i19 13 (by decide), i18, i17, i16, if_neg (by decide), i15, if_neg (by decide), i14, i13, if_neg (by decide), i12, i11, if_neg (by decide), i10, if_pos rfl], by rw [i25, i24, i23, i22, if_neg (by decide), i21, if_neg (by decide), i20, i19 13 (by decide), i18, i17, i16, if_neg (by decide), i15, if_neg (by decide), i14, i13, if_neg (by decide), i12, i11, if_neg (by decide), i10, if_pos rfl], by rw [i25, i24, i23, i22, if_neg (by decide), i21, if_neg (by decide), i20, i19 9 (by decide), i18, i17, i16, if_neg (by decide), i15, if_neg (by decide), i14, i13, if_neg (by decide), i12, i11, if_neg (by decide), i10, if_neg (by decide), i9, if_neg (by decide), i8, i7, if_neg (by decide), i6, i5, if_neg (by decide), i4, i3, if_neg (by decide), i2, if_pos rfl], by rw [i25, i24, i23, i22, if_neg (by decide), i21, if_neg (by decide), i20, i19 9 (by decide), i18, i17, i16, if_neg (by decide), i15, if_neg (by decide), i14, i13, if_neg (by decide), i12, i11, if_neg (by decide), i10, if_neg (by decide), i9, if_neg (by decide), i8, i7, if_pos ⟨rfl, rfl⟩]⟩, fun k => by rw [i25, i24, i23, i22, if_neg (by decide), i21, if_neg (by decide), i20, i19 12 (by decide), i18, i17, i16, if_neg (fun q => absurd q.1 (by decide)), i15, if_neg (by decide), i14, i13, if_neg (by decide), i12, i11, if_neg (by decide), i10, if_neg (by decide), i9, if_pos rfl], fun k => by rw [i25, i24, i23, i22, if_neg (by decide), i21, if_neg (by decide), i20, i19 15 (by decide), i18, i17, i16, if_neg (fun q => absurd q.1 (by decide)), i15, if_neg (by decide), i14, i13, if_pos rfl], fun j hj => by rw [i25, i24, i23, i22, if_neg (by decide), i21, if_neg (by decide), i20]; exact z19 j hj⟩
