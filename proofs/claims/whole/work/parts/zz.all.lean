-- FILE 27b.start
def zsk (L a : Nat) : Nat × Nat := match a with
  | 0 => (100, L)
  | 1 => (100, 5)
  | 2 => (100, 5)
  | 3 => (100, 4)
  | 4 => (100, 4)
  | 5 => (100, 4)
  | 6 => (100, 4)
  | _ => (103, 0)
def zsv (xs : Nat → Int32) (a j : Nat) : Int32 := match a with
  | 0 => xs j
  | 1 => ([0, 0, 1, 1, 1] : List Int32).getD j 0
  | 2 => ([19, 15, 9, 9, 9] : List Int32).getD j 0
  | 3 => ([0, 0, 0, 1] : List Int32).getD j 0
  | 4 => ([19, 15, 1, 20] : List Int32).getD j 0
  | 5 => ([0, 0, 1, 1] : List Int32).getD j 0
  | 6 => ([19, 15, 9, 9] : List Int32).getD j 0
  | _ => 0
/-- the heap at the law's entry: the script and the tables -/
def zh0 (L : Nat) (xs : Nat → Int32) : zH := (8, 0, zsk L, zsv xs, fun _ _ => none)
theorem w8 {h : zH} (hn : 14 < zn h) (hk : zk h 14 = (100, 320)) : ∀ (k i : Nat) (h1 : zH), i + k = 320 → F1 14 h h1 → (∀ j, j < i → zi h1 14 j = -1) → ∃ h2, zev 8 5 [some (vR (some 14)), some (vI (-1)), some (vI (nI i)), some (vI (nI 320))] [] h1 = some (none, h2) ∧ F1 14 h h2 ∧ ∀ j, j < 320 → zi h2 14 j = -1 := by
  intro k
  induction k with
  | zero =>
    intro i h1 hi A e
    have : i = 320 := by omega
    subst this
    exact ⟨h1, by rw [b8_5, if_neg (nI_nlt (Nat.le_refl _) (by decide))], A, e⟩
  | succ k ih =>
    intro i h1 hi A e
    rw [b8_5, if_pos (nI_lt (by omega) (by decide)), tI_k (by decide) (by rw [A.1]; exact hn) (by rw [A.2.2.1]; exact hk) (by omega) (by decide), nI_1]
    refine ih (i + 1) _ (by omega) (F1_u A) (fun j hj => ?_)
    rw [zi_ui]
    by_cases q : j = i
    · rw [if_pos ⟨rfl, q⟩]
    · rw [if_neg (fun q2 => q q2.2)]
      exact e j (by omega)
theorem w111 {m : zH} (H : MS m) : ∀ (k i : Nat) (m1 : zH), i + k = 320 → F1 21 m m1 → (∀ j, j < i → zi m1 21 j = -1) → ∃ m2, zev 111 218 [some (vR (some 19)), some (vI (nI i))] [] m1 = some (none, m2) ∧ F1 21 m m2 ∧ ∀ j, j < 320 → zi m2 21 j = -1 := by
  intro k
  induction k with
  | zero =>
    intro i m1 hi A e
    have : i = 320 := by omega
    subst this
    exact ⟨m1, by rw [b111_218, if_neg (by decide)], A, e⟩
  | succ k ih =>
    intro i m1 hi A e
    have M := F1_ms A H
    rw [b111_218, if_pos (show nI i < (320 : Int32) from nI_lt (a := i) (b := 320) (by omega) (by decide)), Mr_cells M, Mt_cells M (by omega), nI_1]
    refine ih (i + 1) _ (by omega) (F1_u A) (fun j hj => ?_)
    rw [zi_ui]
    by_cases q : j = i
    · rw [if_pos ⟨rfl, q⟩]
    · rw [if_neg (fun q2 => q q2.2)]
      exact e j (by omega)
theorem na_k {h : zH} {t N : Nat} {x : Int32} {f : Option Nat → zH → Option (Option zV × zH)} (hx : x = nI N) (hN : N ≤ 100000) : zna h t x f = f (some (zn h)) (znw h t N) := by
  subst hx
  unfold zna
  rw [if_pos ⟨nI_nn (by omega), by rw [nI_clamp (by omega)]; exact hN⟩, nI_clamp (by omega)]
theorem no_k {h : zH} {t N : Nat} {f : Option Nat → zH → Option (Option zV × zH)} (hN : (zcl t).2.2 = N) : zno h t f = f (some (zn h)) (znw h t N) := by
  subst hN
  rfl
theorem start_c (L : Nat) (xs : Nat → Int32) : ∃ h, zcall 0 [vR (some 8)] (znw (zh0 L xs) 8 2) = some (none, h) ∧ zn h = 19 ∧ zs h = 584 ∧ (∀ h', 45 ≤ zn h' → (∀ a, a < 19 → zk h' a = zk h a) → (∀ a, a < 19 → zr h' a = zr h a) → CS h') ∧ (∀ a k, a < 8 → zi h a k = zsv xs a k) ∧ zk h 0 = (100, L) ∧ zk h 16 = (0, 3) ∧ zr h 16 1 = some 7 ∧ (zi h 16 2 = 0 ∧ zi h 17 1 = 0 ∧ zi h 13 3 = 0 ∧ zi h 13 4 = 0 ∧ zi h 9 2 = 0 ∧ zi h 9 3 = -1) ∧ (∀ k, zi h 12 k = 0) ∧ (∀ k, zi h 15 k = 0) ∧ ∀ j, j < 320 → zi h 14 j = -1 := by
  generalize g0 : zh0 L xs = h0
  have n0 : zn h0 = 8 := by rw [← g0]; rfl
  have s0 : zs h0 = 0 := by rw [← g0]; rfl
  have k0 : ∀ b, zk h0 b = zsk L b := fun b => by rw [← g0]; rfl
  have i0 : ∀ b k, zi h0 b k = zsv xs b k := fun b k => by rw [← g0]; rfl
  generalize g1 : znw h0 8 2 = h1
  have n1 : zn h1 = 9 := by rw [← g1, zn_nw, n0]
  have s1 : zs h1 = zs h0 + 2 := by rw [← g1, zs_nw]
  have k1 : ∀ b, zk h1 b = if b = 8 then (8, 2) else zk h0 b := fun b => by rw [← g1, zk_nw, n0]
  have i1 : ∀ b k, zi h1 b k = if b = 8 then 0 else zi h0 b k := fun b k => by rw [← g1, zi_nw, n0]
  have r1 : ∀ b k, zr h1 b k = if b = 8 then none else zr h0 b k := fun b k => by rw [← g1, zr_nw, n0]
  generalize g2 : znw h1 6 6 = h2
  have n2 : zn h2 = 10 := by rw [← g2, zn_nw, n1]
  have s2 : zs h2 = zs h1 + 6 := by rw [← g2, zs_nw]
  have k2 : ∀ b, zk h2 b = if b = 9 then (6, 6) else zk h1 b := fun b => by rw [← g2, zk_nw, n1]
  have i2 : ∀ b k, zi h2 b k = if b = 9 then 0 else zi h1 b k := fun b k => by rw [← g2, zi_nw, n1]
  have r2 : ∀ b k, zr h2 b k = if b = 9 then none else zr h1 b k := fun b k => by rw [← g2, zr_nw, n1]
  generalize g3 : znw h2 101 200 = h3
  have n3 : zn h3 = 11 := by rw [← g3, zn_nw, n2]
  have s3 : zs h3 = zs h2 + 200 := by rw [← g3, zs_nw]
  have k3 : ∀ b, zk h3 b = if b = 10 then (101, 200) else zk h2 b := fun b => by rw [← g3, zk_nw, n2]
  have i3 : ∀ b k, zi h3 b k = if b = 10 then 0 else zi h2 b k := fun b k => by rw [← g3, zi_nw, n2]
  have r3 : ∀ b k, zr h3 b k = if b = 10 then none else zr h2 b k := fun b k => by rw [← g3, zr_nw, n2]
  generalize g4 : zur h3 9 0 (some 10) = h4
  have n4 : zn h4 = 11 := by rw [← g4, zn_ur, n3]
  have s4 : zs h4 = zs h3 := by rw [← g4, zs_ur]
  have k4 : ∀ b, zk h4 b = zk h3 b := fun b => by rw [← g4, zk_ur]
  have i4 : ∀ b k, zi h4 b k = zi h3 b k := fun b k => by rw [← g4, zi_ur]
  have r4 : ∀ b k, zr h4 b k = if b = 9 ∧ k = 0 then some 10 else zr h3 b k := fun b k => by rw [← g4, zr_ur]
  generalize g5 : znw h4 100 5 = h5
  have n5 : zn h5 = 12 := by rw [← g5, zn_nw, n4]
  have s5 : zs h5 = zs h4 + 5 := by rw [← g5, zs_nw]
  have k5 : ∀ b, zk h5 b = if b = 11 then (100, 5) else zk h4 b := fun b => by rw [← g5, zk_nw, n4]
  have i5 : ∀ b k, zi h5 b k = if b = 11 then 0 else zi h4 b k := fun b k => by rw [← g5, zi_nw, n4]
  have r5 : ∀ b k, zr h5 b k = if b = 11 then none else zr h4 b k := fun b k => by rw [← g5, zr_nw, n4]
  generalize g6 : zur h5 9 1 (some 11) = h6
  have n6 : zn h6 = 12 := by rw [← g6, zn_ur, n5]
  have s6 : zs h6 = zs h5 := by rw [← g6, zs_ur]
  have k6 : ∀ b, zk h6 b = zk h5 b := fun b => by rw [← g6, zk_ur]
  have i6 : ∀ b k, zi h6 b k = zi h5 b k := fun b k => by rw [← g6, zi_ur]
  have r6 : ∀ b k, zr h6 b k = if b = 9 ∧ k = 1 then some 11 else zr h5 b k := fun b k => by rw [← g6, zr_ur]
  generalize g7 : zui h6 9 3 (-1) = h7
  have n7 : zn h7 = 12 := by rw [← g7, zn_ui, n6]
  have s7 : zs h7 = zs h6 := by rw [← g7, zs_ui]
  have k7 : ∀ b, zk h7 b = zk h6 b := fun b => by rw [← g7, zk_ui]
  have i7 : ∀ b k, zi h7 b k = if b = 9 ∧ k = 3 then (-1) else zi h6 b k := fun b k => by rw [← g7, zi_ui]
  have r7 : ∀ b k, zr h7 b k = zr h6 b k := fun b k => by rw [← g7, zr_ui]
  have c2 : zcall 2 [vR (some 9)] h2 = some (none, h7) := by
    rw [e2, ul_s, na_k (h := h2) (x := 200) (N := 200) rfl (by decide), n2, g3, pR_k (h := h3) (by decide) (by rw [n3]; decide) (by rw [k3, if_neg (by decide), k2, if_pos rfl]) (by decide), g4, na_k (h := h4) (x := 5) (N := 5) rfl (by decide), n4, g5, pR_k (h := h5) (by decide) (by rw [n5]; decide) (by rw [k5, if_neg (by decide), k4, k3, if_neg (by decide), k2, if_pos rfl]) (by decide), g6, pI_k (h := h6) (by decide) (by rw [n6]; decide) (by rw [k6, k5, if_neg (by decide), k4, k3, if_neg (by decide), k2, if_pos rfl]) (by decide), g7]
  generalize g8 : zur h7 8 0 (some 9) = h8
  have n8 : zn h8 = 12 := by rw [← g8, zn_ur, n7]
  have s8 : zs h8 = zs h7 := by rw [← g8, zs_ur]
  have k8 : ∀ b, zk h8 b = zk h7 b := fun b => by rw [← g8, zk_ur]
  have i8 : ∀ b k, zi h8 b k = zi h7 b k := fun b k => by rw [← g8, zi_ur]
  have r8 : ∀ b k, zr h8 b k = if b = 8 ∧ k = 0 then some 9 else zr h7 b k := fun b k => by rw [← g8, zr_ur]
  generalize g9 : znw h8 3 9 = h9
  have n9 : zn h9 = 13 := by rw [← g9, zn_nw, n8]
  have s9 : zs h9 = zs h8 + 9 := by rw [← g9, zs_nw]
  have k9 : ∀ b, zk h9 b = if b = 12 then (3, 9) else zk h8 b := fun b => by rw [← g9, zk_nw, n8]
  have i9 : ∀ b k, zi h9 b k = if b = 12 then 0 else zi h8 b k := fun b k => by rw [← g9, zi_nw, n8]
  have r9 : ∀ b k, zr h9 b k = if b = 12 then none else zr h8 b k := fun b k => by rw [← g9, zr_nw, n8]
  generalize g10 : znw h9 5 5 = h10
  have n10 : zn h10 = 14 := by rw [← g10, zn_nw, n9]
  have s10 : zs h10 = zs h9 + 5 := by rw [← g10, zs_nw]
  have k10 : ∀ b, zk h10 b = if b = 13 then (5, 5) else zk h9 b := fun b => by rw [← g10, zk_nw, n9]
  have i10 : ∀ b k, zi h10 b k = if b = 13 then 0 else zi h9 b k := fun b k => by rw [← g10, zi_nw, n9]
  have r10 : ∀ b k, zr h10 b k = if b = 13 then none else zr h9 b k := fun b k => by rw [← g10, zr_nw, n9]
  generalize g11 : znw h10 100 320 = h11
  have n11 : zn h11 = 15 := by rw [← g11, zn_nw, n10]
  have s11 : zs h11 = zs h10 + 320 := by rw [← g11, zs_nw]
  have k11 : ∀ b, zk h11 b = if b = 14 then (100, 320) else zk h10 b := fun b => by rw [← g11, zk_nw, n10]
  have i11 : ∀ b k, zi h11 b k = if b = 14 then 0 else zi h10 b k := fun b k => by rw [← g11, zi_nw, n10]
  have r11 : ∀ b k, zr h11 b k = if b = 14 then none else zr h10 b k := fun b k => by rw [← g11, zr_nw, n10]
  generalize g12 : zur h11 13 0 (some 14) = h12
  have n12 : zn h12 = 15 := by rw [← g12, zn_ur, n11]
  have s12 : zs h12 = zs h11 := by rw [← g12, zs_ur]
  have k12 : ∀ b, zk h12 b = zk h11 b := fun b => by rw [← g12, zk_ur]
  have i12 : ∀ b k, zi h12 b k = zi h11 b k := fun b k => by rw [← g12, zi_ur]
  have r12 : ∀ b k, zr h12 b k = if b = 13 ∧ k = 0 then some 14 else zr h11 b k := fun b k => by rw [← g12, zr_ur]
  generalize g13 : znw h12 102 12 = h13
  have n13 : zn h13 = 16 := by rw [← g13, zn_nw, n12]
  have s13 : zs h13 = zs h12 + 12 := by rw [← g13, zs_nw]
  have k13 : ∀ b, zk h13 b = if b = 15 then (102, 12) else zk h12 b := fun b => by rw [← g13, zk_nw, n12]
  have i13 : ∀ b k, zi h13 b k = if b = 15 then 0 else zi h12 b k := fun b k => by rw [← g13, zi_nw, n12]
  have r13 : ∀ b k, zr h13 b k = if b = 15 then none else zr h12 b k := fun b k => by rw [← g13, zr_nw, n12]
  generalize g14 : zur h13 13 1 (some 15) = h14
  have n14 : zn h14 = 16 := by rw [← g14, zn_ur, n13]
  have s14 : zs h14 = zs h13 := by rw [← g14, zs_ur]
  have k14 : ∀ b, zk h14 b = zk h13 b := fun b => by rw [← g14, zk_ur]
  have i14 : ∀ b k, zi h14 b k = zi h13 b k := fun b k => by rw [← g14, zi_ur]
  have r14 : ∀ b k, zr h14 b k = if b = 13 ∧ k = 1 then some 15 else zr h13 b k := fun b k => by rw [← g14, zr_ur]
  generalize g15 : znw h14 0 3 = h15
  have n15 : zn h15 = 17 := by rw [← g15, zn_nw, n14]
  have s15 : zs h15 = zs h14 + 3 := by rw [← g15, zs_nw]
  have k15 : ∀ b, zk h15 b = if b = 16 then (0, 3) else zk h14 b := fun b => by rw [← g15, zk_nw, n14]
  have i15 : ∀ b k, zi h15 b k = if b = 16 then 0 else zi h14 b k := fun b k => by rw [← g15, zi_nw, n14]
  have r15 : ∀ b k, zr h15 b k = if b = 16 then none else zr h14 b k := fun b k => by rw [← g15, zr_nw, n14]
  generalize g16 : zui h15 16 0 0 = h16
  have n16 : zn h16 = 17 := by rw [← g16, zn_ui, n15]
  have s16 : zs h16 = zs h15 := by rw [← g16, zs_ui]
  have k16 : ∀ b, zk h16 b = zk h15 b := fun b => by rw [← g16, zk_ui]
  have i16 : ∀ b k, zi h16 b k = if b = 16 ∧ k = 0 then 0 else zi h15 b k := fun b k => by rw [← g16, zi_ui]
  have r16 : ∀ b k, zr h16 b k = zr h15 b k := fun b k => by rw [← g16, zr_ui]
  generalize g17 : zur h16 16 1 (some 7) = h17
  have n17 : zn h17 = 17 := by rw [← g17, zn_ur, n16]
  have s17 : zs h17 = zs h16 := by rw [← g17, zs_ur]
  have k17 : ∀ b, zk h17 b = zk h16 b := fun b => by rw [← g17, zk_ur]
  have i17 : ∀ b k, zi h17 b k = zi h16 b k := fun b k => by rw [← g17, zi_ur]
  have r17 : ∀ b k, zr h17 b k = if b = 16 ∧ k = 1 then some 7 else zr h16 b k := fun b k => by rw [← g17, zr_ur]
  have c7 : zcall 7 [vR (some 16)] h15 = some (none, h15) := by rw [e7, ul_s]
  have c6 : zcall 6 [vR (some 16)] h15 = some (none, h16) := by rw [e6, ul_s, cV_k c7, pI_k (h := h15) (by decide) (by rw [n15]; decide) (by rw [k15, if_pos rfl]) (by decide), g16]
  have c5 : zcall 5 [vR (some 16)] h15 = some (none, h17) := by rw [e5, ul_s, cV_k c6, pR_k (h := h16) (by decide) (by rw [n16]; decide) (by rw [k16, k15, if_pos rfl]) (by decide), g17]
  generalize g18 : zur h17 13 2 (some 16) = h18
  have n18 : zn h18 = 17 := by rw [← g18, zn_ur, n17]
  have s18 : zs h18 = zs h17 := by rw [← g18, zs_ur]
  have k18 : ∀ b, zk h18 b = zk h17 b := fun b => by rw [← g18, zk_ur]
  have i18 : ∀ b k, zi h18 b k = zi h17 b k := fun b k => by rw [← g18, zi_ur]
  have r18 : ∀ b k, zr h18 b k = if b = 13 ∧ k = 2 then some 16 else zr h17 b k := fun b k => by rw [← g18, zr_ur]
  obtain ⟨h19, g19, F19, z19⟩ := w8 (h := h18) (by rw [n18]; decide) (by rw [k18, k17, k16, k15, if_neg (by decide), k14, k13, if_neg (by decide), k12, k11, if_pos rfl]) 320 0 h18 rfl F1_rfl (fun j hj => absurd hj (Nat.not_lt_zero j))
  rw [nI_0] at g19
  have n19 : zn h19 = 17 := F19.1.trans n18
  have s19 : zs h19 = zs h18 := F19.2.1
  have k19 : ∀ b, zk h19 b = zk h18 b := fun b => by rw [F19.2.2.1]
  have i19 : ∀ b, b ≠ 14 → ∀ k, zi h19 b k = zi h18 b k := fun b hb k => by rw [F19.2.2.2.2 b hb]
  have r19 : ∀ b k, zr h19 b k = zr h18 b k := fun b k => by rw [F19.2.2.2.1]
  have c8 : zcall 8 [vR (some 14), vI (-1)] h18 = some (none, h19) := by
    rw [e8, al_k (by rw [n18]; decide) (by rw [k18, k17, k16, k15, if_neg (by decide), k14, k13, if_neg (by decide), k12, k11, if_pos rfl]) (by decide)]
    exact g19
  have c4 : zcall 4 [vR (some 13)] h10 = some (none, h19) := by
    rw [e4, ul_s, na_k (h := h10) (x := 320) (N := 320) rfl (by decide), n10, g11, pR_k (h := h11) (by decide) (by rw [n11]; decide) (by rw [k11, if_neg (by decide), k10, if_pos rfl]) (by decide), g12, na_k (h := h12) (x := 12) (N := 12) rfl (by decide), n12, g13, pR_k (h := h13) (by decide) (by rw [n13]; decide) (by rw [k13, if_neg (by decide), k12, k11, if_neg (by decide), k10, if_pos rfl]) (by decide), g14, no_k (h := h14) (t := 0) (N := 3) rfl, n14, g15, ul_s, cV_k c5, pR_k (h := h17) (by decide) (by rw [n17]; decide) (by rw [k17, k16, k15, if_neg (by decide), k14, k13, if_neg (by decide), k12, k11, if_neg (by decide), k10, if_pos rfl]) (by decide), g18, gR_k (h := h18) (by decide) (by rw [n18]; decide) (by rw [k18, k17, k16, k15, if_neg (by decide), k14, k13, if_neg (by decide), k12, k11, if_neg (by decide), k10, if_pos rfl]) (by decide), r18, if_neg (by decide), r17, if_neg (by decide), r16, r15, if_neg (by decide), r14, if_neg (by decide), r13, if_neg (by decide), r12, if_pos ⟨rfl, rfl⟩, cV_k c8]
  generalize g20 : zur h19 12 0 (some 13) = h20
  have n20 : zn h20 = 17 := by rw [← g20, zn_ur, n19]
  have s20 : zs h20 = zs h19 := by rw [← g20, zs_ur]
  have k20 : ∀ b, zk h20 b = zk h19 b := fun b => by rw [← g20, zk_ur]
  have i20 : ∀ b k, zi h20 b k = zi h19 b k := fun b k => by rw [← g20, zi_ur]
  have r20 : ∀ b k, zr h20 b k = if b = 12 ∧ k = 0 then some 13 else zr h19 b k := fun b k => by rw [← g20, zr_ur]
  generalize g21 : znw h20 4 2 = h21
  have n21 : zn h21 = 18 := by rw [← g21, zn_nw, n20]
  have s21 : zs h21 = zs h20 + 2 := by rw [← g21, zs_nw]
  have k21 : ∀ b, zk h21 b = if b = 17 then (4, 2) else zk h20 b := fun b => by rw [← g21, zk_nw, n20]
  have i21 : ∀ b k, zi h21 b k = if b = 17 then 0 else zi h20 b k := fun b k => by rw [← g21, zi_nw, n20]
  have r21 : ∀ b k, zr h21 b k = if b = 17 then none else zr h20 b k := fun b k => by rw [← g21, zr_nw, n20]
  generalize g22 : znw h21 100 20 = h22
  have n22 : zn h22 = 19 := by rw [← g22, zn_nw, n21]
  have s22 : zs h22 = zs h21 + 20 := by rw [← g22, zs_nw]
  have k22 : ∀ b, zk h22 b = if b = 18 then (100, 20) else zk h21 b := fun b => by rw [← g22, zk_nw, n21]
  have i22 : ∀ b k, zi h22 b k = if b = 18 then 0 else zi h21 b k := fun b k => by rw [← g22, zi_nw, n21]
  have r22 : ∀ b k, zr h22 b k = if b = 18 then none else zr h21 b k := fun b k => by rw [← g22, zr_nw, n21]
  generalize g23 : zur h22 17 0 (some 18) = h23
  have n23 : zn h23 = 19 := by rw [← g23, zn_ur, n22]
  have s23 : zs h23 = zs h22 := by rw [← g23, zs_ur]
  have k23 : ∀ b, zk h23 b = zk h22 b := fun b => by rw [← g23, zk_ur]
  have i23 : ∀ b k, zi h23 b k = zi h22 b k := fun b k => by rw [← g23, zi_ur]
  have r23 : ∀ b k, zr h23 b k = if b = 17 ∧ k = 0 then some 18 else zr h22 b k := fun b k => by rw [← g23, zr_ur]
  have c9 : zcall 9 [vR (some 17)] h21 = some (none, h23) := by
    rw [e9, ul_s, na_k (h := h21) (x := 20) (N := 20) rfl (by decide), n21, g22, pR_k (h := h22) (by decide) (by rw [n22]; decide) (by rw [k22, if_neg (by decide), k21, if_pos rfl]) (by decide), g23]
  generalize g24 : zur h23 12 1 (some 17) = h24
  have n24 : zn h24 = 19 := by rw [← g24, zn_ur, n23]
  have s24 : zs h24 = zs h23 := by rw [← g24, zs_ur]
  have k24 : ∀ b, zk h24 b = zk h23 b := fun b => by rw [← g24, zk_ur]
  have i24 : ∀ b k, zi h24 b k = zi h23 b k := fun b k => by rw [← g24, zi_ur]
  have r24 : ∀ b k, zr h24 b k = if b = 12 ∧ k = 1 then some 17 else zr h23 b k := fun b k => by rw [← g24, zr_ur]
  have c3 : zcall 3 [vR (some 12)] h9 = some (none, h24) := by
    rw [e3, ul_s, no_k (h := h9) (t := 5) (N := 5) rfl, n9, g10, ul_s, cV_k c4, pR_k (h := h19) (by decide) (by rw [n19]; decide) (by rw [k19, k18, k17, k16, k15, if_neg (by decide), k14, k13, if_neg (by decide), k12, k11, if_neg (by decide), k10, if_neg (by decide), k9, if_pos rfl]) (by decide), g20, no_k (h := h20) (t := 4) (N := 2) rfl, n20, g21, ul_s, cV_k c9, pR_k (h := h23) (by decide) (by rw [n23]; decide) (by rw [k23, k22, if_neg (by decide), k21, if_neg (by decide), k20, k19, k18, k17, k16, k15, if_neg (by decide), k14, k13, if_neg (by decide), k12, k11, if_neg (by decide), k10, if_neg (by decide), k9, if_pos rfl]) (by decide), g24]
  generalize g25 : zur h24 8 1 (some 12) = h25
  have n25 : zn h25 = 19 := by rw [← g25, zn_ur, n24]
  have s25 : zs h25 = zs h24 := by rw [← g25, zs_ur]
  have k25 : ∀ b, zk h25 b = zk h24 b := fun b => by rw [← g25, zk_ur]
  have i25 : ∀ b k, zi h25 b k = zi h24 b k := fun b k => by rw [← g25, zi_ur]
  have r25 : ∀ b k, zr h25 b k = if b = 8 ∧ k = 1 then some 12 else zr h24 b k := fun b k => by rw [← g25, zr_ur]
  have c0 : zcall 0 [vR (some 8)] h1 = some (none, h25) := by
    rw [e0, ul_s, no_k (h := h1) (t := 6) (N := 6) rfl, n1, g2, ul_s, cV_k c2, pR_k (h := h7) (by decide) (by rw [n7]; decide) (by rw [k7, k6, k5, if_neg (by decide), k4, k3, if_neg (by decide), k2, if_neg (by decide), k1, if_pos rfl]) (by decide), g8, no_k (h := h8) (t := 3) (N := 9) rfl, n8, g9, ul_s, cV_k c3, pR_k (h := h24) (by decide) (by rw [n24]; decide) (by rw [k24, k23, k22, if_neg (by decide), k21, if_neg (by decide), k20, k19, k18, k17, k16, k15, if_neg (by decide), k14, k13, if_neg (by decide), k12, k11, if_neg (by decide), k10, if_neg (by decide), k9, if_neg (by decide), k8, k7, k6, k5, if_neg (by decide), k4, k3, if_neg (by decide), k2, if_neg (by decide), k1, if_pos rfl]) (by decide), g25]
  refine ⟨h25, c0, n25, by rw [s25, s24, s23, s22, s21, s20, s19, s18, s17, s16, s15, s14, s13, s12, s11, s10, s9, s8, s7, s6, s5, s4, s3, s2, s1, s0], fun h' hn hk hr => ⟨hn, by rw [hk 8 (by decide), k25, k24, k23, k22, if_neg (by decide), k21, if_neg (by decide), k20, k19, k18, k17, k16, k15, if_neg (by decide), k14, k13, if_neg (by decide), k12, k11, if_neg (by decide), k10, if_neg (by decide), k9, if_neg (by decide), k8, k7, k6, k5, if_neg (by decide), k4, k3, if_neg (by decide), k2, if_neg (by decide), k1, if_pos rfl], by rw [hk 9 (by decide), k25, k24, k23, k22, if_neg (by decide), k21, if_neg (by decide), k20, k19, k18, k17, k16, k15, if_neg (by decide), k14, k13, if_neg (by decide), k12, k11, if_neg (by decide), k10, if_neg (by decide), k9, if_neg (by decide), k8, k7, k6, k5, if_neg (by decide), k4, k3, if_neg (by decide), k2, if_pos rfl], by rw [hk 12 (by decide), k25, k24, k23, k22, if_neg (by decide), k21, if_neg (by decide), k20, k19, k18, k17, k16, k15, if_neg (by decide), k14, k13, if_neg (by decide), k12, k11, if_neg (by decide), k10, if_neg (by decide), k9, if_pos rfl], by rw [hk 13 (by decide), k25, k24, k23, k22, if_neg (by decide), k21, if_neg (by decide), k20, k19, k18, k17, k16, k15, if_neg (by decide), k14, k13, if_neg (by decide), k12, k11, if_neg (by decide), k10, if_pos rfl], by rw [hk 17 (by decide), k25, k24, k23, k22, if_neg (by decide), k21, if_pos rfl], by rw [hr 8 (by decide), r25, if_neg (by decide), r24, if_neg (by decide), r23, if_neg (by decide), r22, if_neg (by decide), r21, if_neg (by decide), r20, if_neg (by decide), r19, r18, if_neg (by decide), r17, if_neg (by decide), r16, r15, if_neg (by decide), r14, if_neg (by decide), r13, if_neg (by decide), r12, if_neg (by decide), r11, if_neg (by decide), r10, if_neg (by decide), r9, if_neg (by decide), r8, if_pos ⟨rfl, rfl⟩], by rw [hr 8 (by decide), r25, if_pos ⟨rfl, rfl⟩], by rw [hr 9 (by decide), r25, if_neg (by decide), r24, if_neg (by decide), r23, if_neg (by decide), r22, if_neg (by decide), r21, if_neg (by decide), r20, if_neg (by decide), r19, r18, if_neg (by decide), r17, if_neg (by decide), r16, r15, if_neg (by decide), r14, if_neg (by decide), r13, if_neg (by decide), r12, if_neg (by decide), r11, if_neg (by decide), r10, if_neg (by decide), r9, if_neg (by decide), r8, if_neg (by decide), r7, r6, if_neg (by decide), r5, if_neg (by decide), r4, if_pos ⟨rfl, rfl⟩], by rw [hr 9 (by decide), r25, if_neg (by decide), r24, if_neg (by decide), r23, if_neg (by decide), r22, if_neg (by decide), r21, if_neg (by decide), r20, if_neg (by decide), r19, r18, if_neg (by decide), r17, if_neg (by decide), r16, r15, if_neg (by decide), r14, if_neg (by decide), r13, if_neg (by decide), r12, if_neg (by decide), r11, if_neg (by decide), r10, if_neg (by decide), r9, if_neg (by decide), r8, if_neg (by decide), r7, r6, if_pos ⟨rfl, rfl⟩], by rw [hr 12 (by decide), r25, if_neg (by decide), r24, if_neg (by decide), r23, if_neg (by decide), r22, if_neg (by decide), r21, if_neg (by decide), r20, if_pos ⟨rfl, rfl⟩], by rw [hr 12 (by decide), r25, if_neg (by decide), r24, if_pos ⟨rfl, rfl⟩], by rw [hr 13 (by decide), r25, if_neg (by decide), r24, if_neg (by decide), r23, if_neg (by decide), r22, if_neg (by decide), r21, if_neg (by decide), r20, if_neg (by decide), r19, r18, if_neg (by decide), r17, if_neg (by decide), r16, r15, if_neg (by decide), r14, if_neg (by decide), r13, if_neg (by decide), r12, if_pos ⟨rfl, rfl⟩], by rw [hr 13 (by decide), r25, if_neg (by decide), r24, if_neg (by decide), r23, if_neg (by decide), r22, if_neg (by decide), r21, if_neg (by decide), r20, if_neg (by decide), r19, r18, if_neg (by decide), r17, if_neg (by decide), r16, r15, if_neg (by decide), r14, if_pos ⟨rfl, rfl⟩], by rw [hr 13 (by decide), r25, if_neg (by decide), r24, if_neg (by decide), r23, if_neg (by decide), r22, if_neg (by decide), r21, if_neg (by decide), r20, if_neg (by decide), r19, r18, if_pos ⟨rfl, rfl⟩], by rw [hr 17 (by decide), r25, if_neg (by decide), r24, if_neg (by decide), r23, if_pos ⟨rfl, rfl⟩], by rw [hk 10 (by decide), k25, k24, k23, k22, if_neg (by decide), k21, if_neg (by decide), k20, k19, k18, k17, k16, k15, if_neg (by decide), k14, k13, if_neg (by decide), k12, k11, if_neg (by decide), k10, if_neg (by decide), k9, if_neg (by decide), k8, k7, k6, k5, if_neg (by decide), k4, k3, if_pos rfl], by rw [hk 11 (by decide), k25, k24, k23, k22, if_neg (by decide), k21, if_neg (by decide), k20, k19, k18, k17, k16, k15, if_neg (by decide), k14, k13, if_neg (by decide), k12, k11, if_neg (by decide), k10, if_neg (by decide), k9, if_neg (by decide), k8, k7, k6, k5, if_pos rfl], by rw [hk 14 (by decide), k25, k24, k23, k22, if_neg (by decide), k21, if_neg (by decide), k20, k19, k18, k17, k16, k15, if_neg (by decide), k14, k13, if_neg (by decide), k12, k11, if_pos rfl], by rw [hk 15 (by decide), k25, k24, k23, k22, if_neg (by decide), k21, if_neg (by decide), k20, k19, k18, k17, k16, k15, if_neg (by decide), k14, k13, if_pos rfl], by rw [hk 18 (by decide), k25, k24, k23, k22, if_pos rfl], by rw [hk 1 (by decide), k25, k24, k23, k22, if_neg (by decide), k21, if_neg (by decide), k20, k19, k18, k17, k16, k15, if_neg (by decide), k14, k13, if_neg (by decide), k12, k11, if_neg (by decide), k10, if_neg (by decide), k9, if_neg (by decide), k8, k7, k6, k5, if_neg (by decide), k4, k3, if_neg (by decide), k2, if_neg (by decide), k1, if_neg (by decide), k0]; rfl, by rw [hk 2 (by decide), k25, k24, k23, k22, if_neg (by decide), k21, if_neg (by decide), k20, k19, k18, k17, k16, k15, if_neg (by decide), k14, k13, if_neg (by decide), k12, k11, if_neg (by decide), k10, if_neg (by decide), k9, if_neg (by decide), k8, k7, k6, k5, if_neg (by decide), k4, k3, if_neg (by decide), k2, if_neg (by decide), k1, if_neg (by decide), k0]; rfl, by rw [hk 3 (by decide), k25, k24, k23, k22, if_neg (by decide), k21, if_neg (by decide), k20, k19, k18, k17, k16, k15, if_neg (by decide), k14, k13, if_neg (by decide), k12, k11, if_neg (by decide), k10, if_neg (by decide), k9, if_neg (by decide), k8, k7, k6, k5, if_neg (by decide), k4, k3, if_neg (by decide), k2, if_neg (by decide), k1, if_neg (by decide), k0]; rfl, by rw [hk 4 (by decide), k25, k24, k23, k22, if_neg (by decide), k21, if_neg (by decide), k20, k19, k18, k17, k16, k15, if_neg (by decide), k14, k13, if_neg (by decide), k12, k11, if_neg (by decide), k10, if_neg (by decide), k9, if_neg (by decide), k8, k7, k6, k5, if_neg (by decide), k4, k3, if_neg (by decide), k2, if_neg (by decide), k1, if_neg (by decide), k0]; rfl, by rw [hk 5 (by decide), k25, k24, k23, k22, if_neg (by decide), k21, if_neg (by decide), k20, k19, k18, k17, k16, k15, if_neg (by decide), k14, k13, if_neg (by decide), k12, k11, if_neg (by decide), k10, if_neg (by decide), k9, if_neg (by decide), k8, k7, k6, k5, if_neg (by decide), k4, k3, if_neg (by decide), k2, if_neg (by decide), k1, if_neg (by decide), k0]; rfl, by rw [hk 6 (by decide), k25, k24, k23, k22, if_neg (by decide), k21, if_neg (by decide), k20, k19, k18, k17, k16, k15, if_neg (by decide), k14, k13, if_neg (by decide), k12, k11, if_neg (by decide), k10, if_neg (by decide), k9, if_neg (by decide), k8, k7, k6, k5, if_neg (by decide), k4, k3, if_neg (by decide), k2, if_neg (by decide), k1, if_neg (by decide), k0]; rfl, by rw [hk 7 (by decide), k25, k24, k23, k22, if_neg (by decide), k21, if_neg (by decide), k20, k19, k18, k17, k16, k15, if_neg (by decide), k14, k13, if_neg (by decide), k12, k11, if_neg (by decide), k10, if_neg (by decide), k9, if_neg (by decide), k8, k7, k6, k5, if_neg (by decide), k4, k3, if_neg (by decide), k2, if_neg (by decide), k1, if_neg (by decide), k0]; rfl⟩, fun a k ha => by rw [i25, i24, i23, i22, if_neg (fun q => by subst q; exact absurd ha (by decide)), i21, if_neg (fun q => by subst q; exact absurd ha (by decide)), i20, i19 a (fun q => by subst q; exact absurd ha (by decide)), i18, i17, i16, if_neg (fun q => by have q := q.1; subst q; exact absurd ha (by decide)), i15, if_neg (fun q => by subst q; exact absurd ha (by decide)), i14, i13, if_neg (fun q => by subst q; exact absurd ha (by decide)), i12, i11, if_neg (fun q => by subst q; exact absurd ha (by decide)), i10, if_neg (fun q => by subst q; exact absurd ha (by decide)), i9, if_neg (fun q => by subst q; exact absurd ha (by decide)), i8, i7, if_neg (fun q => by have q := q.1; subst q; exact absurd ha (by decide)), i6, i5, if_neg (fun q => by subst q; exact absurd ha (by decide)), i4, i3, if_neg (fun q => by subst q; exact absurd ha (by decide)), i2, if_neg (fun q => by subst q; exact absurd ha (by decide)), i1, if_neg (fun q => by subst q; exact absurd ha (by decide)), i0], by rw [k25, k24, k23, k22, if_neg (by decide), k21, if_neg (by decide), k20, k19, k18, k17, k16, k15, if_neg (by decide), k14, k13, if_neg (by decide), k12, k11, if_neg (by decide), k10, if_neg (by decide), k9, if_neg (by decide), k8, k7, k6, k5, if_neg (by decide), k4, k3, if_neg (by decide), k2, if_neg (by decide), k1, if_neg (by decide), k0]; rfl, by rw [k25, k24, k23, k22, if_neg (by decide), k21, if_neg (by decide), k20, k19, k18, k17, k16, k15, if_pos rfl], by rw [r25, if_neg (by decide), r24, if_neg (by decide), r23, if_neg (by decide), r22, if_neg (by decide), r21, if_neg (by decide), r20, if_neg (by decide), r19, r18, if_neg (by decide), r17, if_pos ⟨rfl, rfl⟩], ⟨by rw [i25, i24, i23, i22, if_neg (by decide), i21, if_neg (by decide), i20, i19 16 (by decide), i18, i17, i16, if_neg (by decide), i15, if_pos rfl], by rw [i25, i24, i23, i22, if_neg (by decide), i21, if_pos rfl], by rw [i25, i24, i23, i22, if_neg (by decide), i21, if_neg (by decide), i20, i19 13 (by decide), i18, i17, i16, if_neg (by decide), i15, if_neg (by decide), i14, i13, if_neg (by decide), i12, i11, if_neg (by decide), i10, if_pos rfl], by rw [i25, i24, i23, i22, if_neg (by decide), i21, if_neg (by decide), i20, i19 13 (by decide), i18, i17, i16, if_neg (by decide), i15, if_neg (by decide), i14, i13, if_neg (by decide), i12, i11, if_neg (by decide), i10, if_pos rfl], by rw [i25, i24, i23, i22, if_neg (by decide), i21, if_neg (by decide), i20, i19 9 (by decide), i18, i17, i16, if_neg (by decide), i15, if_neg (by decide), i14, i13, if_neg (by decide), i12, i11, if_neg (by decide), i10, if_neg (by decide), i9, if_neg (by decide), i8, i7, if_neg (by decide), i6, i5, if_neg (by decide), i4, i3, if_neg (by decide), i2, if_pos rfl], by rw [i25, i24, i23, i22, if_neg (by decide), i21, if_neg (by decide), i20, i19 9 (by decide), i18, i17, i16, if_neg (by decide), i15, if_neg (by decide), i14, i13, if_neg (by decide), i12, i11, if_neg (by decide), i10, if_neg (by decide), i9, if_neg (by decide), i8, i7, if_pos ⟨rfl, rfl⟩]⟩, fun k => by rw [i25, i24, i23, i22, if_neg (by decide), i21, if_neg (by decide), i20, i19 12 (by decide), i18, i17, i16, if_neg (fun q => absurd q.1 (by decide)), i15, if_neg (by decide), i14, i13, if_neg (by decide), i12, i11, if_neg (by decide), i10, if_neg (by decide), i9, if_pos rfl], fun k => by rw [i25, i24, i23, i22, if_neg (by decide), i21, if_neg (by decide), i20, i19 15 (by decide), i18, i17, i16, if_neg (fun q => absurd q.1 (by decide)), i15, if_neg (by decide), i14, i13, if_pos rfl], fun j hj => by rw [i25, i24, i23, i22, if_neg (by decide), i21, if_neg (by decide), i20]; exact z19 j hj⟩
-- FILE 27c.start
/-- a row made and kept by the reference -/
def al_h (h : zH) (q : Nat × Nat × Nat) : zH := zur (znw h q.1 q.2.1) 19 q.2.2 (some (zn h))
def AH : List (Nat × Nat × Nat) → zH → zH
  | [], h => h
  | q :: r, h => AH r (al_h h q)
noncomputable def EV (f : zH → Option (Option zV × zH)) : List (Nat × Nat × Nat) → zH → Option (Option zV × zH)
  | [], h => f h
  | q :: r, h => zna h q.1 (nI q.2.1) fun x h2 => zpR h2 (some 19) 9 q.2.2 x fun h3 => EV f r h3
section ZST
variable {h : zH} {q : Nat × Nat × Nat} {b k i : Nat}
theorem al_k1 : zk (al_h h q) b = if b = zn h then (q.1, q.2.1) else zk h b := rfl
theorem al_i1 : zi (al_h h q) b k = if b = zn h then 0 else zi h b k := rfl
theorem al_r1 : zr (al_h h q) b k = if b = 19 ∧ k = q.2.2 then some (zn h) else if b = zn h then none else zr h b k := rfl
theorem al_n1 : zn (al_h h q) = zn h + 1 := rfl
theorem al_s1 : zs (al_h h q) = zs h + q.2.1 := rfl
theorem EV_ok (f : zH → Option (Option zV × zH)) : ∀ (Ls : List (Nat × Nat × Nat)) (h : zH), 19 < zn h → zk h 19 = (9, 41) → (Ls.all fun q => decide (q.2.1 ≤ 100000 ∧ q.2.2 < 41)) = true → EV f Ls h = f (AH Ls h)
  | [], h, _, _, _ => rfl
  | q :: r, h, hn, hk, ha => by
    rw [List.all_cons, Bool.and_eq_true, decide_eq_true_eq] at ha
    have e : EV f (q :: r) h = zna h q.1 (nI q.2.1) fun x h2 => zpR h2 (some 19) 9 q.2.2 x fun h3 => EV f r h3 := rfl
    have hk2 : zk (znw h q.1 q.2.1) 19 = (9, 41) := by rw [zk_nw, if_neg (by omega)]; exact hk
    rw [e, na_k rfl ha.1.1, pR_k (by decide) (by rw [zn_nw]; omega) hk2 ha.1.2]
    exact EV_ok f r (al_h h q) (by rw [al_n1]; omega) (by rw [al_k1, if_neg (by omega)]; exact hk) ha.2
theorem AH_n : ∀ (Ls : List (Nat × Nat × Nat)) (h : zH), zn (AH Ls h) = zn h + Ls.length
  | [], h => rfl
  | q :: r, h => by
    show zn (AH r (al_h h q)) = _
    rw [AH_n r, al_n1, List.length_cons]
    omega
theorem AH_s : ∀ (Ls : List (Nat × Nat × Nat)) (h : zH), zs (AH Ls h) = zs h + (Ls.map fun q => q.2.1).sum
  | [], h => rfl
  | q :: r, h => by
    show zs (AH r (al_h h q)) = _
    rw [AH_s r, al_s1, List.map_cons, List.sum_cons]
    omega
theorem AH_lk : ∀ (Ls : List (Nat × Nat × Nat)) (h : zH) (b : Nat), b < zn h → zk (AH Ls h) b = zk h b ∧ (∀ k, zi (AH Ls h) b k = zi h b k) ∧ (b ≠ 19 → ∀ k, zr (AH Ls h) b k = zr h b k)
  | [], h, b, _ => ⟨rfl, fun _ => rfl, fun _ _ => rfl⟩
  | q :: r, h, b, hb => by
    obtain ⟨e1, e2, e3⟩ := AH_lk r (al_h h q) b (by rw [al_n1]; omega)
    refine ⟨?_, fun k => ?_, fun h19 k => ?_⟩
    · show zk (AH r (al_h h q)) b = _
      rw [e1, al_k1, if_neg (by omega)]
    · show zi (AH r (al_h h q)) b k = _
      rw [e2, al_i1, if_neg (by omega)]
    · show zr (AH r (al_h h q)) b k = _
      rw [e3 h19, al_r1, if_neg (fun q => h19 q.1), if_neg (by omega)]
theorem AH_row : ∀ (Ls : List (Nat × Nat × Nat)) (h : zH) (i : Nat) (q : Nat × Nat × Nat), Ls[i]? = some q → zk (AH Ls h) (zn h + i) = (q.1, q.2.1)
  | [], h, i, q, e => by simp at e
  | p :: r, h, 0, q, e => by
    have e' : p = q := by simpa using e
    subst e'
    show zk (AH r (al_h h p)) (zn h + 0) = _
    rw [Nat.add_zero, (AH_lk r (al_h h p) (zn h) (by rw [al_n1]; omega)).1, al_k1, if_pos rfl]
  | p :: r, h, i + 1, q, e => by
    have := AH_row r (al_h h p) i q (by simpa using e)
    rw [al_n1] at this
    show zk (AH r (al_h h p)) (zn h + (i + 1)) = _
    rw [show zn h + (i + 1) = zn h + 1 + i by omega]
    exact this
theorem AH_kp : ∀ (Ls : List (Nat × Nat × Nat)) (h : zH) (k : Nat), 19 < zn h → (Ls.all fun q => decide (q.2.2 ≠ k)) = true → zr (AH Ls h) 19 k = zr h 19 k
  | [], h, k, _, _ => rfl
  | q :: r, h, k, hn, ha => by
    rw [List.all_cons, Bool.and_eq_true, decide_eq_true_eq] at ha
    show zr (AH r (al_h h q)) 19 k = _
    rw [AH_kp r (al_h h q) k (by rw [al_n1]; omega) ha.2, al_r1, if_neg (fun q2 => ha.1 q2.2.symm), if_neg (by omega)]
theorem AH_19 : ∀ (Ls : List (Nat × Nat × Nat)) (h : zH) (i : Nat) (q : Nat × Nat × Nat), 19 < zn h → Ls[i]? = some q → ((Ls.drop (i + 1)).all fun p => decide (p.2.2 ≠ q.2.2)) = true → zr (AH Ls h) 19 q.2.2 = some (zn h + i)
  | [], h, i, q, _, e, _ => by simp at e
  | p :: r, h, 0, q, hn, e, ha => by
    have e' : p = q := by simpa using e
    subst e'
    show zr (AH r (al_h h p)) 19 p.2.2 = _
    rw [AH_kp r (al_h h p) p.2.2 (by rw [al_n1]; omega) (by simpa using ha), al_r1, if_pos ⟨rfl, rfl⟩, Nat.add_zero]
  | p :: r, h, i + 1, q, hn, e, ha => by
    have := AH_19 r (al_h h p) i q (by rw [al_n1]; omega) (by simpa using e) (by simpa using ha)
    rw [al_n1] at this
    show zr (AH r (al_h h p)) 19 q.2.2 = _
    rw [show zn h + (i + 1) = zn h + 1 + i by omega]
    exact this
end ZST
def rws : List (Nat × Nat × Nat) := [(100, 320, 3), (100, 320, 4), (100, 40, 6), (100, 40, 7), (102, 40, 8), (100, 40, 9), (100, 40, 10), (100, 40, 11), (100, 40, 12), (100, 40, 13), (100, 40, 14), (100, 40, 15), (102, 12, 17), (100, 20, 19), (100, 20, 20), (100, 40, 21), (100, 800, 22), (100, 800, 23), (100, 4000, 32), (100, 4000, 33), (100, 4000, 34), (100, 5, 38), (100, 40, 39), (102, 40, 40)]
theorem start_m {h : zH} (hn : zn h = 20) (hk : zk h 19 = (9, 41)) : ∃ h', zcall 111 [vR (some 19)] h = some (none, h') ∧ zn h' = 45 ∧ zs h' = zs h + 15017 ∧ MS h' ∧ (∀ a, a < 19 → zk h' a = zk h a ∧ zi h' a = zi h a ∧ zr h' a = zr h a) ∧ (∀ k, zi h' 19 k = if k = 2 then -1 else zi h 19 k) ∧ ∀ j, j < 320 → zi h' 21 j = -1 := by
  generalize g3 : zui (zur (znw h 100 200) 19 0 (some 20)) 19 2 (-1) = h3
  have n3 : zn h3 = 21 := by rw [← g3, zn_ui, zn_ur, zn_nw, hn]
  have s3 : zs h3 = zs h + 200 := by rw [← g3, zs_ui, zs_ur, zs_nw]
  have k3 : ∀ b, zk h3 b = if b = 20 then (100, 200) else zk h b := fun b => by rw [← g3, zk_ui, zk_ur, zk_nw, hn]
  have i3 : ∀ b k, zi h3 b k = if b = 19 ∧ k = 2 then -1 else if b = 20 then 0 else zi h b k := fun b k => by rw [← g3, zi_ui, zi_ur, zi_nw, hn]
  have r3 : ∀ b k, zr h3 b k = if b = 19 ∧ k = 0 then some 20 else if b = 20 then none else zr h b k := fun b k => by rw [← g3, zr_ui, zr_ur, zr_nw, hn]
  have hk3 : zk h3 19 = (9, 41) := by rw [k3, if_neg (by decide)]; exact hk
  have hk1 : zk (znw h 100 200) 19 = (9, 41) := by rw [zk_nw, if_neg (by omega)]; exact hk
  have e : zcall 111 [vR (some 19)] h = EV (fun h76 => zev 111 218 [some (vR (some 19)), some (vI (nI 0))] [] h76) rws h3 := by
    rw [e111, ul_s, na_k (x := 200) (N := 200) rfl (by decide), hn, pR_k (by decide) (by rw [zn_nw]; omega) hk1 (by decide), pI_k (by decide) (by rw [zn_ur, zn_nw]; omega) (by rw [zk_ur]; exact hk1) (by decide), g3]
    rfl
  rw [e, EV_ok _ rws h3 (by omega) hk3 (by decide)]
  have low := fun b hb => AH_lk rws h3 b hb
  have hrow : ∀ i q, rws[i]? = some q → zk (AH rws h3) (21 + i) = (q.1, q.2.1) := fun i q e => by
    have := AH_row rws h3 i q e
    rw [n3] at this
    exact this
  have h19 : ∀ i q, rws[i]? = some q → ((rws.drop (i + 1)).all fun p => decide (p.2.2 ≠ q.2.2)) = true → zr (AH rws h3) 19 q.2.2 = some (21 + i) := fun i q e ha => by
    have := AH_19 rws h3 i q (by omega) e ha
    rw [n3] at this
    exact this
  have nA : zn (AH rws h3) = 45 := by rw [AH_n, n3]; rfl
  have sA : zs (AH rws h3) = zs h + 15017 := by
    have q1 : (rws.map fun q => q.2.1).sum = 14817 := by decide
    have q2 := AH_s rws h3
    omega
  have MSm : MS (AH rws h3) := ⟨by rw [nA]; decide, by rw [(low 19 (by omega)).1]; exact hk3, by rw [AH_kp rws h3 0 (by omega) (by decide), r3, if_pos ⟨rfl, rfl⟩], h19 0 (100, 320, 3) rfl (by decide), h19 1 (100, 320, 4) rfl (by decide), h19 2 (100, 40, 6) rfl (by decide), h19 3 (100, 40, 7) rfl (by decide), h19 4 (102, 40, 8) rfl (by decide), h19 5 (100, 40, 9) rfl (by decide), h19 6 (100, 40, 10) rfl (by decide), h19 7 (100, 40, 11) rfl (by decide), h19 8 (100, 40, 12) rfl (by decide), h19 9 (100, 40, 13) rfl (by decide), h19 10 (100, 40, 14) rfl (by decide), h19 11 (100, 40, 15) rfl (by decide), h19 12 (102, 12, 17) rfl (by decide), h19 13 (100, 20, 19) rfl (by decide), h19 14 (100, 20, 20) rfl (by decide), h19 15 (100, 40, 21) rfl (by decide), h19 16 (100, 800, 22) rfl (by decide), h19 17 (100, 800, 23) rfl (by decide), h19 18 (100, 4000, 32) rfl (by decide), h19 19 (100, 4000, 33) rfl (by decide), h19 20 (100, 4000, 34) rfl (by decide), h19 21 (100, 5, 38) rfl (by decide), h19 22 (100, 40, 39) rfl (by decide), h19 23 (102, 40, 40) rfl (by decide), by rw [(low 20 (by omega)).1, k3, if_pos rfl], hrow 0 (100, 320, 3) rfl, hrow 1 (100, 320, 4) rfl, hrow 2 (100, 40, 6) rfl, hrow 3 (100, 40, 7) rfl, hrow 4 (102, 40, 8) rfl, hrow 5 (100, 40, 9) rfl, hrow 6 (100, 40, 10) rfl, hrow 7 (100, 40, 11) rfl, hrow 8 (100, 40, 12) rfl, hrow 9 (100, 40, 13) rfl, hrow 10 (100, 40, 14) rfl, hrow 11 (100, 40, 15) rfl, hrow 12 (102, 12, 17) rfl, hrow 13 (100, 20, 19) rfl, hrow 14 (100, 20, 20) rfl, hrow 15 (100, 40, 21) rfl, hrow 16 (100, 800, 22) rfl, hrow 17 (100, 800, 23) rfl, hrow 18 (100, 4000, 32) rfl, hrow 19 (100, 4000, 33) rfl, hrow 20 (100, 4000, 34) rfl, hrow 21 (100, 5, 38) rfl, hrow 22 (100, 40, 39) rfl, hrow 23 (102, 40, 40) rfl⟩
  obtain ⟨h', g, F, z⟩ := w111 MSm 320 0 (AH rws h3) (by omega) F1_rfl (fun j hj => absurd hj (by omega))
  refine ⟨h', g, F.1.trans nA, F.2.1.trans sA, F1_ms F MSm, fun a ha => ⟨?_, ?_, ?_⟩, fun k => ?_, z⟩
  · rw [F.2.2.1, (low a (by omega)).1, k3, if_neg (by omega)]
  · rw [F.2.2.2.2 a (by omega)]
    funext k
    rw [(low a (by omega)).2.1, i3, if_neg (by omega), if_neg (by omega)]
  · rw [F.2.2.2.1]
    funext k
    rw [(low a (by omega)).2.2 (by omega), r3, if_neg (by omega), if_neg (by omega)]
  · rw [F.2.2.2.2 19 (by decide), (low 19 (by omega)).2.1, i3, if_neg (show ¬ (19 : Nat) = 20 by decide)]
    by_cases q : k = 2
    · rw [if_pos ⟨rfl, q⟩, if_pos q]
    · rw [if_neg (fun q2 => q q2.2), if_neg q]
-- FILE 27d.start
theorem m120 (o : Int32) (i : Nat) (m : zH) (ho : ¬ o = 115) (hi : i < 5) : zcall 120 [vI o, vI (nI i)] m = some (some (vI (nI (loB i))), m) ∧ zcall 121 [vI o, vI (nI i)] m = some (some (vI (nI (hiB i))), m) := by
  rw [e120, e121, if_neg ho, if_neg ho]
  rcases (show i = 0 ∨ i = 1 ∨ i = 2 ∨ i = 3 ∨ i = 4 by omega) with q | q | q | q | q <;> subst q <;> exact ⟨rfl, rfl⟩
theorem m115 (i : Nat) (m : zH) (hi : i < 4) : zcall 120 [vI 115, vI (nI i)] m = some (some (vI (nI (loS i))), m) ∧ zcall 121 [vI 115, vI (nI i)] m = some (some (vI (nI (hiS i))), m) := by
  rw [e120, e121]
  rcases (show i = 0 ∨ i = 1 ∨ i = 2 ∨ i = 3 by omega) with q | q | q | q <;> subst q <;> exact ⟨rfl, rfl⟩
theorem start_ok (L : Nat) (xs : Nat → Int32) (hL : L ≤ 2048) : ∃ h, zcall 159 [vR (some 0)] (zh0 L xs) = zev 159 18 [some (vR (some 0)), some (vR (some 8)), some (vR (some 19)), some (vI (nI 0))] [] h ∧ LI L h 0 := by
  obtain ⟨h, c0, n, s, hCS, hz, k0, k16, r16, ⟨y1, y2, y3, y4, y5, y6⟩, y12, y15, y14⟩ := start_c L xs
  generalize g1 : znw h 9 41 = h1
  have n1 : zn h1 = 20 := by rw [← g1, zn_nw, n]
  have s1 : zs h1 = 625 := by rw [← g1, zs_nw, s]
  have kk1 : zk h1 19 = (9, 41) := by rw [← g1, zk_nw, n, if_pos rfl]
  have lo1 : ∀ a, a < 19 → zk h1 a = zk h a ∧ zi h1 a = zi h a ∧ zr h1 a = zr h a := fun a ha => by
    refine ⟨by rw [← g1, zk_nw, n, if_neg (by omega)], funext fun k => by rw [← g1, zi_nw, n, if_neg (by omega)], funext fun k => by rw [← g1, zr_nw, n, if_neg (by omega)]⟩
  have z19 : ∀ k, zi h1 19 k = 0 := fun k => by rw [← g1, zi_nw, n, if_pos rfl]
  obtain ⟨h2, c111, n2, s2, MSe, lo2, f19, f21⟩ := start_m n1 kk1
  have lo : ∀ a, a < 19 → zk h2 a = zk h a ∧ zi h2 a = zi h a ∧ zr h2 a = zr h a := fun a ha => ⟨(lo2 a ha).1.trans (lo1 a ha).1, (lo2 a ha).2.1.trans (lo1 a ha).2.1, (lo2 a ha).2.2.trans (lo1 a ha).2.2⟩
  have m19 : ∀ k, k ≠ 2 → zi h2 19 k = 0 := fun k hk => by rw [f19 k, if_neg hk, z19]
  have CSe : CS h2 := hCS h2 (by omega) (fun a ha => (lo a ha).1) (fun a ha => (lo a ha).2.2)
  have ed : zed h2 = 7 := by
    unfold zed
    rw [(lo 16 (by decide)).2.2, r16]
    rfl
  have W : LW h2 0 := by
    refine ⟨CSe, by omega, ⟨0, ?_⟩, Or.inl ed, fun l hl => absurd hl (by omega), fun l j hl => absurd hl (by omega)⟩
    rw [ed]
    exact ⟨by decide, by omega, by rw [(lo 16 (by decide)).1]; exact k16, by rw [(lo 16 (by decide)).2.2]; exact r16, by rw [(lo 16 (by decide)).2.1, y1, nI_0], Nat.le_refl _, by omega, by omega, C_7 CSe, Or.inl ⟨rfl, rfl⟩, fun i hi => absurd hi (by omega)⟩
  have a12 : ∀ k, zi h2 12 k = 0 := fun k => by rw [(lo 12 (by decide)).2.1]; exact y12 k
  have K : RK h2 h2 0 0 0 0 := by
    refine ⟨?_, ?_, ?_, by omega, ?_, ?_, by omega, ?_, ?_, ⟨0, by omega, ?_, ?_⟩, ?_, ?_, ?_, ?_, ?_, ⟨0, by omega, ?_, ?_⟩, ?_⟩
    · rw [m19 5 (by decide), nI_0]
    · rw [(lo 17 (by decide)).2.1, y2, nI_0]
    · rw [m19 18 (by decide), nI_0]
    · rw [(lo 13 (by decide)).2.1, y3, nI_0]
    · rw [m19 16 (by decide), nI_0]
    · rw [a12, nI_0]
    · rw [m19 31 (by decide), nI_0]
    · rw [a12, nI_0]
    · rw [m19 24 (by decide), nI_0]
    · rw [a12, m19 26 (by decide)]
    · rw [a12, m19 27 (by decide)]
    · rw [a12, m19 28 (by decide)]
    · rw [a12, m19 29 (by decide)]
    · rw [a12, m19 30 (by decide)]
    · rw [(lo 13 (by decide)).2.1, y4, nI_0]
    · rw [m19 25 (by decide), nI_0]
    · rw [(lo 9 (by decide)).2.1, y6, f19 2, if_pos rfl]
  have X : RX h2 h2 := ⟨0, by omega, by rw [(lo 9 (by decide)).2.1, y5, nI_0], by rw [m19 1 (by decide), nI_0], fun i hi => absurd hi (by omega)⟩
  have G : RG h2 (zi h2 21) (zi h2 33) 0 0 := ⟨fun l hl => absurd hl (by omega), fun j hj => Or.inl ⟨f21 j hj, by rw [(lo 14 (by decide)).2.1]; exact y14 j hj⟩, fun u hu => absurd hu (by omega), fun u _ _ => by rw [(lo 15 (by decide)).2.1]; exact y15 u⟩
  have O : RO h2 h2 0 0 0 := ⟨by unfold mow; simp, by omega, by omega, by omega⟩
  have t : ∀ a k, a < 8 → zi h2 a k = zsv xs a k := fun a k ha => by rw [(lo a (by omega)).2.1]; exact hz a k ha
  refine ⟨h2, ?_, ⟨0, 0, 0, 0, W, MSe, K, X, fun q hq => absurd hq (by omega), fun l hl => absurd hl (by omega), fun l hl => absurd hl (by omega), ⟨fun q hq => absurd hq (by omega), fun l hl => absurd hl (by omega)⟩, G, fun l hl => absurd hl (by omega), ⟨fun l j hl => absurd hl (by omega), fun l hl => absurd hl (by omega)⟩, ⟨fun l hl => absurd hl (by omega), fun k hk => absurd hk (by omega)⟩, O⟩, ?_, by rw [(lo 0 (by decide)).1]; exact k0, hL⟩
  · rw [e159, no_k (t := 8) (N := 2) rfl, show zn (zh0 L xs) = 8 from rfl, ul_s, cV_k c0, no_k (t := 9) (N := 41) rfl, n, g1, ul_s, cV_k c111, nI_0]
  · obtain ⟨-, -, -, -, -, -, -, -, -, -, -, -, -, -, -, -, -, -, -, -, -, c1', c2', c3', c4', c5', c6', -⟩ := CSe
    refine ⟨⟨by decide, by decide, by decide, by decide, c1', c2', fun i hi => ?_, fun i m hi => m120 98 i m (by decide) hi⟩, ⟨by decide, by decide, by decide, by decide, c3', c4', fun i hi => ?_, fun i m hi => m115 i m hi⟩, ⟨by decide, by decide, by decide, by decide, c5', c6', fun i hi => ?_, fun i m hi => m120 103 i m (by decide) (by omega)⟩⟩
    · rw [t 1 i (by decide), t 2 i (by decide)]
      rcases (show i = 0 ∨ i = 1 ∨ i = 2 ∨ i = 3 ∨ i = 4 by omega) with q | q | q | q | q <;> subst q <;> exact ⟨rfl, rfl, by decide, by decide⟩
    · rw [t 3 i (by decide), t 4 i (by decide)]
      rcases (show i = 0 ∨ i = 1 ∨ i = 2 ∨ i = 3 by omega) with q | q | q | q <;> subst q <;> exact ⟨rfl, rfl, by decide, by decide⟩
    · rw [t 5 i (by decide), t 6 i (by decide)]
      rcases (show i = 0 ∨ i = 1 ∨ i = 2 ∨ i = 3 by omega) with q | q | q | q <;> subst q <;> exact ⟨rfl, rfl, by decide, by decide⟩
/-- the law on the small machine: true, within the room -/
theorem zlaw_ok (L : Nat) (xs : Nat → Int32) (hL : L ≤ 2048) : ∃ h1, zev 159 0 (zent 159 [vR (some 0)]) [] (zh0 L xs) = some (some (vI 1), h1) ∧ zn h1 ≤ 600008 ∧ zs h1 ≤ 7302250 := by
  obtain ⟨h, e, I⟩ := start_ok L xs hL
  obtain ⟨h1, t', e1, ⟨⟨n, p, s, c, r⟩, -⟩, ht⟩ := w159 (L := L) 512 0 h (by omega) (by omega) I
  refine ⟨h1, ?_, ?_, ?_⟩
  · have e2 : zcall 159 [vR (some 0)] (zh0 L xs) = some (some (vI 1), h1) := e.trans e1
    exact e2
  · obtain ⟨o1, o2, o3, o4⟩ := r.2.2.2.2.2.2.2.2.2.2.2.2
    omega
  · obtain ⟨o1, o2, o3, o4⟩ := r.2.2.2.2.2.2.2.2.2.2.2.2
    omega
