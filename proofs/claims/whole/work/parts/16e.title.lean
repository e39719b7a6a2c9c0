-- deps: 15a.lots 16a.rel 16b.step 16c.title 16d.cong
section ZTJ
variable {h h' hc hm hb m m' : zH} {n p s c c' t t' l j k a q : Nat} {x y z : Int32}
theorem R_title (r : R hc hm n p s c t) (hl : l < n) (Fb : Fr hc hb) (Bj : ∀ j k, j < n → (j ≠ l ∨ k < 11) → cf hb j k = cf hc j k) (B9 : ∀ j, j < n → zr hb (zla hc j) 9 = zr hc (zla hc j) 9) (Ba : ∀ a, a < 45 → zi hb a = zi hc a) (en : zn hb = zn hc) (es : zs hb = zs hc) (N : MF hm m') (Ma : ∀ a, 19 ≤ a → a ≤ 44 → a ≠ 26 → a ≠ 27 → a ≠ 28 → a ≠ 29 → a ≠ 30 → a ≠ 32 → zi m' a = zi (mBec hm c p l x) a) (Mj : ∀ a j, a = 26 ∨ a = 27 ∨ a = 28 ∨ a = 29 ∨ a = 30 ∨ a = 32 → j ≠ l → zi m' a j = zi hm a j) (L15 : cf hb l 15 = zi m' 30 l) (L15b : zi m' 30 l = 0 ∨ zi m' 30 l = 1) (L16 : cf hb l 16 = zi m' 32 l) (L0 : x = -1 → zi m' 30 l = 0 ∧ zi m' 28 l = 0) (LD : ∃ d, d ≤ 3 ∧ cf hb l 12 = nI d ∧ zi m' 28 l = nI d ∧ (d = 0 → cf hb l 11 = 0) ∧ (0 < d → cf hb l 13 = zi m' 26 l ∧ cf hb l 14 = zi m' 29 l ∧ cf hb l 11 = nI (d - 1) * zi m' 26 l + zi m' 27 l)) (Bo : zi hm 36 l = 0 ∨ zi hm 24 l ≠ -1 ∨ zi hm 25 l ≠ 0) (hx : zi hm 24 l ≠ x) (hxo : x = -1 ∨ ∃ q, q < p ∧ x = nI q) (ht : t < t' ∨ (x = -1 ∧ t = t')) (ht' : t' ≤ 512) : R (cChg hb l x c) m' n p s (c + 1) t' := by
  obtain ⟨w, rm, rk, rx, rmo, rl, rd, rh, rg, rb, bs, rt, ro⟩ := id r
  have wb := Fr_LW w Fb
  have hn := w.2.1
  have F := Fr_tr Fb (Fr_chg (x := x) (c := c) wb hl)
  obtain ⟨k1, k2, k3, k4, k5, k6, k7, k8, k9, ⟨d, k10, k10a, k10b⟩, k11, k12, k13, k14, k15, k16, k19⟩ := rk
  have c12 : ∀ i, i ≠ 8 → zi (cChg hb l x c) 12 i = zi hc 12 i := fun i hi => by
    rw [chg_a wb hl (by decide), if_neg (fun q => hi q.2), Ba 12 (by decide)]
  have ca : ∀ a, a < 45 → a ≠ 12 → zi (cChg hb l x c) a = zi hc a := fun a ha h12 => by
    rw [chg_f wb hl ha h12, Ba a ha]
  have m19 : ∀ i, i ≠ 31 → zi m' 19 i = zi hm 19 i := fun i hi => by
    rw [Ma 19 (by decide) (by decide) (by decide) (by decide) (by decide) (by decide) (by decide) (by decide), bec_19, if_neg hi]
  have ma : ∀ a, 20 ≤ a → a ≤ 44 → a ≠ 24 → a ≠ 31 → a ≠ 35 → a ≠ 39 → a ≠ 40 → a ≠ 41 → a ≠ 26 → a ≠ 27 → a ≠ 28 → a ≠ 29 → a ≠ 30 → a ≠ 32 → zi m' a = zi hm a := fun a g1 g2 g3 g4 g5 g6 g7 g8 g9 g10 g11 g12 g13 g14 => by
    rw [Ma a (by omega) g2 g9 g10 g11 g12 g13 g14, bec_a (by omega) g3 g4 g5 g6 g7 g8]
  have mt : ∀ a, a = 24 ∨ a = 31 ∨ a = 35 ∨ a = 39 ∨ a = 40 ∨ a = 41 → zi m' a = zi (mBec hm c p l x) a := fun a ha => Ma a (by omega) (by omega) (by omega) (by omega) (by omega) (by omega) (by omega) (by omega)
  have e24 : ∀ j, zi m' 24 j = if j = l then x else zi hm 24 j := fun j => by rw [mt 24 (by decide), bec_24]
  have e31 : ∀ j, zi m' 31 j = if j = l then zi hm 19 24 else zi hm 31 j := fun j => by rw [mt 31 (by decide), bec_31]
  have hd : zi hb 12 2 = zi hm 19 24 := by rw [Ba 12 (by decide), k10a, k10b]
  refine R_mk r F N ?_ (RX_cg rx (by rw [ca 9 (by decide) (by decide)]) (ca 10 (by decide) (by decide)) (m19 1 (by decide)) (ma 20 (by decide) (by decide) (by decide) (by decide) (by decide) (by decide) (by decide) (by decide) (by decide) (by decide) (by decide) (by decide) (by decide) (by decide))) (RM_cg rmo (ca 18 (by decide) (by decide)) (ma 34 (by decide) (by decide) (by decide) (by decide) (by decide) (by decide) (by decide) (by decide) (by decide) (by decide) (by decide) (by decide) (by decide) (by decide))) (fun j hj => ?_) (fun j hj => ?_) ?_ ?_ (ma 36 (by decide) (by decide) (by decide) (by decide) (by decide) (by decide) (by decide) (by decide) (by decide) (by decide) (by decide) (by decide) (by decide) (by decide)) (ma 37 (by decide) (by decide) (by decide) (by decide) (by decide) (by decide) (by decide) (by decide) (by decide) (by decide) (by decide) (by decide) (by decide) (by decide)) (ma 38 (by decide) (by decide) (by decide) (by decide) (by decide) (by decide) (by decide) (by decide) (by decide) (by decide) (by decide) (by decide) (by decide) (by decide)) (fun j hj e1 e2 e3 => ?_) ?_ ?_
  · unfold RK
    rw [ca 17 (by decide) (by decide), ca 13 (by decide) (by decide), ca 9 (by decide) (by decide), c12 2 (by decide), c12 3 (by decide), c12 4 (by decide), c12 5 (by decide), c12 6 (by decide), c12 7 (by decide), chg_a wb hl (by decide), if_pos ⟨rfl, rfl⟩, m19 5 (by decide), m19 18 (by decide), m19 16 (by decide), m19 24 (by decide), m19 26 (by decide), m19 27 (by decide), m19 28 (by decide), m19 29 (by decide), m19 30 (by decide), m19 25 (by decide), m19 2 (by decide), Ma 19 (by decide) (by decide) (by decide) (by decide) (by decide) (by decide) (by decide) (by decide), bec_19, if_pos rfl]
    exact ⟨k1, k2, k3, k4, k5, k6, k7, rfl, rfl, ⟨d, k10, k10a, k10b⟩, k11, k12, k13, k14, k15, k16, k19⟩
  · obtain ⟨l1, l2, l3, l4, l5, l6, l7, l8, l9⟩ := rl j hj
    have hA : cArea (cChg hb l x c) j = cArea hc j := by
      show 2 * cf (cChg hb l x c) j 2 * cf (cChg hb l x c) j 3 + cf (cChg hb l x c) j 5 = 2 * cf hc j 2 * cf hc j 3 + cf hc j 5
      simp [chg_l wb hl hj, Bj j _ hj]
    rw [hA, ma 23 (by decide) (by decide) (by decide) (by decide) (by decide) (by decide) (by decide) (by decide) (by decide) (by decide) (by decide) (by decide) (by decide) (by decide), ma 25 (by decide) (by decide) (by decide) (by decide) (by decide) (by decide) (by decide) (by decide) (by decide) (by decide) (by decide) (by decide) (by decide) (by decide), e24, e31, chg_l wb hl hj, chg_l wb hl hj, chg_l wb hl hj, chg_l wb hl hj, chg_l wb hl hj]
    by_cases e : j = l
    · subst e
      simp only [true_and, if_true, (by decide : ¬ (7 = 10)), (by decide : ¬ (7 = 8)), (by decide : ¬ (4 = 10)), (by decide : ¬ (4 = 8)), (by decide : ¬ (4 = 7)), (by decide : ¬ (8 = 10)), (by decide : ¬ (15 = 10)), (by decide : ¬ (15 = 8)), (by decide : ¬ (15 = 7)), (by decide : ¬ (16 = 10)), (by decide : ¬ (16 = 8)), (by decide : ¬ (16 = 7)), if_false]
      exact ⟨hxo, by rw [Bj j 4 hj (by omega)]; exact l3, hd, L15, L15b, L16, l8, L0⟩
    · simp only [e, false_and, if_false]
      rw [Bj j 7 hj (Or.inl e), Bj j 4 hj (Or.inl e), Bj j 8 hj (Or.inl e), Bj j 15 hj (Or.inl e), Bj j 16 hj (Or.inl e), Mj 30 j (by decide) e, Mj 32 j (by decide) e, Mj 28 j (by decide) e]
      exact ⟨l1, l2, l3, l4, l5, l6, l7, l8, l9⟩
  · rw [chg_l wb hl hj, chg_l wb hl hj, chg_l wb hl hj, chg_l wb hl hj]
    by_cases e : j = l
    · subst e
      simpa using LD
    · simp only [e, false_and, if_false]
      rw [Bj j 12 hj (Or.inl e), Bj j 11 hj (Or.inl e), Bj j 13 hj (Or.inl e), Bj j 14 hj (Or.inl e), Mj 26 j (by decide) e, Mj 27 j (by decide) e, Mj 28 j (by decide) e, Mj 29 j (by decide) e]
      exact rd j hj
  · refine RH_cg (RH_chg (c := c) wb (RH_cg rh (fun l hl => Bj l 10 hl (by omega)) rfl rfl) hl hx k4) (fun _ _ => rfl) (mt 35 (by decide)) (mt 24 (by decide))
  · rw [ma 21 (by decide) (by decide) (by decide) (by decide) (by decide) (by decide) (by decide) (by decide) (by decide) (by decide) (by decide) (by decide) (by decide) (by decide), ma 33 (by decide) (by decide) (by decide) (by decide) (by decide) (by decide) (by decide) (by decide) (by decide) (by decide) (by decide) (by decide) (by decide) (by decide)]
    refine RG_cg rg (fun j k hj hk => ?_) (ca 14 (by decide) (by decide)) (ca 15 (by decide) (by decide))
    rw [chg_l wb hl hj, if_neg (by omega), if_neg (by omega), if_neg (by omega), Bj j k hj (by omega)]
  · rw [e24, ma 25 (by decide) (by decide) (by decide) (by decide) (by decide) (by decide) (by decide) (by decide) (by decide) (by decide) (by decide) (by decide) (by decide) (by decide)]
    by_cases e : j = l
    · subst e
      exfalso
      rcases Bo with q | q | q
      · exact e1 q
      · exact q e2
      · exact q e3
    · rw [if_neg e]; exact ⟨e2, e3⟩
  · have rtb : RT hb hm n c := RT_cg w Fb rt (fun j hj => ⟨Bj j 7 hj (by omega), Bj j 8 hj (by omega), B9 j hj⟩) (fun _ _ => rfl)
    exact RT_cg (Fr_LW wb (Fr_chg (x := x) (c := c) wb hl)) (Fr_rfl (Fr_chg wb hl).2.1) (RT_chg (p := p) wb rtb hl hd) (fun _ _ => ⟨rfl, rfl, rfl⟩) (fun a ha => mt a (by omega))
  · obtain ⟨o1, o2, o3, o4⟩ := ro
    have hm1 := mow_up (m := hm) (m' := m') hl (fun j _ e => by rw [e24, if_neg e])
    rw [e24, if_pos rfl] at hm1
    obtain ⟨n1, n2⟩ := chg_n (l := l) (x := x) (c := c) wb
    refine ⟨?_, ht', by rw [n1, en]; omega, by rw [n2, es]; omega⟩
    rcases ht with ht | ⟨hx1, ht⟩
    · split at hm1 <;> split at hm1 <;> omega
    · rw [if_neg (by rw [← hx1]; exact hx), if_pos hx1] at hm1
      omega
end ZTJ
