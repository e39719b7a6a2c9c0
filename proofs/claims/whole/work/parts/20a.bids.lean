/-- a change of lot l's bids -/
def BF (h h' : zH) (l : Nat) : Prop := zn h ≤ zn h' ∧ (∀ a, a < zn h → zk h' a = zk h a) ∧ (∀ a, a < zn h → a ≠ zbl h l → zi h' a = zi h a) ∧ ∀ a, a < zn h → a ≠ zbl h l → a ≠ zbe h l → zr h' a = zr h a
section ZBF
variable {h h' h2 hc hm m' : zH} {n p s c t t' l j k a m : Nat} {x y : Int32}
theorem CS_of2 (H : CS h) (hn : zn h ≤ zn h') (hk : ∀ a, a < 19 → zk h' a = zk h a) (hr : ∀ a, 8 ≤ a → a < 19 → a ≠ 16 → zr h' a = zr h a) : CS h' := by
  refine ⟨Nat.le_trans H.1 hn, ?_⟩
  rw [hk 8 (by decide), hk 9 (by decide), hk 12 (by decide), hk 13 (by decide), hk 17 (by decide), hk 10 (by decide), hk 11 (by decide), hk 14 (by decide), hk 15 (by decide), hk 18 (by decide), hk 1 (by decide), hk 2 (by decide), hk 3 (by decide), hk 4 (by decide), hk 5 (by decide), hk 6 (by decide), hk 7 (by decide), hr 8 (by decide) (by decide) (by decide), hr 9 (by decide) (by decide) (by decide), hr 12 (by decide) (by decide) (by decide), hr 13 (by decide) (by decide) (by decide), hr 17 (by decide) (by decide) (by decide)]
  exact H.2
/-- what is needed of lot l's bids -/
def BN (h : zH) (n l : Nat) : Prop := LW h n ∧ l < n ∧ (∃ m, RB1 h l m) ∧ (zbe h l = zed h → zbe h l = 7)
theorem BN_1 (N : BN h n l) : 45 ≤ zbl h l ∧ zbl h l < zn h ∧ zk h (zbl h l) = (0, 3) ∧ (zbe h l = 7 ∨ 45 ≤ zbe h l) ∧ zbe h l < zn h ∧ (zk h (zbe h l)).1 = 103 ∧ zed h ≠ zbe h l ∧ zed h ≠ 7 := by
  obtain ⟨w, hl, ⟨m, b1, b2, b3, ⟨cap, b4⟩, b5⟩, bs⟩ := N
  obtain ⟨-, w2, ⟨cap2, w3⟩, -⟩ := w
  have e7 : zed h ≠ 7 := by
    obtain ⟨-, -, -, -, -, l6, -, -, -, l10, -⟩ := w3
    omega
  exact ⟨b2, b4.2.1, b4.2.2.1, b3, b4.2.2.2.2.2.2.2.1, by rw [b4.2.2.2.2.2.2.2.2.1], fun q => e7 (q.trans (bs q.symm)), e7⟩
theorem BF_ed (N : BN h n l) (F : BF h h' l) : zed h' = zed h := by
  obtain ⟨b1, b2, b3, b4, b5, b6, b7, b8⟩ := BN_1 N
  have := N.1.1.1
  unfold zed
  rw [F.2.2.2 16 (by omega) (by omega) (by omega)]
theorem BF_la (N : BN h n l) (F : BF h h' l) (j : Nat) : zla h' j = zla h j := by
  obtain ⟨b1, b2, b3, b4, b5, b6, b7, b8⟩ := BN_1 N
  obtain ⟨e1, e2, -, -⟩ := LW_ed N.1
  unfold zla
  rw [BF_ed N F, F.2.2.2 (zed h) e1 (fun q => by rw [q, b3] at e2; cases e2) b7]
theorem BF_LW (N : BN h n l) (F : BF h h' l) : LW h' n := by
  obtain ⟨b1, b2, b3, b4, b5, b6, b7, b8⟩ := BN_1 N
  have ee := BF_ed N F
  obtain ⟨w1, w2, ⟨cap, w3⟩, w4, w5, w6⟩ := id N.1
  have h45 := w1.1
  obtain ⟨l1, l2, l3, l4, l5, l6, l7, l8, l9, l10, l11⟩ := id w3
  have er : zr h' (zed h) = zr h (zed h) := F.2.2.2 (zed h) l8 (fun q => by rw [q, b3] at l9; cases l9) b7
  refine ⟨CS_of2 w1 F.1 (fun a ha => F.2.1 a (by omega)) (fun a h1 h2 _ => F.2.2.2 a (by omega) (by omega) (by omega)), w2, ⟨cap, ?_⟩, by rw [ee]; exact w4, fun i hi => ?_, fun i j hi hj q => ?_⟩
  · rw [ee]
    refine ⟨l1, by have := F.1; omega, by rw [F.2.1 16 l2]; exact l3, by rw [F.2.2.2 16 l2 (by omega) (by omega)]; exact l4, by rw [F.2.2.1 16 l2 (by omega)]; exact l5, l6, l7, by have := F.1; omega, by rw [F.2.1 _ l8]; exact l9, l10, fun i hi => ?_⟩
    rw [er]
    exact zob_up F.1 F.2.1 (l11 i hi)
  · obtain ⟨u1, u2, u3, u4⟩ := w5 i hi
    rw [BF_la N F, ee, er]
    exact ⟨u1, u2, by have := F.1; omega, by rw [F.2.1 _ u3]; exact u4⟩
  · rw [BF_la N F, BF_la N F] at q
    exact w6 i j hi hj q
theorem BF_lot (N : BN h n l) (F : BF h h' l) (hj : j < n) : zi h' (zla h j) = zi h (zla h j) ∧ zr h' (zla h j) = zr h (zla h j) := by
  obtain ⟨b1, b2, b3, b4, b5, b6, b7, b8⟩ := BN_1 N
  obtain ⟨u1, u2, u3⟩ := LW_la N.1 hj
  have n1 : zla h j ≠ zbl h l := fun q => by rw [q, b3] at u3; cases u3
  have n2 : zla h j ≠ zbe h l := fun q => by rw [← q, u3] at b6; cases b6
  exact ⟨F.2.2.1 _ u2 n1, F.2.2.2 _ u2 n1 n2⟩
theorem BF_cf (N : BN h n l) (F : BF h h' l) (hj : j < n) : cf h' j k = cf h j k := by
  unfold cf
  rw [BF_la N F, (BF_lot N F hj).1]
theorem BF_bl (N : BN h n l) (F : BF h h' l) (hj : j < n) : zbl h' j = zbl h j := by
  unfold zbl
  rw [BF_la N F, (BF_lot N F hj).2]
theorem BF_a (N : BN h n l) (F : BF h h' l) (ha : a < 45) : zi h' a = zi h a := by
  obtain ⟨b1, b2, b3, b4, b5, b6, b7, b8⟩ := BN_1 N
  have := N.1.1.1
  exact F.2.2.1 a (by omega) (by omega)
theorem BF_FO (N : BN h n l) (F : BF h h' l) : FO h h' := by
  obtain ⟨b1, b2, b3, b4, b5, b6, b7, b8⟩ := BN_1 N
  have := N.1.1.1
  exact ⟨F.1, fun a h1 h2 => ⟨F.2.1 a (by omega), F.2.2.1 a (by omega) (by omega), F.2.2.2 a (by omega) (by omega) (by omega)⟩, fun a h1 => ⟨F.2.1 a (by omega), F.2.2.1 a (by omega) (by omega)⟩⟩
theorem BF_ch (N : BN h n l) (F : BF h h' l) : ∀ (T : List (Int32 × Int32)) (q : Option Nat), zch h T q → zch h' T q
  | [], q, e => e
  | e :: T, q, ⟨a, a1, a2, a3, a4, a5, a6, a7⟩ => by
    obtain ⟨b1, b2, b3, b4, b5, b6, b7, b8⟩ := BN_1 N
    have n1 : a ≠ zbl h l := fun q => by rw [q, b3] at a4; cases a4
    have n2 : a ≠ zbe h l := fun q => by rw [← q, a4] at b6; cases b6
    have e1 := F.2.2.1 a a3 n1
    have e2 := F.2.2.2 a a3 n1 n2
    refine ⟨a, a1, a2, by have := F.1; omega, by rw [F.2.1 a a3]; exact a4, by rw [e1]; exact a5, by rw [e1]; exact a6, ?_⟩
    rw [e2]
    exact BF_ch N F T _ a7
/-- the other lots' bids -/
theorem BF_B1 (N : BN h n l) (F : BF h h' l) (hj : j < n) (hbl : zbl h j ≠ zbl h l) (hbe : zbe h j = zbe h l → zbe h j = 7) (B : RB1 h j m) : RB1 h' j m ∧ zbe h' j = zbe h j ∧ ∀ i, i < m → zba h' j i = zba h j i ∧ zi h' (zba h j i) = zi h (zba h j i) := by
  obtain ⟨n1, n2, n3, n4, n5, n6, n7, n8⟩ := BN_1 N
  obtain ⟨b1, b2, b3, ⟨cap, b4⟩, b5⟩ := B
  obtain ⟨l1, l2, l3, l4, l5, l6, l7, l8, l9, l10, l11⟩ := id b4
  have d1 : zbl h j ≠ zbe h l := fun q => by rw [← q, l3] at n6; cases n6
  have d2 : zbe h j ≠ zbl h l := fun q => by rw [q, n3] at l9; cases l9
  have er := F.2.2.2 (zbl h j) l2 hbl d1
  have eb : zbe h' j = zbe h j := by
    unfold zbe
    rw [BF_bl N F hj, er]
  have ee : 0 < cap → zr h' (zbe h j) = zr h (zbe h j) := fun q => F.2.2.2 _ l8 d2 (fun q2 => by have := hbe q2; omega)
  have ea : ∀ i, i < m → zba h' j i = zba h j i := fun i hi => by
    unfold zba
    rw [eb, ee (by omega)]
  refine ⟨⟨?_, by rw [BF_bl N F hj]; exact b2, by rw [eb]; exact b3, ⟨cap, ?_⟩, fun i hi => ?_⟩, eb, fun i hi => ⟨ea i hi, ?_⟩⟩
  · rw [BF_la N F, BF_bl N F hj, (BF_lot N F hj).2]; exact b1
  · rw [BF_bl N F hj, eb]
    refine ⟨l1, by have := F.1; omega, by rw [F.2.1 _ l2]; exact l3, by rw [er]; exact l4, by rw [F.2.2.1 _ l2 hbl]; exact l5, l6, l7, by have := F.1; omega, by rw [F.2.1 _ l8]; exact l9, l10, fun i hi => ?_⟩
    rw [ee (by omega)]
    exact zob_up F.1 F.2.1 (l11 i hi)
  · obtain ⟨v1, v2, v3, v4⟩ := b5 i hi
    rw [eb, ea i hi, ee (by omega)]
    exact ⟨v1, v2, by have := F.1; omega, by rw [F.2.1 _ v3]; exact v4⟩
  · obtain ⟨v1, v2, v3, v4⟩ := b5 i hi
    exact F.2.2.1 _ v3 (fun q => by rw [q, n3] at v4; cases v4)
/-- the bids of lot l are changed, here and there -/
theorem R_bid (r : R hc hm n p s c t) (hl : l < n) (F : BF hc h' l) (N : MF hm m') (ma : ∀ a, 19 ≤ a → a ≤ 44 → a ≠ 36 → a ≠ 37 → a ≠ 38 → zi m' a = zi hm a) (mj : ∀ j, j < n → j ≠ l → zi m' 36 j = zi hm 36 j ∧ ∀ i, i < 20 → zi m' 37 (20 * j + i) = zi hm 37 (20 * j + i) ∧ zi m' 38 (20 * j + i) = zi hm 38 (20 * j + i)) (nw : ∃ m, m ≤ 20 ∧ zi m' 36 l = nI m ∧ RB1 h' l m ∧ (∀ i, i < m → ∃ q, q < p ∧ zi m' 37 (20 * l + i) = nI q ∧ zi h' (zba h' l i) 0 = nI q ∧ zi h' (zba h' l i) 1 = zi m' 38 (20 * l + i)) ∧ (∀ i j, i < m → j < m → zi m' 37 (20 * l + i) = zi m' 37 (20 * l + j) → i = j) ∧ (0 < m → zi m' 24 l = -1 ∧ zi m' 25 l = 0)) (hbe : zbe h' l = zbe hc l ∨ zn hc ≤ zbe h' l) (ht : t ≤ t') (ht' : t' ≤ 512) (hn' : zn h' ≤ 45 + 200 * t' + c) (hs' : zs h' ≤ 30000 + 6000 * t' + 3 * c) : R h' m' n p s c t' := by
  obtain ⟨w, rm, rk, rx, rmo, rl, rd, rh, rg, rb, bs, rt, ro⟩ := id r
  have Nl : BN hc n l := by
    obtain ⟨m, -, -, q, -⟩ := rb l hl
    exact ⟨w, hl, ⟨m, q⟩, bs.2 l hl⟩
  have C : ∀ l k, l < n → cf h' l k = cf hc l k := fun l k hl => BF_cf Nl F hl
  have oth : ∀ j, j < n → j ≠ l → ∀ m, RB1 hc j m → _ := fun j hj hne m B => BF_B1 Nl F hj (bs.1 j l hj hl hne).1 (bs.1 j l hj hl hne).2 B
  obtain ⟨mm, m1, m2, m3, m4, m5, m6⟩ := nw
  refine ⟨BF_LW Nl F, MF_ms N rm, ?_, RX_cg rx (by rw [BF_a Nl F (by decide)]) (BF_a Nl F (by decide)) (by rw [ma 19 (by decide) (by decide) (by decide) (by decide) (by decide)]) (ma 20 (by decide) (by decide) (by decide) (by decide) (by decide)), RM_cg rmo (BF_a Nl F (by decide)) (ma 34 (by decide) (by decide) (by decide) (by decide) (by decide)), RL_cg rl C (fun a ha => ma a (by omega) (by omega) (by omega) (by omega) (by omega)), RD_cg rd C (fun a ha => ma a (by omega) (by omega) (by omega) (by omega) (by omega)), RH_cg rh (fun l hl => C l 10 hl) (ma 35 (by decide) (by decide) (by decide) (by decide) (by decide)) (ma 24 (by decide) (by decide) (by decide) (by decide) (by decide)), ?_, fun j hj => ?_, ⟨fun i j hi hj hij => ?_, fun j hj q => ?_⟩, ⟨fun j hj => ?_, ?_⟩, ?_, ht', hn', hs'⟩
  · unfold RK
    rw [BF_a Nl F (show 17 < 45 by decide), BF_a Nl F (show 13 < 45 by decide), BF_a Nl F (show 12 < 45 by decide), BF_a Nl F (show 9 < 45 by decide), ma 19 (by decide) (by decide) (by decide) (by decide) (by decide)]
    exact rk
  · rw [ma 21 (by decide) (by decide) (by decide) (by decide) (by decide), ma 33 (by decide) (by decide) (by decide) (by decide) (by decide)]
    exact RG_cg rg (fun l k hl _ => C l k hl) (BF_a Nl F (by decide)) (BF_a Nl F (by decide))
  · by_cases e : j = l
    · subst e
      exact ⟨mm, m1, m2, m3, m4, m5, m6⟩
    · obtain ⟨u, u1, u2, u3, u4, u5, u6⟩ := rb j hj
      obtain ⟨v1, v2, v3⟩ := oth j hj e u u3
      obtain ⟨x1, x2⟩ := mj j hj e
      refine ⟨u, u1, by rw [x1]; exact u2, v1, fun i hi => ?_, fun i i2 hi hi2 => ?_, fun q => ?_⟩
      · rw [(x2 i (by omega)).1, (x2 i (by omega)).2, (v3 i hi).1, (v3 i hi).2]
        exact u4 i hi
      · rw [(x2 i (by omega)).1, (x2 i2 (by omega)).1]
        exact u5 i i2 hi hi2
      · rw [ma 24 (by decide) (by decide) (by decide) (by decide) (by decide), ma 25 (by decide) (by decide) (by decide) (by decide) (by decide)]
        exact u6 q
  · rw [BF_bl Nl F hi, BF_bl Nl F hj]
    refine ⟨(bs.1 i j hi hj hij).1, fun q => ?_⟩
    have lt : ∀ j, j < n → zbe hc j < zn hc := fun j hj => by
      obtain ⟨u, -, -, ⟨-, -, -, ⟨cap, u3⟩, -⟩, -⟩ := rb j hj
      exact u3.2.2.2.2.2.2.2.1
    by_cases e1 : i = l
    · subst e1
      obtain ⟨u, -, -, u3, -⟩ := rb j hj
      have ej := (oth j hj (Ne.symm hij) u u3).2.1
      rcases hbe with q2 | q2
      · rw [q2]
        rw [q2, ej] at q
        exact (bs.1 i j hi hj hij).2 q
      · rw [ej] at q
        have := lt j hj
        omega
    · obtain ⟨u, -, -, u3, -⟩ := rb i hi
      have ei := (oth i hi e1 u u3).2.1
      by_cases e2 : j = l
      · subst e2
        rcases hbe with q2 | q2
        · rw [ei]
          rw [q2, ei] at q
          exact (bs.1 i j hi hj hij).2 q
        · rw [ei] at q
          have := lt i hi
          omega
      · obtain ⟨u', -, -, u3', -⟩ := rb j hj
        have ej := (oth j hj e2 u' u3').2.1
        rw [ei]
        rw [ei, ej] at q
        exact (bs.1 i j hi hj hij).2 q
  · rw [BF_ed Nl F] at q
    by_cases e : j = l
    · subst e
      rcases hbe with q2 | q2
      · rw [q2]
        rw [q2] at q
        exact bs.2 j hj q
      · have := (LW_ed w).1
        omega
    · obtain ⟨u, -, -, u3, -⟩ := rb j hj
      have ej := (oth j hj e u u3).2.1
      rw [ej]
      rw [ej] at q
      exact bs.2 j hj q
  · obtain ⟨T, t1, t2⟩ := rt.1 j hj
    rw [C j 7 hj, C j 8 hj, BF_la Nl F, (BF_lot Nl F hj).2, mT_c (m := hm) (m' := m') j c (fun k _ => by rw [ma 39 (by decide) (by decide) (by decide) (by decide) (by decide), ma 40 (by decide) (by decide) (by decide) (by decide) (by decide), ma 41 (by decide) (by decide) (by decide) (by decide) (by decide)]; exact ⟨rfl, rfl, rfl⟩)]
    exact ⟨T, t1, BF_ch Nl F T _ t2⟩
  · rw [ma 39 (by decide) (by decide) (by decide) (by decide) (by decide)]
    exact rt.2
  · have o1 := ro.1
    unfold mow at o1 ⊢
    rw [ma 24 (by decide) (by decide) (by decide) (by decide) (by decide)]
    omega
end ZBF
