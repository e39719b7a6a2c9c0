section ZBI
variable {h h' hc hm : zH} {n p s c t l j k a m k0 : Nat} {x y : Int32} {α : Type}
theorem Bca (B : RB1 h l m) (hi : k < m) {f : Option α} : zca h 1 (some (zba h l k)) f = f := by
  obtain ⟨v1, v2, v3, v4⟩ := B.2.2.2.2 k hi
  unfold zca
  exact if_pos ⟨by omega, v3, by rw [v4]⟩
theorem Bgi (B : RB1 h l m) (hi : k < m) (ha : a < 2) {f : Int32 → Option α} : zgI h (some (zba h l k)) 1 a f = f (zi h (zba h l k) a) := by
  obtain ⟨v1, v2, v3, v4⟩ := B.2.2.2.2 k hi
  exact gI_k (by omega) v3 v4 ha
theorem Bget (B : RB1 h l m) (hi : k < m) {f : Option Nat → zH → Option α} : zcR 51 [vR (some (zbl h l)), vI (nI k)] h f = f (some (zba h l k)) h := by
  obtain ⟨b1, b2, b3, ⟨cap, b4⟩, b5⟩ := B
  rw [cR_k (q51 b4 hi), (b5 k hi).1]
theorem Bv (B : RB1 h l m) {f : Option α} : zvr h (some (zbl h l)) 0 f = f := by
  obtain ⟨b1, b2, b3, ⟨cap, b4⟩, b5⟩ := B
  exact vr_k b4.1 b4.2.1 b4.2.2.1
theorem Bsz (B : RB1 h l m) {f : Int32 → zH → Option α} : zcI 14 [vR (some (zbl h l))] h f = f (nI m) h := by
  obtain ⟨b1, b2, b3, ⟨cap, b4⟩, b5⟩ := B
  exact cI_k (q14 b4)
theorem Bl (w : LW h n) (hl : l < n) (B : RB1 h l m) {f : Option Nat → Option α} : zgR h (some (zla h l)) 2 6 f = f (some (zbl h l)) := by
  rw [Lgr w hl (by decide), B.1]
theorem BF_tr {h2 : zH} (A : BF h h' l) (B : BF h' h2 l) (e1 : zbl h' l = zbl h l) (e2 : zbe h' l = zbe h l) : BF h h2 l := by
  obtain ⟨a1, a2, a3, a4⟩ := A
  obtain ⟨b1, b2, b3, b4⟩ := B
  rw [e1] at b3 b4
  rw [e2] at b4
  exact ⟨by omega, fun a ha => (b2 a (by omega)).trans (a2 a ha), fun a ha hb => (b3 a (by omega) hb).trans (a3 a ha hb), fun a ha hb he => (b4 a (by omega) hb he).trans (a4 a ha hb he)⟩
theorem w72 (w : LW h n) (hl : l < n) (B : RB1 h l m) (hm : m ≤ 100) : ∀ d i, j + d = i → i ≤ m → (∀ k, j ≤ k → k < i → zi h (zba h l k) 0 ≠ x) → zev 72 10 [some (vR (some (zla h l))), some (vI x), some (vI y), some (vI (nI i + -1))] [] h = zev 72 10 [some (vR (some (zla h l))), some (vI x), some (vI y), some (vI (nI j + -1))] [] h := by
  intro d
  induction d with
  | zero =>
    intro i hi _ _
    have : i = j := by omega
    rw [this]
  | succ d ih =>
    intro i hi him hne
    obtain ⟨i', rfl⟩ : ∃ i', i = i' + 1 := ⟨i - 1, by omega⟩
    refine Eq.trans ?_ (ih i' (by omega) (by omega) (fun k h1 h2 => hne k h1 (by omega)))
    rw [pk_m1, b72_10, if_neg (nI_nn (by omega)), Bl w hl B, Bv B, Bget B (by omega), Bca B (by omega), Bgi B (by omega) (by decide), if_neg (hne i' (by omega) (by omega))]
theorem t72r (N : BN h n l) (B : RB1 h l m) (hk : k < m) : ∃ h', zcall 43 [vR (some (zbl h l)), vI (nI k)] h = some (some (vR (some (zba h l k))), h') ∧ BF h h' l ∧ RB1 h' l (m - 1) ∧ (∀ i, i < m - 1 → zba h' l i = zba h l (if i < k then i else i + 1)) ∧ zbe h' l = zbe h l ∧ zn h' = zn h ∧ zs h' = zs h := by
  obtain ⟨n1, n2, n3, n4, n5, n6, n7, n8⟩ := BN_1 N
  obtain ⟨b1, b2, b3, ⟨cap, b4⟩, b5⟩ := id B
  obtain ⟨h', c1, c2, c3, k1, k2, k3, k4, k5⟩ := q43 b4 hk
  have F : BF h h' l := ⟨by rw [k4]; exact Nat.le_refl _, fun a _ => k3 a, fun a _ hb => funext fun i => k1 a i (fun q => hb q.1), fun a _ _ hb => funext fun i => k2 a i hb⟩
  have e1 : zbl h' l = zbl h l := BF_bl N F N.2.1
  have hne : zbl h l ≠ zbe h l := fun q => by rw [← q, n3] at n6; cases n6
  have e2 : zbe h' l = zbe h l := by
    unfold zbe
    rw [e1, k2 _ _ hne]
  have e3 : ∀ i, i < m - 1 → zba h' l i = zba h l (if i < k then i else i + 1) := fun i hi => by
    unfold zba
    rw [e2, c3 i hi]
    split <;> rfl
  rw [(b5 k hk).1] at c1
  refine ⟨h', c1, F, ⟨by rw [BF_la N F, e1, (BF_lot N F N.2.1).2]; exact b1, by rw [e1]; exact b2, by rw [e2]; exact b3, ⟨cap, by rw [e1, e2]; exact c2⟩, fun i hi => ?_⟩, e3, e2, k4, k5⟩
  have ei := c3 i hi
  by_cases g : i < k
  · rw [if_pos g] at ei
    rw [e2, e3 i hi, if_pos g, ei, k4, k3]
    exact b5 i (by omega)
  · rw [if_neg g] at ei
    rw [e2, e3 i hi, if_neg g, ei, k4, k3]
    exact b5 (i + 1) (by omega)
theorem t72 (N : BN h n l) (B : RB1 h l m) (hm : m < 100) : ∃ h', zev 72 10 [some (vR (some (zla h l))), some (vI x), some (vI y), some (vI (-1))] [] h = some (none, h') ∧ BF h h' l ∧ RB1 h' l (m + 1) ∧ (∀ i, i < m → zba h' l i = zba h l i) ∧ zi h' (zba h' l m) 0 = x ∧ zi h' (zba h' l m) 1 = y ∧ (zbe h' l = zbe h l ∨ zn h ≤ zbe h' l) ∧ zn h' ≤ zn h + 2 ∧ zs h' ≤ zs h + 500 := by
  obtain ⟨w, hl, -, bs⟩ := id N
  obtain ⟨n1, n2, n3, n4, n5, n6, n7, n8⟩ := BN_1 N
  obtain ⟨b1, b2, b3, ⟨cap, b4⟩, b5⟩ := id B
  have h45 := w.1.1
  have e73' : ∀ (f : Option Nat → zH → Option (Option zV × zH)), zno h 1 f = f (some (zn h)) (znw h 1 2) := fun f => rfl
  generalize hh4 : zui (zui (znw h 1 2) (zn h) 0 x) (zn h) 1 y = h4
  have m4 : zn h4 = zn h + 1 := by rw [← hh4]; rfl
  have s4 : zs h4 = zs h + 2 := by rw [← hh4]; rfl
  have k4 : ∀ a, a < zn h → zk h4 a = zk h a := fun a ha => by
    rw [← hh4]
    show zk (znw h 1 2) a = _
    rw [zk_nw, if_neg (by omega)]
  have k4n : zk h4 (zn h) = (1, 2) := by
    rw [← hh4]
    show zk (znw h 1 2) (zn h) = _
    rw [zk_nw, if_pos rfl]
  have i4 : ∀ a, a < zn h → zi h4 a = zi h a := fun a ha => by
    rw [← hh4]
    funext k
    rw [zi_ua (by omega), zi_ua (by omega), zi_nw, if_neg (by omega)]
  have r4 : ∀ a, a < zn h → zr h4 a = zr h a := fun a ha => by
    rw [← hh4]
    funext k
    show zr (znw h 1 2) a k = _
    rw [zr_nw, if_neg (by omega)]
  have i40 : zi h4 (zn h) 0 = x := by rw [← hh4, zi_uk (by decide), zi_us]
  have i41 : zi h4 (zn h) 1 = y := by rw [← hh4, zi_us]
  have L4 : zLi h4 (zbl h l) (zbe h l) m cap := by
    obtain ⟨l1, l2, l3, l4, l5, l6, l7, l8, l9, l10, l11⟩ := b4
    exact ⟨l1, by omega, by rw [k4 _ l2]; exact l3, by rw [r4 _ l2]; exact l4, by rw [i4 _ l2]; exact l5, l6, l7, by omega, by rw [k4 _ l8]; exact l9, l10, fun i hi => by rw [r4 _ l8]; exact zob_up (by omega) k4 (l11 i hi)⟩
  have ho : zob h4 (zn h) := ⟨by omega, by omega, by rw [k4n]; exact Or.inl rfl⟩
  obtain ⟨h', ed', cap', c1, c2, ⟨a1, a2, a3, a4, a5, a6, a7, a8, a9, a10⟩, -⟩ := q29 L4 ho hm
  have h73 : zcall 73 [vR (some (zn h)), vI x, vI y] (znw h 1 2) = some (none, h4) := by
    rw [e73, ul_s, pI_k (by omega) (by rw [zn_nw]; omega) (show zk (znw h 1 2) (zn h) = (1, 2) by rw [zk_nw, if_pos rfl]) (by decide), pI_k (by omega) (by rw [zn_ui, zn_nw]; omega) (show zk (zui (znw h 1 2) (zn h) 0 x) (zn h) = (1, 2) by rw [zk_ui, zk_nw, if_pos rfl]) (by decide), hh4]
  have F : BF h h' l := by
    refine ⟨by omega, fun a ha => by rw [a6 a (by omega), k4 a ha], fun a ha hb => ?_, fun a ha hb he => ?_⟩
    · funext k
      rw [a4 a k (by omega) (fun q => hb q.1), i4 a ha]
    · funext k
      rw [a5 a k (by omega) he (fun q => hb q.1), r4 a ha]
  have e1 : zbl h' l = zbl h l := BF_bl N F hl
  have e2 : zbe h' l = ed' := by
    unfold zbe
    rw [e1, c2.2.2.2.1]
    rfl
  have e3 : ∀ i, i < m → zba h' l i = zba h l i := fun i hi => by
    unfold zba
    rw [e2, a1 i hi, r4 _ n5]
  have e4 : zba h' l m = zn h := by
    unfold zba
    rw [e2, a2]
    rfl
  have hz : ∀ k, zi h' (zn h) k = zi h4 (zn h) k := fun k => a4 (zn h) k (by omega) (fun q => by omega)
  have hed : ed' = zbe h l ∨ zn h ≤ ed' := by
    rcases a3 with q | q
    · exact Or.inl q
    · exact Or.inr (by omega)
  refine ⟨h', ?_, F, ⟨?_, by rw [e1]; exact b2, ?_, ⟨cap', by rw [e1, e2]; exact c2⟩, fun i hi => ?_⟩, e3, by rw [e4, hz, i40], by rw [e4, hz, i41], by rw [e2]; exact hed, by omega, by omega⟩
  · rw [b72_10, if_pos (by decide), Bl w hl B, e73', ul_s, cV_k h73, vr_k L4.1 L4.2.1 L4.2.2.1, cI_k c1]
  · rw [BF_la N F, e1, (BF_lot N F hl).2]; exact b1
  · rw [e2]
    rcases hed with q | q
    · rw [q]; exact b3
    · exact Or.inr (by omega)
  · by_cases g : i = m
    · subst g
      rw [e2, e4, a2]
      exact ⟨rfl, by omega, by omega, by rw [a6 _ (by omega)]; exact k4n⟩
    · have hi' : i < m := by omega
      rw [e2, e3 i hi', a1 i hi', r4 _ n5]
      obtain ⟨v1, v2, v3, v4⟩ := b5 i hi'
      exact ⟨v1, v2, by omega, by rw [a6 _ (by omega), k4 _ v3]; exact v4⟩
theorem sub1 (x : Int32) : x - 1 = x + -1 := Int32.sub_eq_add_neg x 1
theorem q72 (N : BN h n l) (B : RB1 h l m) (hm : m ≤ 20) (hk : k0 ≤ m) (hne : ∀ i, i < m → i ≠ k0 → zi h (zba h l i) 0 ≠ x) (hk0 : k0 < m → zi h (zba h l k0) 0 = x) : ∃ h', zcall 72 [vR (some (zla h l)), vI x, vI y] h = some (none, h') ∧ BF h h' l ∧ RB1 h' l ((if k0 < m then m - 1 else m) + 1) ∧ (∀ i, i < (if k0 < m then m - 1 else m) → zba h' l i = zba h l (if i < k0 then i else i + 1)) ∧ zi h' (zba h' l (if k0 < m then m - 1 else m)) 0 = x ∧ zi h' (zba h' l (if k0 < m then m - 1 else m)) 1 = y ∧ (zbe h' l = zbe h l ∨ zn h ≤ zbe h' l) ∧ zn h' ≤ zn h + 2 ∧ zs h' ≤ zs h + 500 := by
  obtain ⟨w, hl, -, bs⟩ := id N
  obtain ⟨n1, n2, n3, n4, n5, n6, n7, n8⟩ := BN_1 N
  rw [e72, Bl w hl B, Bv B, Bsz B, sub1]
  have e0 : nI 0 + -1 = -1 := by decide
  by_cases g : k0 < m
  · rw [if_pos g]
    obtain ⟨h1, c1, F1, B1, z1, be1, zn1, zs1⟩ := t72r N B g
    have N1 : BN h1 n l := ⟨BF_LW N F1, hl, ⟨_, B1⟩, by rw [be1, BF_ed N F1]; exact bs⟩
    obtain ⟨h', d1, d2, d3, d4, d5, d6, d7, d8, d9⟩ := t72 (x := x) (y := y) N1 B1 (by omega)
    have hz : ∀ i, i < k0 → zi h1 (zba h1 l i) 0 ≠ x := fun i hi => by
      rw [z1 i (by omega), if_pos hi]
      obtain ⟨v1, v2, v3, v4⟩ := B.2.2.2.2 i (by omega)
      rw [F1.2.2.1 _ v3 (fun q => by rw [q, n3] at v4; cases v4)]
      exact hne i (by omega) (by omega)
    refine ⟨h', ?_, BF_tr F1 d2 (BF_bl N F1 hl) be1, d3, fun i hi => by rw [d4 i hi, z1 i hi], d5, d6, ?_, by omega, by omega⟩
    · rw [w72 (j := k0 + 1) w hl B (by omega) (m - (k0 + 1)) m (by omega) (by omega) (fun k h1 h2 => hne k h2 (by omega)), pk_m1, b72_10, if_neg (nI_nn (by omega)), Bl w hl B, Bv B, Bget B g, Bca B g, Bgi B g (by decide), if_pos (hk0 g), Bl w hl B, Bv B, cR_k c1, ← BF_la N F1 l, w72 (j := 0) N1.1 hl B1 (by omega) k0 k0 (by omega) (by omega) (fun k _ h2 => hz k h2), e0, d1]
    · rcases d7 with q | q
      · exact Or.inl (q.trans be1)
      · exact Or.inr (by omega)
  · rw [if_neg g]
    obtain ⟨h', d1, d2, d3, d4, d5, d6, d7, d8, d9⟩ := t72 (x := x) (y := y) N B (by omega)
    refine ⟨h', ?_, d2, d3, fun i hi => by rw [d4 i hi, if_pos (by omega)], d5, d6, d7, d8, d9⟩
    rw [w72 (j := 0) w hl B (by omega) m m (by omega) (by omega) (fun k _ h2 => hne k h2 (by omega)), e0, d1]
end ZBI
