/-- a drawing's frame, without the text's length -/
def D7 (hc h : zH) (n : Nat) : Prop := zn hc ≤ zn h ∧ (∀ a, a < zn hc → zk h a = zk hc a) ∧ (∀ a, a < zn hc → a ≠ 9 → a ≠ 11 → a ≠ 13 → a ≠ 14 → a ≠ 16 → zi h a = zi hc a) ∧ (∀ a, a < zn hc → a ≠ 16 → a ≠ zed hc → zr h a = zr hc a) ∧ zi h 13 4 = zi hc 13 4 ∧ (∀ l, l < n → zla h l = zla hc l) ∧ (zed h = zed hc ∨ zn hc ≤ zed h)
section ZDR
variable {hc hm h h' m : zH} {n n' p s s' c t l j k a : Nat} {x y : Int32}
theorem mT_no (l : Nat) : ∀ c, (∀ k, k < c → zi m 39 k ≠ nI l) → mT m l c = [(-1, -1)]
  | 0, _ => rfl
  | c + 1, F => by
    unfold mT
    rw [if_neg (F c (by omega)), mT_no l c (fun k hk => F k (by omega))]
theorem mow_ext (hn : n ≤ n') (e1 : ∀ l, l < n → zi m 24 l = zi hm 24 l) (e2 : ∀ l, n ≤ l → l < n' → zi m 24 l = -1) : mow m n' = mow hm n := by
  unfold mow
  obtain ⟨d, rfl⟩ : ∃ d, n' = n + d := ⟨n' - n, by omega⟩
  clear hn
  induction d with
  | zero => exact cP_cg n (fun j hj => by rw [e1 j hj])
  | succ d ih =>
    rw [show n + (d + 1) = (n + d) + 1 by omega, List.range'_1_concat, List.countP_append, ih (fun l h1 h2 => e2 l h1 (by omega))]
    simp [e2 (n + d) (by omega) (by omega)]
theorem R_draw (r : R hc hm n p s c t) (ht : t < 512) (D : D7 hc h n) (W : LW h n') (hn : n ≤ n') (FL : ∀ l, n ≤ l → l < n' → FLt hc h l) (DB : ∀ l j, n ≤ l → l < j → j < n' → zbl h l ≠ zbl h j) (hzn : zn h ≤ zn hc + 200) (hzs : zs h ≤ zs hc + 6000) (N : MF hm m) (ma : ∀ a, a = 26 ∨ a = 27 ∨ a = 29 ∨ a = 34 ∨ a = 35 ∨ a = 37 ∨ a = 38 ∨ a = 39 ∨ a = 40 ∨ a = 41 → zi m a = zi hm a) (mo : ∀ a l, a = 23 ∨ a = 24 ∨ a = 25 ∨ a = 28 ∨ a = 30 ∨ a = 31 ∨ a = 32 ∨ a = 36 → l < n → zi m a l = zi hm a l) (mn : ∀ l, n ≤ l → l < n' → zi m 23 l = cArea h l ∧ zi m 24 l = -1 ∧ zi m 25 l = cf h l 4 ∧ zi m 28 l = 0 ∧ zi m 30 l = 0 ∧ zi m 31 l = -1 ∧ zi m 32 l = -1 ∧ zi m 36 l = 0) (m19 : ∀ k, k = 18 ∨ 24 ≤ k ∧ k ≤ 31 → zi m 19 k = zi hm 19 k) (e5 : zi m 19 5 = nI n') (e16 : zi m 19 16 = nI s') (es : zi h 13 3 = nI s') (hs : s' ≤ 12) (et : zi h 9 2 = 0) (et' : zi m 19 1 = 0) (ef : zi h 9 3 = zi m 19 2) (G : RG h (zi m 21) (zi m 33) n' s') : R h m n' p s' c (t + 1) := by
  obtain ⟨w, rm, rk, rx, rmo, rl, rd, rh, rg, rb, bs, rt, ro⟩ := id r
  obtain ⟨k1, k2, k3, k4, k5, k6, k7, k8, k9, ⟨D0, k10, k10a, k10b⟩, k11, k12, k13, k14, k15, ⟨e, k16, k17, k18⟩, k19⟩ := id rk
  obtain ⟨d1, d2, d3, d4, d5, d6, d7⟩ := D
  have h45 := w.1.1
  have hed := LW_ed w
  have hn40 := W.2.1
  have ca : ∀ a, a < 45 → a ≠ 9 → a ≠ 11 → a ≠ 13 → a ≠ 14 → a ≠ 16 → zi h a = zi hc a := fun a h0 h1 h2 h3 h4 h5 => d3 a (by omega) h1 h2 h3 h4 h5
  have cfo : ∀ l k, l < n → cf h l k = cf hc l k := fun l k hl => by
    obtain ⟨u1, u2, u3⟩ := LW_la w hl
    unfold cf
    rw [d6 l hl, d3 _ u2 (by omega) (by omega) (by omega) (by omega) (by omega)]
  have zro : ∀ l, l < n → zr h (zla hc l) = zr hc (zla hc l) := fun l hl => by
    obtain ⟨u1, u2, u3⟩ := LW_la w hl
    exact d4 _ u2 (by omega) (fun q => by rw [q] at u3; rw [u3] at hed; exact absurd hed.2.1 (by decide))
  have blo : ∀ l, l < n → zbl h l = zbl hc l := fun l hl => by
    unfold zbl
    rw [d6 l hl, zro l hl]
  -- the bids of the old lots
  have old : ∀ l mm, l < n → RB1 hc l mm → RB1 h l mm ∧ zbe h l = zbe hc l ∧ ∀ i, i < mm → zba h l i = zba hc l i ∧ zi h (zba hc l i) = zi hc (zba hc l i) := fun l mm hl B => by
    obtain ⟨b1, b2, b3, ⟨cap, b4⟩, b5⟩ := B
    obtain ⟨l1, l2, l3, l4, l5, l6, l7, l8, l9, l10, l11⟩ := id b4
    have q1 : zbl hc l ≠ zed hc := fun q => by rw [q] at l3; rw [l3] at hed; exact absurd hed.2.1 (by decide)
    have er := d4 _ l2 (by omega) q1
    have ei := d3 _ l2 (show zbl hc l ≠ 9 by omega) (by omega) (by omega) (by omega) (by omega)
    have eb : zbe h l = zbe hc l := by
      unfold zbe
      rw [blo l hl, er]
    have ee : 0 < cap → zr h (zbe hc l) = zr hc (zbe hc l) := fun q => d4 _ l8 (by omega) (fun q2 => by have := bs.2 l hl q2; omega)
    have ea : ∀ i, i < mm → zba h l i = zba hc l i := fun i hi => by
      unfold zba
      rw [eb, ee (by omega)]
    refine ⟨⟨by rw [d6 l hl, blo l hl, zro l hl]; exact b1, by rw [blo l hl]; exact b2, by rw [eb]; exact b3, ⟨cap, ?_⟩, fun i hi => ?_⟩, eb, fun i hi => ⟨ea i hi, ?_⟩⟩
    · rw [blo l hl, eb]
      refine ⟨l1, by omega, by rw [d2 _ l2]; exact l3, by rw [er]; exact l4, by rw [ei]; exact l5, l6, l7, by omega, by rw [d2 _ l8]; exact l9, l10, fun i hi => ?_⟩
      rw [ee (by omega)]
      exact zob_up d1 d2 (l11 i hi)
    · obtain ⟨v1, v2, v3, v4⟩ := b5 i hi
      rw [eb, ea i hi, ee (by omega)]
      exact ⟨v1, v2, by omega, by rw [d2 _ v3]; exact v4⟩
    · obtain ⟨v1, v2, v3, v4⟩ := b5 i hi
      exact d3 _ v3 (by omega) (by omega) (by omega) (by omega) (by omega)
  have nbe : ∀ l, n ≤ l → l < n' → zbe h l = 7 := fun l h1 h2 => by
    obtain ⟨f1, f2, f3, f4, f5, f6, f7, f8, f9, f10, f11, f12, f13, f14, f15⟩ := FL l h1 h2
    unfold zbe
    rw [f13]
    rfl
  have k7' : zk h 7 = (103, 0) := by rw [d2 7 (by omega)]; exact C_7 w.1
  have chn : ∀ (T : List (Int32 × Int32)) (q : Option Nat), zch hc T q → zch h T q := by
    intro T
    induction T with
    | nil => intro q e; exact e
    | cons e T ih =>
      rintro q ⟨a, a1, a2, a3, a4, a5, a6, a7⟩
      have ez := d3 a a3 (by omega) (by omega) (by omega) (by omega) (by omega)
      have er := d4 a a3 (by omega) (fun q => by rw [q] at a4; rw [a4] at hed; exact absurd hed.2.1 (by decide))
      exact ⟨a, a1, a2, by omega, by rw [d2 a a3]; exact a4, by rw [ez]; exact a5, by rw [ez]; exact a6, by rw [er]; exact ih _ a7⟩
  refine ⟨W, MF_ms N rm, ?_, ⟨0, by omega, et.trans nI_0.symm, et'.trans nI_0.symm, fun i hi => absurd hi (by omega)⟩, ?_, fun l hl => ?_, fun l hl => ?_, ⟨fun q hq => ?_, fun l hl => ?_⟩, G, fun l hl => ?_, ⟨fun l j hl hj hlj => ?_, fun l hl q => ?_⟩, ⟨fun l hl => ?_, fun k hk => ?_⟩, ?_⟩
  · refine ⟨e5, by rw [ca 17 (by decide) (by decide) (by decide) (by decide) (by decide) (by decide)]; exact k2, by rw [m19 18 (by omega)]; exact k3, k4, es, e16, hs, by rw [ca 12 (by decide) (by decide) (by decide) (by decide) (by decide) (by decide)]; exact k8, by rw [m19 31 (by omega)]; exact k9, ⟨D0, k10, by rw [ca 12 (by decide) (by decide) (by decide) (by decide) (by decide) (by decide)]; exact k10a, by rw [m19 24 (by omega)]; exact k10b⟩, ?_, ?_, ?_, ?_, ?_, ⟨e, k16, by rw [d5]; exact k17, by rw [m19 25 (by omega)]; exact k18⟩, ef⟩
    · rw [ca 12 (by decide) (by decide) (by decide) (by decide) (by decide) (by decide), m19 26 (by omega)]; exact k11
    · rw [ca 12 (by decide) (by decide) (by decide) (by decide) (by decide) (by decide), m19 27 (by omega)]; exact k12
    · rw [ca 12 (by decide) (by decide) (by decide) (by decide) (by decide) (by decide), m19 28 (by omega)]; exact k13
    · rw [ca 12 (by decide) (by decide) (by decide) (by decide) (by decide) (by decide), m19 29 (by omega)]; exact k14
    · rw [ca 12 (by decide) (by decide) (by decide) (by decide) (by decide) (by decide), m19 30 (by omega)]; exact k15
  · exact RM_cg rmo (ca 18 (by decide) (by decide) (by decide) (by decide) (by decide) (by decide)) (ma 34 (by decide))
  · by_cases hl' : l < n
    · rw [mo 23 l (by decide) hl', mo 24 l (by decide) hl', mo 25 l (by decide) hl', mo 28 l (by decide) hl', mo 30 l (by decide) hl', mo 31 l (by decide) hl', mo 32 l (by decide) hl', cfo l 7 hl', cfo l 4 hl', cfo l 8 hl', cfo l 15 hl', cfo l 16 hl', cA_cg (fun k => cfo l k hl')]
      exact rl l hl'
    · obtain ⟨y1, y2, y3, y4, y5, y6, y7, y8⟩ := mn l (by omega) hl
      obtain ⟨f1, f2, f3, f4, f5, f6, f7, -⟩ := FL l (by omega) hl
      rw [y1, y2, y3, y4, y5, y6, y7, f1, f2, f6, f7]
      exact ⟨rfl, Or.inl rfl, rfl, rfl, rfl, Or.inl rfl, rfl, rfl, fun _ => ⟨rfl, rfl⟩⟩
  · by_cases hl' : l < n
    · rw [ma 26 (by decide), ma 27 (by decide), ma 29 (by decide), mo 28 l (by decide) hl', cfo l 12 hl', cfo l 11 hl', cfo l 13 hl', cfo l 14 hl']
      exact rd l hl'
    · obtain ⟨y1, y2, y3, y4, y5, y6, y7, y8⟩ := mn l (by omega) hl
      obtain ⟨f1, f2, f3, f4, f5, f6, f7, -⟩ := FL l (by omega) hl
      exact ⟨0, by omega, f5.trans nI_0.symm, y4.trans nI_0.symm, fun _ => f4, fun q => absurd q (by omega)⟩
  · rw [ma 35 (by decide)]
    rcases rh.1 q hq with g | ⟨l, hl, g1, g2, g3⟩
    · exact Or.inl g
    · exact Or.inr ⟨l, by omega, g1, by rw [cfo l 10 hl]; exact g2, by rw [mo 24 l (by decide) hl]; exact g3⟩
  · by_cases hl' : l < n
    · rw [ma 35 (by decide), cfo l 10 hl', mo 24 l (by decide) hl']
      exact rh.2 l hl'
    · exact Or.inl (FL l (by omega) hl).2.2.1
  · by_cases hl' : l < n
    · obtain ⟨u, u1, u2, u3, u4, u5, u6⟩ := rb l hl'
      obtain ⟨v1, v2, v3⟩ := old l u hl' u3
      rw [ma 37 (by decide), ma 38 (by decide), mo 36 l (by decide) hl', mo 24 l (by decide) hl', mo 25 l (by decide) hl']
      exact ⟨u, u1, u2, v1, fun i hi => by rw [(v3 i hi).1, (v3 i hi).2]; exact u4 i hi, u5, u6⟩
    · obtain ⟨y1, y2, y3, y4, y5, y6, y7, y8⟩ := mn l (by omega) hl
      obtain ⟨f1, f2, f3, f4, f5, f6, f7, f8, f9, f10, f11, f12, f13, f14, f15⟩ := FL l (by omega) hl
      have eb := nbe l (by omega) hl
      refine ⟨0, by omega, y8.trans nI_0.symm, ⟨f9, by omega, Or.inl eb, ⟨0, ?_⟩, fun i hi => absurd hi (by omega)⟩, fun i hi => absurd hi (by omega), fun i j hi => absurd hi (by omega), fun q => absurd q (by omega)⟩
      rw [eb]
      exact ⟨by omega, f11, f12, f13, f14.trans nI_0.symm, Nat.le_refl _, by omega, by omega, k7', Or.inl ⟨rfl, rfl⟩, fun i hi => absurd hi (by omega)⟩
  · have obl : ∀ l, l < n → zbl hc l < zn hc ∧ zbe hc l < zn hc := fun l hl => by
      obtain ⟨u, -, -, ⟨-, -, -, ⟨cap, u3⟩, -⟩, -⟩ := rb l hl
      exact ⟨u3.2.1, u3.2.2.2.2.2.2.2.1⟩
    have obe : ∀ l, l < n → zbe h l = zbe hc l := fun l hl => by
      obtain ⟨u, -, -, u3, -⟩ := rb l hl
      exact (old l u hl u3).2.1
    by_cases e1 : l < n
    · by_cases e2 : j < n
      · rw [blo l e1, blo j e2, obe l e1, obe j e2]
        exact bs.1 l j e1 e2 hlj
      · have f10 := (FL j (by omega) hj).2.2.2.2.2.2.2.2.2.1
        rw [blo l e1]
        refine ⟨by have := (obl l e1).1; omega, fun q => by rw [q]; exact nbe j (by omega) hj⟩
    · have f10 := (FL l (by omega) hl).2.2.2.2.2.2.2.2.2.1
      refine ⟨?_, fun _ => nbe l (by omega) hl⟩
      by_cases e2 : j < n
      · rw [blo j e2]
        have := (obl j e2).1
        omega
      · rcases Nat.lt_or_gt_of_ne hlj with q | q
        · exact DB l j (by omega) q hj
        · exact (DB j l (by omega) q hl).symm
  · by_cases e1 : l < n
    · obtain ⟨u, -, -, u3, -⟩ := rb l e1
      have ebe := (old l u e1 u3).2.1
      obtain ⟨-, -, -, ⟨cap, u4⟩, -⟩ := u3
      have hlt := u4.2.2.2.2.2.2.2.1
      rw [ebe] at q ⊢
      rcases d7 with q2 | q2
      · exact bs.2 l e1 (q.trans q2)
      · omega
    · exact nbe l (by omega) hl
  · rw [mT_c (m := hm) (m' := m) l c (fun k _ => by rw [ma 39 (by decide), ma 40 (by decide), ma 41 (by decide)]; exact ⟨rfl, rfl, rfl⟩)]
    by_cases hl' : l < n
    · obtain ⟨T, t1, t2⟩ := rt.1 l hl'
      rw [cfo l 7 hl', cfo l 8 hl', d6 l hl', zro l hl']
      exact ⟨T, t1, chn T _ t2⟩
    · obtain ⟨f1, f2, f3, f4, f5, f6, f7, f8, -⟩ := FL l (by omega) hl
      refine ⟨[], ?_, f8⟩
      rw [f1, f2]
      refine mT_no l c (fun k hk q => ?_)
      obtain ⟨j, hj, e⟩ := rt.2 k hk
      have := (nI_eq (by omega) (by omega)).mp (q.symm.trans e)
      omega
  · rw [ma 39 (by decide)]
    obtain ⟨j, hj, e⟩ := rt.2 k hk
    exact ⟨j, by omega, e⟩
  · obtain ⟨o1, o2, o3, o4⟩ := ro
    have em := mow_ext (m := m) (hm := hm) hn (fun l hl => mo 24 l (by decide) hl) (fun l h1 h2 => (mn l h1 h2).2.1)
    exact ⟨by rw [em]; omega, by omega, by omega, by omega⟩
theorem D7_FO (D : D7 hc h n) (w : LW hc n) : FO hc h := by
  obtain ⟨d1, d2, d3, d4, -⟩ := D
  have h45 := w.1.1
  have w4 := w.2.2.2.1
  exact ⟨d1, fun a h1 h2 => ⟨d2 a (by omega), d3 a (by omega) (by omega) (by omega) (by omega) (by omega) (by omega), d4 a (by omega) (by omega) (by omega)⟩, fun a h1 => ⟨d2 a (by omega), d3 a (by omega) (by omega) (by omega) (by omega) (by omega) (by omega)⟩⟩
end ZDR
