section ZCL
variable {h h' hc hm m1 : zH} {n p s c t l j k a m q : Nat} {x y z v : Int32} {u4 u5 : Option zV}
/-- money goes, a sum is told -/
theorem R_pay (r : R hc hm n p s c t) (hq : q < p) (hk : k = 6 ∨ k = 7) (w0 : Int32) (ev : zi hc 12 k + w0 = x) : R (zui (zui hc 18 q v) 12 k x) (zui (zui hm 34 q v) 19 (23 + k) x) n p s c t := by
  obtain ⟨w, rm, rk, rx, rmo, rl, rd, rh, rg, rb, bs, rt, ro⟩ := id r
  have ht := (R_c r).2
  have F : Fr hc (zui (zui hc 18 q v) 12 k x) := Fx (Fx (Fr_rfl w.1) (by decide) w.1) (by decide) w.1
  have N : MF hm (zui (zui hm 34 q v) 19 (23 + k) x) := MF_u (MF_ui (by decide) (by decide)) (by decide) (by decide)
  obtain ⟨k1, k2, k3, k4, k5, k6, k7, k8, k9, k10, k11, k12, k13, k14, k15, k16, k19⟩ := rk
  refine R_fix r F N (fun l k hl => ?_) (fun _ _ => rfl) (by rw [zi_f (by decide), zi_f (by decide)]) (by rw [zi_f (by decide), zi_f (by decide)]) (fun a h1 h2 h3 => by rw [zi_f (by omega), zi_f (by omega)]) ?_ (RX_cg rx (by rw [zi_ua (by decide), zi_ua (by decide)]) (by rw [zi_f (by decide), zi_f (by decide)]) (by rw [zi_uk (by omega), zi_ua (by decide)]) (by rw [zi_f (by decide), zi_f (by decide)])) (fun i hi => ?_) (Nat.le_refl _) ht rfl rfl
  · show zi (zui (zui hc 18 q v) 12 _ x) (zla hc l) k = zi hc (zla hc l) k
    rw [zl_a w hl (by decide), zl_a w hl (by decide)]
  · rcases hk with e | e
    · subst e
      exact ⟨k1, k2, k3, k4, k5, k6, k7, k8, k9, k10, k11, k12, k13, by rw [zi_us, zi_us], k15, k16, k19⟩
    · subst e
      exact ⟨k1, k2, k3, k4, k5, k6, k7, k8, k9, k10, k11, k12, k13, k14, by rw [zi_us, zi_us], k16, k19⟩
  · rw [zi_ua (show (18 : Nat) ≠ 12 by decide), zi_ua (show (34 : Nat) ≠ 19 by decide), zi_ui, zi_ui, rmo i hi]
    simp
/-- the bids of lot l are gone -/
theorem R_clear (r : R hc hm n p s c t) (hl : l < n) (e : zi hm 36 l = nI m) (hm0 : 0 < m) (B : RB1 hc l m) : ∃ h', zcall 78 [vR (some (zbl hc l))] hc = some (none, h') ∧ R h' (zui hm 36 l 0) n p s c t ∧ BF hc h' l ∧ BN hc n l ∧ ∀ a, zk h' a = zk hc a := by
  obtain ⟨w, rm, rk, rx, rmo, rl, rd, rh, rg, rb, bs, rt, ro⟩ := id r
  have Nl : BN hc n l := ⟨w, hl, ⟨m, B⟩, bs.2 l hl⟩
  obtain ⟨n1, n2, n3, n4, n5, n6, n7, n8⟩ := BN_1 Nl
  obtain ⟨b1, b2, b3, ⟨cap, b4⟩, b5⟩ := id B
  obtain ⟨h', c1, c2, k1, k2, k3, k4, k5⟩ := q78 b4 hm0
  have F : BF hc h' l := ⟨by rw [k4]; exact Nat.le_refl _, fun a _ => k3 a, fun a _ hb => funext fun i => k1 a i (fun q => hb q.1), fun a _ _ hb => funext fun i => k2 a i hb⟩
  have e1 : zbl h' l = zbl hc l := BF_bl Nl F hl
  have hne : zbl hc l ≠ zbe hc l := fun q => by rw [← q, n3] at n6; cases n6
  have e2 : zbe h' l = zbe hc l := by
    unfold zbe
    rw [e1, k2 _ _ hne]
  have B' : RB1 h' l 0 := ⟨by rw [BF_la Nl F, e1, (BF_lot Nl F hl).2]; exact b1, by rw [e1]; exact b2, by rw [e2]; exact b3, ⟨cap, by rw [e1, e2]; exact c2⟩, fun i hi => absurd hi (by omega)⟩
  obtain ⟨o1, o2, o3, o4⟩ := ro
  refine ⟨h', c1, ?_, F, Nl, k3⟩
  refine R_bid r hl F (MF_ui (by decide) (by decide)) (fun a h1 h2 h3 h4 h5 => zi_f (Ne.symm h3)) (fun j hj hjl => ⟨zi_uk hjl, fun i hi => ⟨zi_ua (by decide), zi_ua (by decide)⟩⟩) ⟨0, by omega, by rw [zi_us]; exact nI_0.symm, B', fun i hi => absurd hi (by omega), fun i j hi => absurd hi (by omega), fun q => absurd q (by omega)⟩ (Or.inl e2) (Nat.le_refl _) o2 (by rw [k4]; exact o3) (by rw [k5]; exact o4)
/-- the best bid so far: here and there -/
def cB (h : zH) (l : Nat) (b : Option Nat) : Option Nat := b.map (zba h l)
def mB (b : Option Nat) : Int32 := match b with
  | none => -1
  | some k => nI k
theorem w77 (r : R hc hm n p s c t) (hl : l < n) (e36 : zi hm 36 l = nI m) (hm20 : m ≤ 20) (B : RB1 hc l m) (m4 : ∀ i, i < m → ∃ q, q < p ∧ zi hm 37 (20 * l + i) = nI q ∧ zi hc (zba hc l i) 0 = nI q ∧ zi hc (zba hc l i) 1 = zi hm 38 (20 * l + i)) : ∀ (k i : Nat) (b : Option Nat) (u4 u5 u4' u5' : Option zV), i + k = m → (∀ j, b = some j → j < m ∧ ∃ q, q < p ∧ zi hm 37 (20 * l + j) = nI q ∧ ¬ zi hm 34 q < zi hm 38 (20 * l + j) / 4) → ∃ b', (∀ j, b' = some j → j < m ∧ ∃ q, q < p ∧ zi hm 37 (20 * l + j) = nI q ∧ ¬ zi hm 34 q < zi hm 38 (20 * l + j) / 4) ∧ zev 77 4 [some (vR (some 12)), some (vR (some (zla hc l))), some (vR (cB hc l b)), some (vI (nI i)), u4, u5] [] hc = some (some (vR (cB hc l b')), hc) ∧ ∃ v4 v5, zev 142 29 [some (vR (some 19)), some (vI (nI l)), some (vI (mB b)), some (vI (nI i)), u4', u5'] [] hm = zev 142 29 [some (vR (some 19)), some (vI (nI l)), some (vI (mB b')), some (vI (nI m)), v4, v5] [] hm := by
  obtain ⟨w, rm, rk, rx, rmo, rl, rd, rh, rg, rb, bs, rt, ro⟩ := id r
  obtain ⟨k1, k2, k3, k4, -⟩ := id rk
  have hn := w.2.1
  intro k
  induction k with
  | zero =>
    intro i b u4 u5 u4' u5' hi hb
    have : i = m := by omega
    subst this
    refine ⟨b, hb, ?_, u4', u5', rfl⟩
    rw [b77_4, Bl w hl B, Bv B, Bsz B, if_neg (nI_nlt (by omega) (by omega))]
  | succ k ih =>
    intro i b u4 u5 u4' u5' hi hb
    obtain ⟨q, hq, q1, q2, q3⟩ := m4 i (by omega)
    have hqx : 0 ≤ (nI q).toInt ∧ (nI q).toInt < p := by rw [nI_toInt (by omega)]; omega
    have h69 : zcall 69 [vR (some 17), vI (nI q)] hc = some (some (vI (zi hm 34 q)), hc) := by
      rw [q69 w.1 k2 k4, if_pos hqx, nI_toInt (by omega), Int.toNat_natCast, rmo q hq]
    rw [b77_4, Bl w hl B, Bv B, Bsz B, if_pos (nI_lt (by omega) (by omega)), Bl w hl B, Bv B, Bget B (by omega), Bca B (by omega), Cr12_1 w.1, Bgi B (by omega) (by decide), q2, Cv17 w.1, cI_k h69, Bgi B (by omega) (by decide), q3, dv_k (by decide), b77_55, b77_55, if_pos rfl, if_neg (show ¬ (1 : Int32) = 0 by decide), nI_1]
    rw [b142_29, Mr_bidMany rm, Ma_bidMany rm (by omega), e36, if_pos (nI_lt (by omega) (by omega)), Mr_bids rm, zcel, Ma_bids rm (by omega), Mr_money rm, Mr_bidders rm, Ma_bidders rm (by omega), q1, Ma_money rm (by omega), dv_k (by decide), b142_80, b142_80, if_pos rfl, if_neg (show ¬ (1 : Int32) = 0 by decide), nI_1]
    have nx : ∀ j, (some i : Option Nat) = some j → ¬ zi hm 34 q < zi hm 38 (20 * l + i) / 4 → j < m ∧ ∃ q, q < p ∧ zi hm 37 (20 * l + j) = nI q ∧ ¬ zi hm 34 q < zi hm 38 (20 * l + j) / 4 := by
      intro j e g
      cases e
      exact ⟨by omega, q, hq, q1, g⟩
    by_cases g : zi hm 34 q < zi hm 38 (20 * l + i) / 4
    · rw [if_pos g, if_pos g]
      exact ih (i + 1) b _ _ _ _ (by omega) hb
    · rw [if_neg g, if_neg g]
      cases b with
      | none =>
        rw [show cB hc l none = none from rfl, ul_n, show mB none = -1 from rfl, if_pos (by decide)]
        exact ih (i + 1) (some i) _ _ _ _ (by omega) (fun j e => nx j e g)
      | some j0 =>
        obtain ⟨hj, q', hq', q1', -⟩ := hb j0 rfl
        obtain ⟨q0, -, -, -, q3'⟩ := m4 j0 hj
        rw [show cB hc l (some j0) = some (zba hc l j0) from rfl, ul_s, show mB (some j0) = nI j0 from rfl, if_neg (nI_nn (by omega)), Bgi B (show i < m by omega) (by decide), q3, Bgi B hj (by decide), q3', Mr_bids rm, zcel, Ma_bids rm (by omega)]
        by_cases g2 : zi hm 38 (20 * l + j0) < zi hm 38 (20 * l + i)
        · rw [if_pos g2, if_pos g2]
          exact ih (i + 1) (some i) _ _ _ _ (by omega) (fun j e => nx j e g)
        · rw [if_neg g2, if_neg g2]
          exact ih (i + 1) (some j0) _ _ _ _ (by omega) hb
theorem J_close : JG 74 142 [vI x] := by
  intro hc hm n p s c t r ht
  obtain ⟨w, rm, rk, rx, rmo, rl, rd, rh, rg, rb, bs, rt, ro⟩ := id r
  obtain ⟨k1, k2, k3, k4, k5, k6, k7, k8, k9, ⟨d, k10, k10a, k10b⟩, k11, k12, k13, k14, k15, k16, k19⟩ := id rk
  have hn := w.2.1
  by_cases hx : 0 ≤ x.toInt ∧ x.toInt < n
  · obtain ⟨l, hl, rfl, -⟩ := zof (x := x) (n := n) (by omega) hx
    obtain ⟨m, mm1, m2, B, m4, m5, m6⟩ := rb l hl
    have e1 := e74 (some 8) (nI l) hc
    have h75 : zcall 75 [vR (some (zbl hc l))] hc = some (some (vI (if m = 0 then 1 else 0)), hc) := by
      obtain ⟨b1, b2, b3, ⟨cap, b4⟩, b5⟩ := id B
      exact q75 b4
    rw [Cr8_1 w.1, Cr12_0 w.1, Cv13 w.1, cR_k (q50y w hl), ul_s, Bl w hl B, Bv B, cI_k h75] at e1
    have e2 := e142 (some 19) (nI l) hm
    rw [M_v rm, cI_k (q129 rm k1 hn), if_pos hx, if_neg (by decide), Mr_bidMany rm, Ma_bidMany rm (by omega), m2] at e2
    by_cases g0 : m = 0
    · rw [if_pos g0, if_neg (by decide)] at e1
      rw [if_pos (by rw [g0]; exact nI_0)] at e2
      exact J_no r ht e1 e2
    · have hm0 : 0 < m := by omega
      obtain ⟨ho, hg⟩ := m6 hm0
      rw [if_neg g0, if_pos rfl, Cr8_1 w.1, Cv12 w.1] at e1
      rw [if_neg (nI_ne0 hm0 (by omega))] at e2
      obtain ⟨b', hb', f1, v4, v5, f2⟩ := w77 r hl m2 mm1 B m4 m 0 none none none none none (by omega) (fun j e => by cases e)
      rw [nI_0] at f1 f2
      have f1' : zcall 77 [vR (some 12), vR (some (zla hc l))] hc = some (some (vR (cB hc l b')), hc) := by rw [e77]; exact f1
      rw [show mB none = -1 from rfl] at f2
      obtain ⟨h1, c1, r1, F, Nl, hk1⟩ := R_clear r hl m2 hm0 B
      have rm1 : MS (zui hm 36 l 0) := rm
      rw [f2, b142_29, Mr_bidMany rm, Ma_bidMany rm (by omega), m2, if_neg (nI_nlt (by omega) (by omega)), Mr_bidMany rm, Mt_bidMany rm (by omega)] at e2
      cases b' with
      | none =>
        rw [show mB none = -1 from rfl, if_pos (by decide)] at e2
        have h76 : zcall 76 [vR (some 12), vR (some (zla hc l))] hc = some (some (vI (-1)), h1) := by
          rw [e76, Cv12 w.1, cR_k f1', Bl w hl B, Bv B, cV_k c1, show cB hc l none = none from rfl, ul_n]
        rw [cI_k h76] at e1
        exact ⟨_, _, _, n, p, s, c, e1, e2, R_t r1 (by omega) (by omega), BF_FO Nl F, MF_ui (by decide) (by decide)⟩
      | some j =>
        obtain ⟨hj, q, hq, q1, g⟩ := hb' j rfl
        obtain ⟨q', hq', q1', q2, q3⟩ := m4 j hj
        have eq : q' = q := (nI_eq (by omega) (by omega)).mp (q1'.symm.trans q1)
        subst eq
        obtain ⟨v1, v2, v3, v4'⟩ := B.2.2.2.2 j hj
        have hnb : zba hc l j ≠ zbl hc l := fun q => by rw [q, (BN_1 Nl).2.2.1] at v4'; cases v4'
        have z0 : ∀ k, zi h1 (zba hc l j) k = zi hc (zba hc l j) k := fun k => by rw [F.2.2.1 _ v3 hnb]
        generalize hsum : zi hm 38 (20 * l + j) = S at *
        -- the class: paid
        obtain ⟨w1, -, rk1, -, rmo1, -⟩ := id r1
        obtain ⟨y1, y2, y3, y4, y5, y6, y7, y8, y9, ⟨d1, y10, y10a, y10b⟩, y11, y12, y13, y14, y15, y16, y19⟩ := id rk1
        have em : zi h1 18 q' = zi hm 34 q' := by rw [rmo1 q' hq']; exact zi_ua (by decide)
        have r2 := R_pay (v := zi hm 34 q' - S / 4) r1 hq (Or.inl rfl) (S / 4) rfl
        generalize hh2 : zui (zui h1 18 q' (zi hm 34 q' - S / 4)) 12 6 (zi h1 12 6 + S / 4) = h2 at r2
        obtain ⟨w2, rm2, rk2, -, rmo2, rl2, rd2, -⟩ := id r2
        have n1 : zla h2 l = zla hc l := by
          rw [← hh2]
          exact BF_la Nl F l
        have F2 : Fr h1 h2 := by
          rw [← hh2]
          exact Fx (Fx (Fr_rfl w1.1) (by decide) w1.1) (by decide) w1.1
        have zbk : ∀ h3, Fr h1 h3 → ∀ (k : Nat) (f : Int32 → Option (Option zV × zH)), k < 2 → zgI h3 (some (zba hc l j)) 1 k f = f (zi hc (zba hc l j) k) := fun h3 F3 k f hk => by
          have hz : zba hc l j < zn h1 := by have := F.1; omega
          have hk' : zk h1 (zba hc l j) = (1, 2) := by rw [hk1]; exact v4'
          rw [gI_k (by omega) (by have := F3.1.1; omega) (by rw [F3.2.2.1 _ hz]; exact hk') hk, (F3.2.2.2.1 _ hz (by rw [hk']; exact Or.inr (Or.inl rfl))).1, z0]
        have lk : ∀ h3, Fr h2 h3 → zla h3 l = zla hc l := fun h3 F3 => (Fr_la w2 F3 l).trans n1
        -- what is owed
        generalize hbq : zui (zui (zui (zui h2 (zla h2 l) 11 (S - S / 4)) (zla h2 l) 13 ((S - S / 4) / 3)) (zla h2 l) 12 3) (zla h2 l) 14 (nI d1 + 100) = hb
        have G1 : Fr h2 (zui h2 (zla h2 l) 11 (S - S / 4)) := Fl w2 (Fr_rfl w2.1) hl
        have G2 : Fr h2 (zui (zui h2 (zla h2 l) 11 (S - S / 4)) (zla h2 l) 13 ((S - S / 4) / 3)) := Fl w2 G1 hl
        have G3 : Fr h2 (zui (zui (zui h2 (zla h2 l) 11 (S - S / 4)) (zla h2 l) 13 ((S - S / 4) / 3)) (zla h2 l) 12 3) := Fl w2 G2 hl
        have G4 : Fr h2 hb := by
          rw [← hbq]
          exact Fl w2 G3 hl
        have wb := Fr_LW w2 G4
        have h80 : zcall 80 [vR (some (zla h2 l)), vI (S - S / 4), vI (nI d1 + 100)] h2 = some (none, hb) := by
          rw [e80, Fpi w2 (Fr_rfl w2.1) hl (by decide), dv_k (by decide), Fpi w2 G1 hl (by decide), Fpi w2 G2 hl (by decide), Fpi w2 G3 hl (by decide), hbq]
        have e12 : zi h2 12 2 = nI d1 := by
          rw [← hh2, zi_uk (by decide), zi_ua (by decide)]; exact y10a
        have hbz : ∀ a i, a < 45 → zi hb a i = zi h2 a i := fun a i ha => by
          rw [← hbq, zl_f w2 hl ha, zl_f w2 hl ha, zl_f w2 hl ha, zl_f w2 hl ha]
        have hcn := R_c r
        have h81 : zcall 81 [vR (some 12), vR (some (zla h2 l)), vI (nI q')] hb = some (none, cChg hb l (nI q') c) := by
          have := q81 (x := nI q') wb hl (c := c) (by rw [hbz 12 8 (by decide)]; exact rk2.2.2.2.2.2.2.2.1) (by omega) (nI_m1 (by omega))
          rw [Fr_la w2 G4] at this
          exact this
        have G5 := Fr_tr G4 (Fr_chg (x := nI q') (c := c) wb hl)
        have h79 := q79 (y := S / 4) w1.1 y2 y4 hq
        rw [em, if_neg g] at h79
        have H3 : CS (zui h1 18 q' (zi hm 34 q' - S / 4)) := w1.1
        have h76 : zcall 76 [vR (some 12), vR (some (zla hc l))] hc = some (some (vI (nI q')), cChg hb l (nI q') c) := by
          rw [e76, Cv12 w.1, cR_k f1', Bl w hl B, Bv B, cV_k c1, show cB hc l (some j) = some (zba hc l j) from rfl, ul_s, zbk h1 (Fr_rfl w1.1) 1 _ (by decide), q3, dv_k (by decide), Cr12_1 w1.1, zbk h1 (Fr_rfl w1.1) 0 _ (by decide), q2, Cv17 w1.1, cI_k h79, Ci12_6 H3, zi_ua (by decide), Cp12_6 H3, hh2, zbk h2 F2 1 _ (by decide), q3, Ci12_2 w2.1, e12, ← n1, Lv w2 hl, cV_k h80, zbk hb (Fr_tr F2 G4) 0 _ (by decide), q2, Cv12 G4.2.1, cV_k h81, zbk _ (Fr_tr F2 G5) 0 _ (by decide), q2]
        rw [cI_k h76] at e1
        -- the reference
        generalize hm2 : zui (zui (zui hm 36 l 0) 34 q' (zi hm 34 q' - S / 4)) 19 (23 + 6) (zi h1 12 6 + S / 4) = m2' at r2 rm2 rk2 rmo2 rl2 rd2
        have em2 : zui (zui (zui hm 36 l 0) 34 q' (zi hm 34 q' - S / 4)) 19 29 (zi hm 19 29 + S / 4) = m2' := by
          rw [← hm2, ← k14, BF_a Nl F (by decide)]
        have N2 : MF hm m2' := by
          rw [← em2]
          exact MF_u (MF_u (MF_ui (by decide) (by decide)) (by decide) (by decide)) (by decide) (by decide)
        have rma : MS (zui (zui hm 36 l 0) 34 q' (zi hm 34 q' - S / 4)) := rm
        obtain ⟨z1, z2, z3, z4, z5, z6, z7, z8, z9, ⟨d2, z10, z10a, z10b⟩, -⟩ := id rk2
        have ed : d2 = d1 := by
          have := z10a.symm.trans e12
          exact (nI_eq (by omega) (by omega)).mp this
        have h143 := q143 (x := nI q') (l := l) (c := c) rm2 z3 z4 z9 (by omega) (by omega)
        generalize hm3 : mBec m2' c p l (nI q') = m3 at h143
        have N3 : MF m2' m3 := by
          rw [← hm3]
          exact MF_bec
        have rm3 := MF_ms N3 rm2
        have m3a : ∀ a, a ≠ 19 → a ≠ 24 → a ≠ 31 → a ≠ 35 → a ≠ 39 → a ≠ 40 → a ≠ 41 → zi m3 a = zi m2' a := fun a b1 b2 b3 b4 b5 b6 b7 => by
          rw [← hm3]; exact bec_a b1 b2 b3 b4 b5 b6 b7
        have m3n : zi m3 19 24 = nI d1 := by
          rw [← hm3, bec_19, if_neg (by decide), z10b, ed]
        have ra1 : MS (zui m3 26 l ((S - S / 4) / 3)) := rm3
        have ra2 : MS (zui (zui m3 26 l ((S - S / 4) / 3)) 27 l ((S - S / 4) - 2 * ((S - S / 4) / 3))) := rm3
        have ra3 : MS (zui (zui (zui m3 26 l ((S - S / 4) / 3)) 27 l ((S - S / 4) - 2 * ((S - S / 4) / 3))) 28 l 3) := rm3
        have ra4 : MS (zui (zui (zui (zui m3 26 l ((S - S / 4) / 3)) 27 l ((S - S / 4) - 2 * ((S - S / 4) / 3))) 28 l 3) 29 l (nI d1 + 100)) := rm3
        rw [show mB (some j) = nI j from rfl, if_neg (nI_nn (by omega)), Mr_bidders rm1, zcel, Ma_bidders rm1 (by omega), zi_ua (by decide), q1, Mr_bids rm1, Ma_bids rm1 (by omega), zi_ua (by decide), hsum, dv_k (by decide), Mr_money rm1, Ma_money rm1 (by omega), dv_k (by decide), zi_ua (by decide), Mt_money rm1 (by omega), Mi_got rma, dv_k (by decide), Mp_got rma, zi_ua (by decide), zi_ua (by decide), em2, M_v rm2, cV_k h143, Mr_part rm3, dv_k (by decide), Mt_part rm3 (by omega), Mr_lastPart ra1, Mr_part ra1, Ma_part ra1 (by omega), zi_us, Mt_lastPart ra1 (by omega), Mr_partsLeft ra2, Mt_partsLeft ra2 (by omega), Mr_dueDay ra3, Mi_now ra3, zi_ua (by decide), zi_ua (by decide), zi_ua (by decide), m3n, Mt_dueDay ra3 (by omega), Mr_yearsOut ra4, Mt_yearsOut ra4 (by omega)] at e2
        generalize hm4 : zui (zui (zui (zui (zui m3 26 l ((S - S / 4) / 3)) 27 l ((S - S / 4) - 2 * ((S - S / 4) / 3))) 28 l 3) 29 l (nI d1 + 100)) 30 l 0 = m4' at e2
        have N4 : MF m2' m4' := by
          rw [← hm4]
          exact MF_u (MF_u (MF_u (MF_u (MF_u N3 (by decide) (by decide)) (by decide) (by decide)) (by decide) (by decide)) (by decide) (by decide)) (by decide) (by decide)
        refine ⟨_, _, _, n, p, s, c + 1, e1, e2, ?_, ?_, MF_tr N2 N4⟩
        · have cb : ∀ i k, i < n → cf hb i k = if i = l ∧ k = 14 then nI d1 + 100 else if i = l ∧ k = 12 then 3 else if i = l ∧ k = 13 then (S - S / 4) / 3 else if i = l ∧ k = 11 then S - S / 4 else cf h2 i k := fun i k hi => by
            show zi hb (zla hb i) k = _
            rw [Fr_la w2 G4, ← hbq, zl_l w2 hi hl, zl_l w2 hi hl, zl_l w2 hi hl, zl_l w2 hi hl]
            rfl
          have cbl : ∀ k, cf hb l k = if k = 14 then nI d1 + 100 else if k = 12 then 3 else if k = 13 then (S - S / 4) / 3 else if k = 11 then S - S / 4 else cf h2 l k := fun k => by
            rw [cb l k hl]
            simp
          have m4a : ∀ a, a ≠ 26 → a ≠ 27 → a ≠ 28 → a ≠ 29 → a ≠ 30 → zi m4' a = zi m3 a := fun a b1 b2 b3 b4 b5 => by
            rw [← hm4, zi_f (Ne.symm b5), zi_f (Ne.symm b4), zi_f (Ne.symm b3), zi_f (Ne.symm b2), zi_f (Ne.symm b1)]
          obtain ⟨l1, l2, l3, l4, l5, l6, l7, l8, l9⟩ := rl2 l hl
          have ho2 : zi m2' 24 l = -1 := by
            rw [← em2, zi_ua (by decide), zi_ua (by decide), zi_ua (by decide)]; exact ho
          have e26 : zi m4' 26 l = (S - S / 4) / 3 := by
            rw [← hm4, zi_ua (by decide), zi_ua (by decide), zi_ua (by decide), zi_ua (by decide), zi_us]
          have e27 : zi m4' 27 l = (S - S / 4) - 2 * ((S - S / 4) / 3) := by
            rw [← hm4, zi_ua (by decide), zi_ua (by decide), zi_ua (by decide), zi_us]
          have e28 : zi m4' 28 l = 3 := by
            rw [← hm4, zi_ua (by decide), zi_ua (by decide), zi_us]
          have e29 : zi m4' 29 l = nI d1 + 100 := by
            rw [← hm4, zi_ua (by decide), zi_us]
          have e30 : zi m4' 30 l = 0 := by
            rw [← hm4, zi_us]
          refine R_title r2 hl G4 (fun i k hi hk => ?_) (fun i hi => ?_) (fun a ha => ?_) (by rw [← hbq]; rfl) (by rw [← hbq]; rfl) N4 (fun a b1 b2 c1 c2 c3 c4 c5 c6 => ?_) (fun a i ha hi => ?_) ?_ (Or.inl e30) ?_ (fun e => absurd e (nI_m1 (by omega))) ⟨3, by omega, by rw [cbl]; rfl, e28, fun q => absurd q (by omega), fun _ => ⟨?_, ?_, ?_⟩⟩ (Or.inl ?_) (by rw [ho2]; exact fun e => nI_m1 (by omega) e.symm) (Or.inr ⟨q', hq, rfl⟩) (Or.inl (by omega)) (by omega)
          · rw [cb i k hi, if_neg (by omega), if_neg (by omega), if_neg (by omega), if_neg (by omega)]
          · rw [← hbq]; rfl
          · funext i; exact hbz a i ha
          · rw [m4a a c1 c2 c3 c4 c5, ← hm3]
          · rw [← hm4]
            rw [zi_uk hi, zi_uk hi, zi_uk hi, zi_uk hi, zi_uk hi, m3a a (by omega) (by omega) (by omega) (by omega) (by omega) (by omega) (by omega)]
          · rw [cbl, e30]
            simp only [(by decide : ¬ (15 = 14)), (by decide : ¬ (15 = 12)), (by decide : ¬ (15 = 13)), (by decide : ¬ (15 = 11)), if_false]
            rw [l5, (l9 ho2).1]
          · rw [cbl, m4a 32 (by decide) (by decide) (by decide) (by decide) (by decide), m3a 32 (by decide) (by decide) (by decide) (by decide) (by decide) (by decide) (by decide)]
            simp only [(by decide : ¬ (16 = 14)), (by decide : ¬ (16 = 12)), (by decide : ¬ (16 = 13)), (by decide : ¬ (16 = 11)), if_false]
            exact l7
          · rw [cbl, e26]; rfl
          · rw [cbl, e29]; rfl
          · rw [cbl, e26, e27]
            show S - S / 4 = 2 * ((S - S / 4) / 3) + (S - S / 4 - 2 * ((S - S / 4) / 3))
            rw [Int32.add_comm, Int32.sub_add_cancel]
          · rw [← em2, zi_ua (by decide), zi_ua (by decide), zi_us]
        · exact FO_tr (BF_FO Nl F) (FO_tr F2.1 G5.1)
  · refine J_no r ht (v := -1001) ?_ ?_
    · rw [e74, Cr8_1 w.1, Cr12_0 w.1, Cv13 w.1, cR_k (q50n w hx), ul_n]
    · rw [e142, M_v rm, cI_k (q129 rm k1 hn), if_neg hx, if_pos rfl]
end ZCL
