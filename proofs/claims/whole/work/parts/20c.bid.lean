/-- where the reference writes, k bids read -/
def wk (k0 k : Nat) : Nat := if k ≤ k0 then k else k - 1
/-- the reference's bids of lot l, k of them read -/
def BM (hm : zH) (l k0 k : Nat) (h' : zH) : Prop := MF hm h' ∧ (∀ a, a ≠ 37 → a ≠ 38 → zi h' a = zi hm a) ∧ ∀ a i, a = 37 ∨ a = 38 → zi h' a i = if 20 * l ≤ i ∧ i < 20 * l + wk k0 k then zi hm a (20 * l + (if i - 20 * l < k0 then i - 20 * l else i - 20 * l + 1)) else zi hm a i
section ZBJ
variable {h h' hc hm : zH} {n p s c t l j k a m k0 : Nat} {x y z : Int32}
theorem w141 (rm : MS hm) (hl : l < 40) (e36 : zi hm 36 l = nI m) (hm20 : m ≤ 20) (hk : k0 ≤ m) (hne : ∀ i, i < m → i ≠ k0 → zi hm 37 (20 * l + i) ≠ x) (hk0 : k0 < m → zi hm 37 (20 * l + k0) = x) : ∀ (d k : Nat) (h' : zH), k + d = m → BM hm l k0 k h' → ∃ h'', zev 141 64 [some (vR (some 19)), some (vI (nI l)), some (vI x), some (vI y), some (vI (nI (wk k0 k))), some (vI (nI k))] [] h' = zev 141 64 [some (vR (some 19)), some (vI (nI l)), some (vI x), some (vI y), some (vI (nI (wk k0 m))), some (vI (nI m))] [] h'' ∧ BM hm l k0 m h'' := by
  intro d
  induction d with
  | zero =>
    intro k h' hkd M
    have : k = m := by omega
    subst this
    exact ⟨h', rfl, M⟩
  | succ d ih =>
    intro k h' hkd M
    obtain ⟨N, M1, M2⟩ := id M
    have rm' := MF_ms N rm
    have hw : wk k0 k ≤ k := by unfold wk; split <;> omega
    have e1 : zi h' 37 (20 * l + k) = zi hm 37 (20 * l + k) := by rw [M2 37 _ (Or.inl rfl), if_neg (by omega)]
    have e2 : zi h' 38 (20 * l + k) = zi hm 38 (20 * l + k) := by rw [M2 38 _ (Or.inr rfl), if_neg (by omega)]
    rw [b141_64, Mr_bidMany rm', Ma_bidMany rm' hl, M1 36 (by decide) (by decide), e36, if_pos (nI_lt (by omega) (by omega)), Mr_bidders rm', zcel, Ma_bidders rm' (by omega), e1]
    by_cases g : k = k0
    · subst g
      rw [if_pos (hk0 (by omega)), nI_1]
      have ew : wk k (k + 1) = wk k k := by unfold wk; rw [if_neg (by omega), if_pos (by omega)]; omega
      have := ih (k + 1) h' (by omega) ⟨N, M1, by rw [ew]; exact M2⟩
      rw [ew] at this
      exact this
    · have H1 : MS (zui h' 37 (20 * l + wk k0 k) (zi hm 37 (20 * l + k))) := rm'
      rw [if_neg (hne k (by omega) g), Mr_bidders rm', Mr_bidders rm', Ma_bidders rm' (by omega), e1, zcel, Mt_bidders rm' (by omega), Mr_bids H1, Mr_bids H1, Ma_bids H1 (by omega), zi_ua (by decide), e2, Mt_bids H1 (by omega), nI_1, nI_1]
      have ew : wk k0 (k + 1) = wk k0 k + 1 := by unfold wk; split <;> split <;> omega
      have er : (if wk k0 k < k0 then wk k0 k else wk k0 k + 1) = k := by unfold wk; split <;> split <;> omega
      have := ih (k + 1) (zui (zui h' 37 (20 * l + wk k0 k) (zi hm 37 (20 * l + k))) 38 (20 * l + wk k0 k) (zi hm 38 (20 * l + k))) (by omega) ⟨MF_u (MF_u N (by decide) (by decide)) (by decide) (by decide), fun a h1 h2 => ?_, fun a i ha => ?_⟩
      · rw [ew] at this
        exact this
      · rw [zi_f (Ne.symm h2), zi_f (Ne.symm h1)]
        exact M1 a h1 h2
      · rw [ew]
        have key : zi (zui (zui h' 37 (20 * l + wk k0 k) (zi hm 37 (20 * l + k))) 38 (20 * l + wk k0 k) (zi hm 38 (20 * l + k))) a i = if i = 20 * l + wk k0 k then zi hm a (20 * l + k) else zi h' a i := by
          rcases ha with rfl | rfl
          · rw [zi_ua (by decide), zi_ui]
            simp
          · rw [zi_ui, zi_ua (by decide)]
            simp
        rw [key, M2 a i ha]
        by_cases q : i = 20 * l + wk k0 k
        · rw [if_pos q, if_pos (by omega), q, show 20 * l + wk k0 k - 20 * l = wk k0 k by omega, er]
        · rw [if_neg q]
          by_cases q2 : 20 * l ≤ i ∧ i < 20 * l + wk k0 k
          · rw [if_pos q2, if_pos (show 20 * l ≤ i ∧ i < 20 * l + (wk k0 k + 1) by omega)]
          · rw [if_neg q2, if_neg (show ¬ (20 * l ≤ i ∧ i < 20 * l + (wk k0 k + 1)) by omega)]
/-- distinct bidders: at most as many as there are persons besides x -/
theorem pig (hp : p ≤ 20) {q : Nat} (hq : q < p) (f : Nat → Nat) (hf : ∀ i, i < m → f i < p ∧ f i ≠ q) (hi : ∀ i j, i < m → j < m → f i = f j → i = j) : m < 20 := by
  have h1 := inj_le (A := fun _ => true) (f := f) (p := p) m (fun i => decide (i ≠ q)) (fun i hi _ => ⟨(hf i hi).1, by simp [(hf i hi).2]⟩) (fun i j h1 h2 _ _ e => hi i j h1 h2 e)
  have h2 := cP_up (fun _ => true) (fun i => decide (i ≠ q)) q p hq (fun j _ hj => by simp [hj])
  simp at h1 h2
  omega
theorem J_bid : JG 71 141 [vI x, vI y, vI z] := by
  intro hc hm n p s c t r ht
  obtain ⟨w, rm, rk, rx, rmo, rl, rd, rh, rg, rb, bs, rt, ro⟩ := id r
  obtain ⟨k1, k2, k3, k4, -⟩ := id rk
  have hn := w.2.1
  by_cases hx : 0 ≤ x.toInt ∧ x.toInt < n
  · obtain ⟨l, hl, rfl, -⟩ := zof (x := x) (n := n) (by omega) hx
    by_cases hy : 0 ≤ y.toInt ∧ y.toInt < p
    · obtain ⟨l1, l2, l3, l4, l5, l6, l7, l8, l9⟩ := rl l hl
      have ho := own_neg l2 k4
      have e1 : zcall 71 [vR (some 8), vI (nI l), vI y, vI z] hc = if 1 ≤ z.toInt ∧ z.toInt ≤ 1000000 then (if zi hm 25 l = 0 then (if zi hm 24 l = -1 then (zcV 72 [vR (some (zla hc l)), vI y, vI z] hc fun h11 => (zgR h11 (some (zla hc l)) 2 6 fun x12 => (zvr h11 x12 0 (zcI 14 [vR x12] h11 fun x14 h13 => some (some (vI x14), h13))))) else some (some (vI (-1003)), hc)) else some (some (vI (-1003)), hc)) else some (some (vI (-1002)), hc) := by
        rw [e71, Cr8_1 w.1, Cr12_0 w.1, Cv13 w.1, cR_k (q50y w hl), ul_s, Cr8_1 w.1, Cr12_1 w.1, Cv17 w.1, cI_k (q68 w.1 k2 k4), if_pos hy, if_neg (by decide), Lgi w hl (by decide), Lgi w hl (by decide), Lv w hl, show zi hc (zla hc l) 7 = zi hm 24 l from l1, show zi hc (zla hc l) 4 = zi hm 25 l from l3]
        simp only [Int32.lt_iff_toInt_lt, show (1 : Int32).toInt = 1 by decide, show (1000000 : Int32).toInt = 1000000 by decide]
        by_cases g1 : z.toInt < 1
        · rw [if_pos g1, if_neg (show ¬ (1 ≤ z.toInt ∧ z.toInt ≤ 1000000) by omega)]
        · rw [if_neg g1]
          by_cases g2 : 1000000 < z.toInt
          · rw [if_pos g2, if_neg (show ¬ (1 ≤ z.toInt ∧ z.toInt ≤ 1000000) by omega)]
          · rw [if_neg g2, if_pos (show 1 ≤ z.toInt ∧ z.toInt ≤ 1000000 by omega)]
      have e2 : zcall 141 [vR (some 19), vI (nI l), vI y, vI z] hm = if 1 ≤ z.toInt ∧ z.toInt ≤ 1000000 then (if zi hm 25 l = 0 then (if zi hm 24 l = -1 then zev 141 64 [some (vR (some 19)), some (vI (nI l)), some (vI y), some (vI z), some (vI 0), some (vI 0)] [] hm else some (some (vI (-1003)), hm)) else some (some (vI (-1003)), hm)) else some (some (vI (-1002)), hm) := by
        rw [e141, M_v rm, cI_k (q129 rm k1 hn), if_pos hx, if_neg (by decide), M_v rm, cI_k (q140 rm k3 k4), if_pos hy, if_neg (by decide), cI_k (q113 _ _ _ _), Mr_isGift rm, Ma_isGift rm (by omega), Mr_owners rm, Ma_owners rm (by omega)]
        simp only [z64, show (1 : Int64).toInt = 1 by decide, show (1000000 : Int64).toInt = 1000000 by decide, ho]
        by_cases g1 : 1 ≤ z.toInt ∧ z.toInt ≤ 1000000
        · rw [if_pos g1, if_pos g1, if_neg (by decide)]
        · rw [if_neg g1, if_neg g1, if_pos rfl]
      by_cases g0 : 1 ≤ z.toInt ∧ z.toInt ≤ 1000000
      · rw [if_pos g0] at e1 e2
        by_cases g1 : zi hm 25 l = 0
        · rw [if_pos g1] at e1 e2
          by_cases g2 : zi hm 24 l = -1
          · rw [if_pos g2] at e1 e2
            obtain ⟨m, m1, m2, m3, m4, m5, m6⟩ := rb l hl
            have Nl : BN hc n l := ⟨w, hl, ⟨m, m3⟩, bs.2 l hl⟩
            obtain ⟨q, hq, rfl, -⟩ := zof (x := y) (n := p) (by omega) hy
            -- where his bid stands, or the end
            obtain ⟨k0, hk, hne, hk0⟩ : ∃ k0, k0 ≤ m ∧ (∀ i, i < m → i ≠ k0 → zi hm 37 (20 * l + i) ≠ nI q) ∧ (k0 < m → zi hm 37 (20 * l + k0) = nI q) := by
              by_cases g : ∃ i, i < m ∧ zi hm 37 (20 * l + i) = nI q
              · obtain ⟨i, hi, e⟩ := g
                exact ⟨i, by omega, fun j hj hij e' => hij (m5 j i hj hi (e'.trans e.symm)), fun _ => e⟩
              · exact ⟨m, Nat.le_refl _, fun i hi _ e => g ⟨i, hi, e⟩, fun q => absurd q (by omega)⟩
            have hbid : ∀ i, i < m → zi hc (zba hc l i) 0 = zi hm 37 (20 * l + i) := fun i hi => by
              obtain ⟨q', -, v1, v2, -⟩ := m4 i hi
              rw [v1, v2]
            obtain ⟨h', c1, F, B', z1, z2, z3, z4, z5, z6⟩ := q72 (k0 := k0) (x := nI q) (y := z) Nl m3 m1 hk (fun i hi hij => by rw [hbid i hi]; exact hne i hi hij) (fun hi => by rw [hbid k0 hi]; exact hk0 hi)
            obtain ⟨hm1, d1, N1, M1, M2⟩ := w141 (x := nI q) (y := z) rm (show l < 40 by omega) m2 m1 hk hne hk0 m 0 hm (by omega) ⟨MF_rfl, fun _ _ _ => rfl, fun a i ha => by rw [if_neg (by unfold wk; rw [if_pos (by omega)]; omega)]⟩
            have ew : wk k0 m = if k0 < m then m - 1 else m := by unfold wk; split <;> split <;> omega
            have ew0 : wk k0 0 = 0 := by unfold wk; rw [if_pos (by omega)]
            rw [ew0, nI_0] at d1
            rw [ew] at d1 M2
            generalize hm' : (if k0 < m then m - 1 else m) = m' at *
            have hm20 : m' < 20 := by
              by_cases g : k0 < m
              · rw [if_pos g] at hm'
                omega
              · rw [if_neg g] at hm'
                subst hm'
                refine pig k4 hq (fun i => (zi hm 37 (20 * l + i)).toNatClampNeg) (fun i hi => ?_) (fun i j hi hj e => ?_)
                · obtain ⟨q', h1, v1, -⟩ := m4 i hi
                  have := hne i hi (by omega)
                  show (zi hm 37 (20 * l + i)).toNatClampNeg < p ∧ (zi hm 37 (20 * l + i)).toNatClampNeg ≠ q
                  rw [v1, nI_clamp (by omega)]
                  rw [v1] at this
                  exact ⟨h1, fun e => this (by rw [e])⟩
                · obtain ⟨q', h1, v1, -⟩ := m4 i hi
                  obtain ⟨q2, h2, v2, -⟩ := m4 j hj
                  have e' : (zi hm 37 (20 * l + i)).toNatClampNeg = (zi hm 37 (20 * l + j)).toNatClampNeg := e
                  rw [v1, v2, nI_clamp (by omega), nI_clamp (by omega)] at e'
                  exact m5 i j hi hj (by rw [v1, v2, e'])
            have rm1 := MF_ms N1 rm
            have rm2 : MS (zui hm1 37 (20 * l + m') (nI q)) := rm1
            have rm3 : MS (zui (zui hm1 37 (20 * l + m') (nI q)) 38 (20 * l + m') z) := rm1
            rw [d1, b141_64, Mr_bidMany rm1, Ma_bidMany rm1 (by omega), M1 36 (by decide) (by decide), m2, if_neg (nI_nlt (by omega) (by omega)), Mr_bidders rm1, zcel, Mt_bidders rm1 (by omega), Mr_bids rm2, Mt_bids rm2 (by omega), Mr_bidMany rm3, nI_1, Mt_bidMany rm3 (by omega)] at e2
            have hgr := Lgr (BF_LW Nl F) hl (show 6 < 17 by decide) (f := fun x12 => (zvr h' x12 0 (zcI 14 [vR x12] h' fun x14 h13 => some (some (vI x14), h13)) : Option (Option zV × zH)))
            rw [BF_la Nl F] at hgr
            have eb : zr h' (zla hc l) 6 = some (zbl h' l) := by
              have := B'.1
              rw [BF_la Nl F] at this
              exact this
            rw [cV_k c1, hgr, eb, Bv B', Bsz B'] at e1
            have eM : ∀ a i, a = 37 ∨ a = 38 → zi (zui (zui (zui hm1 37 (20 * l + m') (nI q)) 38 (20 * l + m') z) 36 l (nI (m' + 1))) a i = if i = 20 * l + m' then (if a = 37 then nI q else z) else if 20 * l ≤ i ∧ i < 20 * l + m' then zi hm a (20 * l + (if i - 20 * l < k0 then i - 20 * l else i - 20 * l + 1)) else zi hm a i := fun a i ha => by
              rw [← M2 a i ha]
              rcases ha with rfl | rfl
              · rw [zi_ua (by decide), zi_ua (by decide), zi_ui]
                simp
              · rw [zi_ua (by decide), zi_ui, zi_ua (by decide)]
                simp
            have src : ∀ i, i < m' → (if i < k0 then i else i + 1) < m ∧ (if i < k0 then i else i + 1) ≠ k0 := fun i hi => by
              rw [← hm'] at hi
              split at hi <;> split <;> omega
            have eR : ∀ a i, a = 37 ∨ a = 38 → i < m' → zi (zui (zui (zui hm1 37 (20 * l + m') (nI q)) 38 (20 * l + m') z) 36 l (nI (m' + 1))) a (20 * l + i) = zi hm a (20 * l + (if i < k0 then i else i + 1)) := fun a i ha hi => by
              rw [eM a _ ha, if_neg (by omega), if_pos (by omega), show 20 * l + i - 20 * l = i by omega]
            have eL : ∀ a, a = 37 ∨ a = 38 → zi (zui (zui (zui hm1 37 (20 * l + m') (nI q)) 38 (20 * l + m') z) 36 l (nI (m' + 1))) a (20 * l + m') = if a = 37 then nI q else z := fun a ha => by
              rw [eM a _ ha, if_pos rfl]
            refine ⟨_, _, _, n, p, s, c, e1, e2, ?_, BF_FO Nl F, MF_u (MF_u (MF_u N1 (by decide) (by decide)) (by decide) (by decide)) (by decide) (by decide)⟩
            obtain ⟨o1, o2, o3, o4⟩ := ro
            refine R_bid r hl F (MF_u (MF_u (MF_u N1 (by decide) (by decide)) (by decide) (by decide)) (by decide) (by decide)) (fun a h1 h2 h3 h4 h5 => ?_) (fun j hj hjl => ⟨?_, fun i hi => ⟨?_, ?_⟩⟩) ⟨m' + 1, by omega, zi_us, B', fun i hi => ?_, fun i j hi hj e => ?_, fun _ => ⟨?_, ?_⟩⟩ z4 (by omega) (by omega) (by omega) (by omega)
            · rw [zi_f (Ne.symm h3), zi_f (Ne.symm h5), zi_f (Ne.symm h4)]
              exact M1 a h4 h5
            · rw [zi_uk hjl, zi_ua (by decide), zi_ua (by decide), M1 36 (by decide) (by decide)]
            · rw [eM 37 _ (Or.inl rfl), if_neg (by omega), if_neg (by omega)]
            · rw [eM 38 _ (Or.inr rfl), if_neg (by omega), if_neg (by omega)]
            · by_cases g : i = m'
              · subst g
                exact ⟨q, hq, by rw [eL 37 (Or.inl rfl), if_pos rfl], z2, by rw [z3, eL 38 (Or.inr rfl), if_neg (by decide)]⟩
              · have hi' : i < m' := by omega
                obtain ⟨s1, s2⟩ := src i hi'
                obtain ⟨q', h1, v1, v2, v3⟩ := m4 _ s1
                rw [eR 37 i (Or.inl rfl) hi', eR 38 i (Or.inr rfl) hi', z1 i hi']
                obtain ⟨u1, u2, u3, u4⟩ := m3.2.2.2.2 _ s1
                have hnb : zba hc l (if i < k0 then i else i + 1) ≠ zbl hc l := fun q => by rw [q, (BN_1 Nl).2.2.1] at u4; cases u4
                rw [F.2.2.1 _ u3 hnb]
                exact ⟨q', h1, v1, v2, v3⟩
            · by_cases gi : i = m'
              · by_cases gj : j = m'
                · omega
                · exfalso
                  have hj' : j < m' := by omega
                  obtain ⟨s1, s2⟩ := src j hj'
                  rw [gi, eL 37 (Or.inl rfl), if_pos rfl, eR 37 j (Or.inl rfl) hj'] at e
                  exact hne _ s1 s2 e.symm
              · have hi' : i < m' := by omega
                obtain ⟨s1, s2⟩ := src i hi'
                by_cases gj : j = m'
                · exfalso
                  rw [gj, eL 37 (Or.inl rfl), if_pos rfl, eR 37 i (Or.inl rfl) hi'] at e
                  exact hne _ s1 s2 e
                · have hj' : j < m' := by omega
                  obtain ⟨s3, s4⟩ := src j hj'
                  rw [eR 37 i (Or.inl rfl) hi', eR 37 j (Or.inl rfl) hj'] at e
                  have := m5 _ _ s1 s3 e
                  split at this <;> split at this <;> omega
            · rw [zi_ua (by decide), zi_ua (by decide), zi_ua (by decide), M1 24 (by decide) (by decide)]
              exact g2
            · rw [zi_ua (by decide), zi_ua (by decide), zi_ua (by decide), M1 25 (by decide) (by decide)]
              exact g1
          · rw [if_neg g2] at e1 e2
            exact J_no r ht e1 e2
        · rw [if_neg g1] at e1 e2
          exact J_no r ht e1 e2
      · rw [if_neg g0] at e1 e2
        exact J_no r ht e1 e2
    · refine J_no r ht (v := -1001) ?_ ?_
      · rw [e71, Cr8_1 w.1, Cr12_0 w.1, Cv13 w.1, cR_k (q50y w hl), ul_s, Cr8_1 w.1, Cr12_1 w.1, Cv17 w.1, cI_k (q68 w.1 k2 k4), if_neg hy, if_pos rfl]
      · rw [e141, M_v rm, cI_k (q129 rm k1 hn), if_pos hx, if_neg (by decide), M_v rm, cI_k (q140 rm k3 k4), if_neg hy, if_pos rfl]
  · refine J_no r ht (v := -1001) ?_ ?_
    · rw [e71, Cr8_1 w.1, Cr12_0 w.1, Cv13 w.1, cR_k (q50n w hx), ul_n]
    · rw [e141, M_v rm, cI_k (q129 rm k1 hn), if_neg hx, if_pos rfl]
end ZBJ
