/-- both answer alike, and stay alike, where the tables stand -/
def JT (mc mm : Nat) (as : List zV) : Prop := ∀ hc hm n p s c t, R hc hm n p s c t → t < 512 → TAB hc → ∃ v hc' hm' n' p' s' c', zcall mc (vR (some 8) :: as) hc = some (some (vI v), hc') ∧ zcall mm (vR (some 19) :: as) hm = some (some (vI v), hm') ∧ R hc' hm' n' p' s' c' (t + 1) ∧ FO hc hc' ∧ MF hm hm'
theorem JT_of {mc mm : Nat} {as : List zV} (J : JG mc mm as) : JT mc mm as := fun hc hm n p s c t r ht _ => J hc hm n p s c t r ht
/-- before the call number t -/
def LI (L : Nat) (h : zH) (t : Nat) : Prop := (∃ n p s c, R h h n p s c t) ∧ TAB h ∧ zk h 0 = (100, L) ∧ L ≤ 2048
section ZLW2
variable {h h1 h2 : zH} {L t mc mm la ma many : Nat} {as : List zV} {o : Int32} {lo hi : Nat → Nat}
theorem TB_fo (F : FO h h1) (B : TB h la ma o many lo hi) : TB h1 la ma o many lo hi := by
  obtain ⟨b1, b2, b3, b4, b5, b6, b7, b8⟩ := B
  refine ⟨b1, b2, b3, b4, by rw [(F.2.2 la b1).1]; exact b5, by rw [(F.2.2 ma b2).1]; exact b6, fun i hi => ?_, b8⟩
  rw [(F.2.2 la b1).2, (F.2.2 ma b2).2]
  exact b7 i hi
theorem TB_mf (F : MF h h1) (B : TB h la ma o many lo hi) : TB h1 la ma o many lo hi := by
  obtain ⟨b1, b2, b3, b4, b5, b6, b7, b8⟩ := B
  obtain ⟨f1, f2, f3, f4, f5⟩ := F
  refine ⟨b1, b2, b3, b4, by rw [f3]; exact b5, by rw [f3]; exact b6, fun i hi => ?_, b8⟩
  rw [f5 la (by omega), f5 ma (by omega)]
  exact b7 i hi
/-- a call here, a call there -/
theorem LI_step (I : LI L h t) (ht : t < 512) (J : JT mc mm as) : ∃ v h1 h2, zcall mc (vR (some 8) :: as) h = some (some (vI v), h1) ∧ zcall mm (vR (some 19) :: as) h1 = some (some (vI v), h2) ∧ LI L h2 (t + 1) ∧ CS h ∧ MS h1 ∧ 45 ≤ zn h ∧ 45 ≤ zn h1 ∧ zk h1 0 = (100, L) ∧ zi h1 0 = zi h 0 := by
  obtain ⟨⟨n, p, s, c, r⟩, TA, hk, hL⟩ := I
  obtain ⟨v, h1, m1, n1, p1, s1, c1, e1, -, -, F1, -⟩ := J h h n p s c t r ht TA
  have r1 := R_f0 r F1
  obtain ⟨v', h1', m2, n2, p2, s2, c2, e1', e2, r2, -, N2⟩ := J h h1 n p s c t r1 ht TA
  rw [e1] at e1'
  have q : v = v' ∧ h1 = h1' := by
    injection e1' with q
    injection q with q1 q2
    injection q1 with q3
    injection q3 with q4
    exact ⟨q4, q2⟩
  obtain ⟨q1, q2⟩ := q
  subst q1 q2
  have r3 := R_mf r2 N2
  have TA1 : TAB h1 := ⟨TB_fo F1 TA.1, TB_fo F1 TA.2.1, TB_fo F1 TA.2.2⟩
  have m1s : MS h1 := r1.2.1
  refine ⟨v, h1, m2, e1, e2, ⟨⟨n2, p2, s2, c2, r3⟩, ⟨TB_mf N2 TA1.1, TB_mf N2 TA1.2.1, TB_mf N2 TA1.2.2⟩, ?_, hL⟩, r.1.1, m1s, r.1.1.1, m1s.1, ?_, (F1.2.2 0 (by decide)).2⟩
  · rw [N2.2.2.1, (F1.2.2 0 (by decide)).1]; exact hk
  · rw [(F1.2.2 0 (by decide)).1]; exact hk
theorem nI_2 (a : Nat) : nI a + 2 = nI (a + 2) := nI_add a 2
theorem nI_3 (a : Nat) : nI a + 3 = nI (a + 3) := nI_add a 3
theorem nI_4 (t : Nat) : nI (4 * t) + 4 = nI (4 * (t + 1)) := (nI_add (4 * t) 4).trans (by rw [show 4 * t + 4 = 4 * (t + 1) by omega])
theorem c_279 (I : LI L h t) (hi : 4 * t + 4 ≤ L) : ∃ h2, zev 159 279 [some (vR (some 0)), some (vR (some 8)), some (vR (some 19)), some (vI (nI (4 * t)))] [] h = zev 159 18 [some (vR (some 0)), some (vR (some 8)), some (vR (some 19)), some (vI (nI (4 * (t + 1))))] [] h2 ∧ LI L h2 (t + 1) := by
  have hL := I.2.2.2
  have hk := I.2.2.1
  obtain ⟨v, h1, h2, e1, e2, I2, H, M, n1, n2, hk1, hz⟩ := LI_step I (by omega) (JT_of (J_vacate (z := zi h 0 (4 * t + 1))))
  refine ⟨h2, ?_, I2⟩
  rw [b159_279, nI_1, aI_k (h := h) (by omega) hk (show 4 * t + 1 < L by omega) (by omega), Cv8 H, cI_k e1, aI_k (h := h1) (by omega) hk1 (show 4 * t + 1 < L by omega) (by omega), hz, M_v M, cI_k e2, if_pos rfl, nI_4]
theorem c_335 (I : LI L h t) (hi : 4 * t + 4 ≤ L) : ∃ h2, zev 159 335 [some (vR (some 0)), some (vR (some 8)), some (vR (some 19)), some (vI (nI (4 * t)))] [] h = zev 159 18 [some (vR (some 0)), some (vR (some 8)), some (vR (some 19)), some (vI (nI (4 * (t + 1))))] [] h2 ∧ LI L h2 (t + 1) := by
  have hL := I.2.2.2
  have hk := I.2.2.1
  obtain ⟨v, h1, h2, e1, e2, I2, H, M, n1, n2, hk1, hz⟩ := LI_step I (by omega) (JT_of (J_person (x := zi h 0 (4 * t + 1))))
  refine ⟨h2, ?_, I2⟩
  rw [b159_335, nI_1, aI_k (h := h) (by omega) hk (show 4 * t + 1 < L by omega) (by omega), Cv8 H, cI_k e1, aI_k (h := h1) (by omega) hk1 (show 4 * t + 1 < L by omega) (by omega), hz, M_v M, cI_k e2, if_pos rfl, nI_4]
theorem c_434 (I : LI L h t) (hi : 4 * t + 4 ≤ L) : ∃ h2, zev 159 434 [some (vR (some 0)), some (vR (some 8)), some (vR (some 19)), some (vI (nI (4 * t)))] [] h = zev 159 18 [some (vR (some 0)), some (vR (some 8)), some (vR (some 19)), some (vI (nI (4 * (t + 1))))] [] h2 ∧ LI L h2 (t + 1) := by
  have hL := I.2.2.2
  have hk := I.2.2.1
  obtain ⟨v, h1, h2, e1, e2, I2, H, M, n1, n2, hk1, hz⟩ := LI_step I (by omega) (JT_of (J_close (x := zi h 0 (4 * t + 1))))
  refine ⟨h2, ?_, I2⟩
  rw [b159_434, nI_1, aI_k (h := h) (by omega) hk (show 4 * t + 1 < L by omega) (by omega), Cv8 H, cI_k e1, aI_k (h := h1) (by omega) hk1 (show 4 * t + 1 < L by omega) (by omega), hz, M_v M, cI_k e2, if_pos rfl, nI_4]
theorem c_533 (I : LI L h t) (hi : 4 * t + 4 ≤ L) : ∃ h2, zev 159 533 [some (vR (some 0)), some (vR (some 8)), some (vR (some 19)), some (vI (nI (4 * t)))] [] h = zev 159 18 [some (vR (some 0)), some (vR (some 8)), some (vR (some 19)), some (vI (nI (4 * (t + 1))))] [] h2 ∧ LI L h2 (t + 1) := by
  have hL := I.2.2.2
  have hk := I.2.2.1
  obtain ⟨v, h1, h2, e1, e2, I2, H, M, n1, n2, hk1, hz⟩ := LI_step I (by omega) (JT_of (J_rate (x := zi h 0 (4 * t + 1))))
  refine ⟨h2, ?_, I2⟩
  rw [b159_533, nI_1, aI_k (h := h) (by omega) hk (show 4 * t + 1 < L by omega) (by omega), Cv8 H, cI_k e1, aI_k (h := h1) (by omega) hk1 (show 4 * t + 1 < L by omega) (by omega), hz, M_v M, cI_k e2, if_pos rfl, nI_4]
theorem c_556 (I : LI L h t) (hi : 4 * t + 4 ≤ L) : ∃ h2, zev 159 556 [some (vR (some 0)), some (vR (some 8)), some (vR (some 19)), some (vI (nI (4 * t)))] [] h = zev 159 18 [some (vR (some 0)), some (vR (some 8)), some (vR (some 19)), some (vI (nI (4 * (t + 1))))] [] h2 ∧ LI L h2 (t + 1) := by
  have hL := I.2.2.2
  have hk := I.2.2.1
  obtain ⟨v, h1, h2, e1, e2, I2, H, M, n1, n2, hk1, hz⟩ := LI_step I (by omega) (JT_of (J_days (x := zi h 0 (4 * t + 1))))
  refine ⟨h2, ?_, I2⟩
  rw [b159_556, nI_1, aI_k (h := h) (by omega) hk (show 4 * t + 1 < L by omega) (by omega), Cv8 H, cI_k e1, aI_k (h := h1) (by omega) hk1 (show 4 * t + 1 < L by omega) (by omega), hz, M_v M, cI_k e2, if_pos rfl, nI_4]
theorem c_645 (I : LI L h t) (hi : 4 * t + 4 ≤ L) : ∃ h2, zev 159 645 [some (vR (some 0)), some (vR (some 8)), some (vR (some 19)), some (vI (nI (4 * t)))] [] h = zev 159 18 [some (vR (some 0)), some (vR (some 8)), some (vR (some 19)), some (vI (nI (4 * (t + 1))))] [] h2 ∧ LI L h2 (t + 1) := by
  have hL := I.2.2.2
  have hk := I.2.2.1
  obtain ⟨v, h1, h2, e1, e2, I2, H, M, n1, n2, hk1, hz⟩ := LI_step I (by omega) (JT_of (J_count (x := zi h 0 (4 * t + 1))))
  refine ⟨h2, ?_, I2⟩
  rw [b159_645, nI_1, aI_k (h := h) (by omega) hk (show 4 * t + 1 < L by omega) (by omega), Cv8 H, cI_k e1, aI_k (h := h1) (by omega) hk1 (show 4 * t + 1 < L by omega) (by omega), hz, M_v M, cI_k e2, if_pos rfl, nI_4]
theorem c_213 (I : LI L h t) (hi : 4 * t + 4 ≤ L) : ∃ h2, zev 159 213 [some (vR (some 0)), some (vR (some 8)), some (vR (some 19)), some (vI (nI (4 * t)))] [] h = zev 159 18 [some (vR (some 0)), some (vR (some 8)), some (vR (some 19)), some (vI (nI (4 * (t + 1))))] [] h2 ∧ LI L h2 (t + 1) := by
  have hL := I.2.2.2
  have hk := I.2.2.1
  obtain ⟨v, h1, h2, e1, e2, I2, H, M, n1, n2, hk1, hz⟩ := LI_step I (by omega) (JT_of (J_cell (x := zi h 0 (4 * t + 1)) (y := zi h 0 (4 * t + 2))))
  refine ⟨h2, ?_, I2⟩
  rw [b159_213, nI_1, nI_2, aI_k (h := h) (by omega) hk (show 4 * t + 1 < L by omega) (by omega), aI_k (h := h) (by omega) hk (show 4 * t + 2 < L by omega) (by omega), Cv8 H, cI_k e1, aI_k (h := h1) (by omega) hk1 (show 4 * t + 1 < L by omega) (by omega), aI_k (h := h1) (by omega) hk1 (show 4 * t + 2 < L by omega) (by omega), hz, M_v M, cI_k e2, if_pos rfl, nI_4]
theorem c_246 (I : LI L h t) (hi : 4 * t + 4 ≤ L) : ∃ h2, zev 159 246 [some (vR (some 0)), some (vR (some 8)), some (vR (some 19)), some (vI (nI (4 * t)))] [] h = zev 159 18 [some (vR (some 0)), some (vR (some 8)), some (vR (some 19)), some (vI (nI (4 * (t + 1))))] [] h2 ∧ LI L h2 (t + 1) := by
  have hL := I.2.2.2
  have hk := I.2.2.1
  obtain ⟨v, h1, h2, e1, e2, I2, H, M, n1, n2, hk1, hz⟩ := LI_step I (by omega) (JT_of (J_lot (x := zi h 0 (4 * t + 1)) (y := zi h 0 (4 * t + 2))))
  refine ⟨h2, ?_, I2⟩
  rw [b159_246, nI_1, nI_2, aI_k (h := h) (by omega) hk (show 4 * t + 1 < L by omega) (by omega), aI_k (h := h) (by omega) hk (show 4 * t + 2 < L by omega) (by omega), Cv8 H, cI_k e1, aI_k (h := h1) (by omega) hk1 (show 4 * t + 1 < L by omega) (by omega), aI_k (h := h1) (by omega) hk1 (show 4 * t + 2 < L by omega) (by omega), hz, M_v M, cI_k e2, if_pos rfl, nI_4]
theorem c_302 (I : LI L h t) (hi : 4 * t + 4 ≤ L) : ∃ h2, zev 159 302 [some (vR (some 0)), some (vR (some 8)), some (vR (some 19)), some (vI (nI (4 * t)))] [] h = zev 159 18 [some (vR (some 0)), some (vR (some 8)), some (vR (some 19)), some (vI (nI (4 * (t + 1))))] [] h2 ∧ LI L h2 (t + 1) := by
  have hL := I.2.2.2
  have hk := I.2.2.1
  obtain ⟨v, h1, h2, e1, e2, I2, H, M, n1, n2, hk1, hz⟩ := LI_step I (by omega) (JT_of (J_halt (x := zi h 0 (4 * t + 1)) (y := zi h 0 (4 * t + 2))))
  refine ⟨h2, ?_, I2⟩
  rw [b159_302, nI_1, nI_2, aI_k (h := h) (by omega) hk (show 4 * t + 1 < L by omega) (by omega), aI_k (h := h) (by omega) hk (show 4 * t + 2 < L by omega) (by omega), Cv8 H, cI_k e1, aI_k (h := h1) (by omega) hk1 (show 4 * t + 1 < L by omega) (by omega), aI_k (h := h1) (by omega) hk1 (show 4 * t + 2 < L by omega) (by omega), hz, M_v M, cI_k e2, if_pos rfl, nI_4]
theorem c_358 (I : LI L h t) (hi : 4 * t + 4 ≤ L) : ∃ h2, zev 159 358 [some (vR (some 0)), some (vR (some 8)), some (vR (some 19)), some (vI (nI (4 * t)))] [] h = zev 159 18 [some (vR (some 0)), some (vR (some 8)), some (vR (some 19)), some (vI (nI (4 * (t + 1))))] [] h2 ∧ LI L h2 (t + 1) := by
  have hL := I.2.2.2
  have hk := I.2.2.1
  obtain ⟨v, h1, h2, e1, e2, I2, H, M, n1, n2, hk1, hz⟩ := LI_step I (by omega) (JT_of (J_money (x := zi h 0 (4 * t + 1)) (y := zi h 0 (4 * t + 2))))
  refine ⟨h2, ?_, I2⟩
  rw [b159_358, nI_1, nI_2, aI_k (h := h) (by omega) hk (show 4 * t + 1 < L by omega) (by omega), aI_k (h := h) (by omega) hk (show 4 * t + 2 < L by omega) (by omega), Cv8 H, cI_k e1, aI_k (h := h1) (by omega) hk1 (show 4 * t + 1 < L by omega) (by omega), aI_k (h := h1) (by omega) hk1 (show 4 * t + 2 < L by omega) (by omega), hz, M_v M, cI_k e2, if_pos rfl, nI_4]
theorem c_457 (I : LI L h t) (hi : 4 * t + 4 ≤ L) : ∃ h2, zev 159 457 [some (vR (some 0)), some (vR (some 8)), some (vR (some 19)), some (vI (nI (4 * t)))] [] h = zev 159 18 [some (vR (some 0)), some (vR (some 8)), some (vR (some 19)), some (vI (nI (4 * (t + 1))))] [] h2 ∧ LI L h2 (t + 1) := by
  have hL := I.2.2.2
  have hk := I.2.2.1
  obtain ⟨v, h1, h2, e1, e2, I2, H, M, n1, n2, hk1, hz⟩ := LI_step I (by omega) (JT_of (J_pass (x := zi h 0 (4 * t + 1)) (y := zi h 0 (4 * t + 2))))
  refine ⟨h2, ?_, I2⟩
  rw [b159_457, nI_1, nI_2, aI_k (h := h) (by omega) hk (show 4 * t + 1 < L by omega) (by omega), aI_k (h := h) (by omega) hk (show 4 * t + 2 < L by omega) (by omega), Cv8 H, cI_k e1, aI_k (h := h1) (by omega) hk1 (show 4 * t + 1 < L by omega) (by omega), aI_k (h := h1) (by omega) hk1 (show 4 * t + 2 < L by omega) (by omega), hz, M_v M, cI_k e2, if_pos rfl, nI_4]
theorem c_579 (I : LI L h t) (hi : 4 * t + 4 ≤ L) : ∃ h2, zev 159 579 [some (vR (some 0)), some (vR (some 8)), some (vR (some 19)), some (vI (nI (4 * t)))] [] h = zev 159 18 [some (vR (some 0)), some (vR (some 8)), some (vR (some 19)), some (vI (nI (4 * (t + 1))))] [] h2 ∧ LI L h2 (t + 1) := by
  have hL := I.2.2.2
  have hk := I.2.2.1
  obtain ⟨v, h1, h2, e1, e2, I2, H, M, n1, n2, hk1, hz⟩ := LI_step I (by omega) (JT_of (J_title (x := zi h 0 (4 * t + 1)) (y := zi h 0 (4 * t + 2))))
  refine ⟨h2, ?_, I2⟩
  rw [b159_579, nI_1, nI_2, aI_k (h := h) (by omega) hk (show 4 * t + 1 < L by omega) (by omega), aI_k (h := h) (by omega) hk (show 4 * t + 2 < L by omega) (by omega), Cv8 H, cI_k e1, aI_k (h := h1) (by omega) hk1 (show 4 * t + 1 < L by omega) (by omega), aI_k (h := h1) (by omega) hk1 (show 4 * t + 2 < L by omega) (by omega), hz, M_v M, cI_k e2, if_pos rfl, nI_4]
theorem c_612 (I : LI L h t) (hi : 4 * t + 4 ≤ L) : ∃ h2, zev 159 612 [some (vR (some 0)), some (vR (some 8)), some (vR (some 19)), some (vI (nI (4 * t)))] [] h = zev 159 18 [some (vR (some 0)), some (vR (some 8)), some (vR (some 19)), some (vI (nI (4 * (t + 1))))] [] h2 ∧ LI L h2 (t + 1) := by
  have hL := I.2.2.2
  have hk := I.2.2.1
  obtain ⟨v, h1, h2, e1, e2, I2, H, M, n1, n2, hk1, hz⟩ := LI_step I (by omega) (JT_of (J_told (x := zi h 0 (4 * t + 1)) (y := zi h 0 (4 * t + 2))))
  refine ⟨h2, ?_, I2⟩
  rw [b159_612, nI_1, nI_2, aI_k (h := h) (by omega) hk (show 4 * t + 1 < L by omega) (by omega), aI_k (h := h) (by omega) hk (show 4 * t + 2 < L by omega) (by omega), Cv8 H, cI_k e1, aI_k (h := h1) (by omega) hk1 (show 4 * t + 1 < L by omega) (by omega), aI_k (h := h1) (by omega) hk1 (show 4 * t + 2 < L by omega) (by omega), hz, M_v M, cI_k e2, if_pos rfl, nI_4]
theorem c_668 (I : LI L h t) (hi : 4 * t + 4 ≤ L) : ∃ h2, zev 159 668 [some (vR (some 0)), some (vR (some 8)), some (vR (some 19)), some (vI (nI (4 * t)))] [] h = zev 159 18 [some (vR (some 0)), some (vR (some 8)), some (vR (some 19)), some (vI (nI (4 * (t + 1))))] [] h2 ∧ LI L h2 (t + 1) := by
  have hL := I.2.2.2
  have hk := I.2.2.1
  obtain ⟨v, h1, h2, e1, e2, I2, H, M, n1, n2, hk1, hz⟩ := LI_step I (by omega) (JT_of (J_bond (x := zi h 0 (4 * t + 1)) (z := zi h 0 (4 * t + 2))))
  refine ⟨h2, ?_, I2⟩
  rw [b159_668, nI_1, nI_2, aI_k (h := h) (by omega) hk (show 4 * t + 1 < L by omega) (by omega), aI_k (h := h) (by omega) hk (show 4 * t + 2 < L by omega) (by omega), Cv8 H, cI_k e1, aI_k (h := h1) (by omega) hk1 (show 4 * t + 1 < L by omega) (by omega), aI_k (h := h1) (by omega) hk1 (show 4 * t + 2 < L by omega) (by omega), hz, M_v M, cI_k e2, if_pos rfl, nI_4]
theorem c_391 (I : LI L h t) (hi : 4 * t + 4 ≤ L) : ∃ h2, zev 159 391 [some (vR (some 0)), some (vR (some 8)), some (vR (some 19)), some (vI (nI (4 * t)))] [] h = zev 159 18 [some (vR (some 0)), some (vR (some 8)), some (vR (some 19)), some (vI (nI (4 * (t + 1))))] [] h2 ∧ LI L h2 (t + 1) := by
  have hL := I.2.2.2
  have hk := I.2.2.1
  obtain ⟨v, h1, h2, e1, e2, I2, H, M, n1, n2, hk1, hz⟩ := LI_step I (by omega) (JT_of (J_bid (x := zi h 0 (4 * t + 1)) (y := zi h 0 (4 * t + 2)) (z := zi h 0 (4 * t + 3))))
  refine ⟨h2, ?_, I2⟩
  rw [b159_391, nI_1, nI_2, nI_3, aI_k (h := h) (by omega) hk (show 4 * t + 1 < L by omega) (by omega), aI_k (h := h) (by omega) hk (show 4 * t + 2 < L by omega) (by omega), aI_k (h := h) (by omega) hk (show 4 * t + 3 < L by omega) (by omega), Cv8 H, cI_k e1, aI_k (h := h1) (by omega) hk1 (show 4 * t + 1 < L by omega) (by omega), aI_k (h := h1) (by omega) hk1 (show 4 * t + 2 < L by omega) (by omega), aI_k (h := h1) (by omega) hk1 (show 4 * t + 3 < L by omega) (by omega), hz, M_v M, cI_k e2, if_pos rfl, nI_4]
theorem c_490 (I : LI L h t) (hi : 4 * t + 4 ≤ L) : ∃ h2, zev 159 490 [some (vR (some 0)), some (vR (some 8)), some (vR (some 19)), some (vI (nI (4 * t)))] [] h = zev 159 18 [some (vR (some 0)), some (vR (some 8)), some (vR (some 19)), some (vI (nI (4 * (t + 1))))] [] h2 ∧ LI L h2 (t + 1) := by
  have hL := I.2.2.2
  have hk := I.2.2.1
  obtain ⟨v, h1, h2, e1, e2, I2, H, M, n1, n2, hk1, hz⟩ := LI_step I (by omega) (JT_of (J_give (x := zi h 0 (4 * t + 1)) (y := zi h 0 (4 * t + 2)) (z := zi h 0 (4 * t + 3))))
  refine ⟨h2, ?_, I2⟩
  rw [b159_490, nI_1, nI_2, nI_3, aI_k (h := h) (by omega) hk (show 4 * t + 1 < L by omega) (by omega), aI_k (h := h) (by omega) hk (show 4 * t + 2 < L by omega) (by omega), aI_k (h := h) (by omega) hk (show 4 * t + 3 < L by omega) (by omega), Cv8 H, cI_k e1, aI_k (h := h1) (by omega) hk1 (show 4 * t + 1 < L by omega) (by omega), aI_k (h := h1) (by omega) hk1 (show 4 * t + 2 < L by omega) (by omega), aI_k (h := h1) (by omega) hk1 (show 4 * t + 3 < L by omega) (by omega), hz, M_v M, cI_k e2, if_pos rfl, nI_4]
theorem c_124 (I : LI L h t) (hi : 4 * t + 4 ≤ L) : ∃ h2, zev 159 124 [some (vR (some 0)), some (vR (some 8)), some (vR (some 19)), some (vI (nI (4 * t)))] [] h = zev 159 18 [some (vR (some 0)), some (vR (some 8)), some (vR (some 19)), some (vI (nI (4 * (t + 1))))] [] h2 ∧ LI L h2 (t + 1) := by
  have hL := I.2.2.2
  have hk := I.2.2.1
  obtain ⟨v, h1, h2, e1, e2, I2, H, M, n1, n2, hk1, hz⟩ := LI_step I (by omega) (JT_of (J_feed (x := zi h 0 (4 * t + 1)) (z := ((Int32.toInt64 (zi h 0 (4 * t + 2))) <<< (Int32.toInt64 32 &&& 63)) ||| ((Int32.toInt64 (zi h 0 (4 * t + 3))) &&& 4294967295))))
  refine ⟨h2, ?_, I2⟩
  rw [b159_124, nI_1, nI_2, nI_3, aI_k (h := h) (by omega) hk (show 4 * t + 1 < L by omega) (by omega), aI_k (h := h) (by omega) hk (show 4 * t + 2 < L by omega) (by omega), aI_k (h := h) (by omega) hk (show 4 * t + 3 < L by omega) (by omega), Cv8 H, cI_k e1, aI_k (h := h1) (by omega) hk1 (show 4 * t + 1 < L by omega) (by omega), aI_k (h := h1) (by omega) hk1 (show 4 * t + 2 < L by omega) (by omega), aI_k (h := h1) (by omega) hk1 (show 4 * t + 3 < L by omega) (by omega), hz, M_v M, cI_k e2, if_pos rfl, nI_4]
theorem J_drawT : JT 12 114 [] := fun hc hm n p s c t r ht TA => J_draw r ht TA
theorem sub4 : ∀ L : Nat, L ≤ 2048 → (nI L - 4).toInt = (L : Int) - 4 := fun L hL => by
  have := pk_sub_toInt (a := L) (b := 4) (by omega) (by omega)
  exact this
theorem w159 : ∀ (d t : Nat) (h : zH), L < 4 * t + 4 + 4 * d → t ≤ 512 → LI L h t → ∃ h1 t', zev 159 18 [some (vR (some 0)), some (vR (some 8)), some (vR (some 19)), some (vI (nI (4 * t)))] [] h = some (some (vI 1), h1) ∧ LI L h1 t' ∧ t' ≤ 512 := by
  intro d
  induction d with
  | zero =>
    intro t h hd ht I
    have hL := I.2.2.2
    have h45 : 45 ≤ zn h := by
      obtain ⟨⟨n, p, s, c, r⟩, -⟩ := I
      exact r.1.1.1
    refine ⟨h, t, ?_, I, ht⟩
    rw [b159_18, al_k (by omega) I.2.2.1 (by decide), if_pos, bo_1]
    rw [Int32.lt_iff_toInt_lt, sub4 L hL, nI_toInt (by omega)]
    omega
  | succ d ih =>
    intro t h hd ht I
    have hL := I.2.2.2
    have hk := I.2.2.1
    have h45 : 45 ≤ zn h := by
      obtain ⟨⟨n, p, s, c, r⟩, -⟩ := I
      exact r.1.1.1
    by_cases g : L < 4 * t + 4
    · refine ⟨h, t, ?_, I, ht⟩
      rw [b159_18, al_k (by omega) hk (by decide), if_pos, bo_1]
      rw [Int32.lt_iff_toInt_lt, sub4 L hL, nI_toInt (by omega)]
      omega
    · have hi : 4 * t + 4 ≤ L := by omega
      have nx : ∀ E : Option (Option zV × zH), (∃ h2, E = zev 159 18 [some (vR (some 0)), some (vR (some 8)), some (vR (some 19)), some (vI (nI (4 * (t + 1))))] [] h2 ∧ LI L h2 (t + 1)) → ∃ h1 t', E = some (some (vI 1), h1) ∧ LI L h1 t' ∧ t' ≤ 512 := by
        rintro E ⟨h2, e, I2⟩
        rw [e]
        exact ih (t + 1) h2 (by omega) (by omega) I2
      have E := b159_18 (some 0) (some 8) (some 19) (nI (4 * t)) h
      rw [al_k (by omega) hk (by decide), if_neg (show ¬ nI L - 4 < nI (4 * t) by rw [Int32.lt_iff_toInt_lt, sub4 L hL, nI_toInt (by omega)]; omega), aI_k (by omega) hk (show 4 * t < L by omega) (by omega)] at E
      rw [E]
      generalize zi h 0 (4 * t) &&& 31 = z
      refine nx _ ?_
      by_cases g0 : z = 0
      · rw [if_pos g0]; exact c_124 I hi
      rw [if_neg g0]
      by_cases g1 : z = 1
      · rw [if_pos g1]
        obtain ⟨v, h1, h2, e1, e2, I2, H, M, n1, n2, hk1, hz⟩ := LI_step I (by omega) J_drawT
        refine ⟨h2, ?_, I2⟩
        rw [Cv8 H, cI_k e1, M_v M, cI_k e2, if_pos rfl, nI_4]
      rw [if_neg g1]
      by_cases g2 : z = 2
      · rw [if_pos g2]
        obtain ⟨v, h1, h2, e1, e2, I2, H, M, n1, n2, hk1, hz⟩ := LI_step I (by omega) (JT_of J_place)
        refine ⟨h2, ?_, I2⟩
        rw [Cv8 H, cI_k e1, M_v M, cI_k e2, if_pos rfl, nI_4]
      rw [if_neg g2]
      by_cases g3 : z = 3
      · rw [if_pos g3]; exact c_213 I hi
      rw [if_neg g3]
      by_cases g4 : z = 4
      · rw [if_pos g4]; exact c_246 I hi
      rw [if_neg g4]
      by_cases g5 : z = 5
      · rw [if_pos g5]; exact c_279 I hi
      rw [if_neg g5]
      by_cases g6 : z = 6
      · rw [if_pos g6]; exact c_302 I hi
      rw [if_neg g6]
      by_cases g7 : z = 7
      · rw [if_pos g7]; exact c_335 I hi
      rw [if_neg g7]
      by_cases g8 : z = 8
      · rw [if_pos g8]; exact c_358 I hi
      rw [if_neg g8]
      by_cases g9 : z = 9
      · rw [if_pos g9]; exact c_391 I hi
      rw [if_neg g9]
      by_cases g10 : z = 10
      · rw [if_pos g10]; exact c_434 I hi
      rw [if_neg g10]
      by_cases g11 : z = 11
      · rw [if_pos g11]; exact c_457 I hi
      rw [if_neg g11]
      by_cases g12 : z = 12
      · rw [if_pos g12]; exact c_490 I hi
      rw [if_neg g12]
      by_cases g13 : z = 13
      · rw [if_pos g13]; exact c_533 I hi
      rw [if_neg g13]
      by_cases g14 : z = 14
      · rw [if_pos g14]; exact c_556 I hi
      rw [if_neg g14]
      by_cases g15 : z = 15
      · rw [if_pos g15]; exact c_579 I hi
      rw [if_neg g15]
      by_cases g16 : z = 16
      · rw [if_pos g16]; exact c_612 I hi
      rw [if_neg g16]
      by_cases g17 : z = 17
      · rw [if_pos g17]; exact c_645 I hi
      rw [if_neg g17]
      by_cases g18 : z = 18
      · rw [if_pos g18]; exact c_668 I hi
      rw [if_neg g18]
      obtain ⟨⟨n, p, s, c, r⟩, TA, -, -⟩ := I
      exact ⟨h, by rw [nI_4], ⟨n, p, s, c, R_t r (by omega) (by omega)⟩, TA, hk, hL⟩
end ZLW2
