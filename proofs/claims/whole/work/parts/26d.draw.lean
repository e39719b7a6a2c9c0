section ZDX
variable {hc hm h h' h1 h2 m m1 m' : zH} {n n' p s s' c t l j k a T : Nat} {x y : Int32} {f : Nat}
theorem D7_of (D : DF hc h n) : D7 hc (zui h 9 2 x) n := by
  obtain ⟨d1, d2, d3, d4, d5, d6, d7, d8⟩ := D
  exact ⟨d1, d2, fun a q1 q2 q3 q4 q5 q6 => by rw [zi_f (Ne.symm q2)]; exact d3 a q1 q2 q3 q4 q5 q6, d4, by rw [zi_ua (by decide)]; exact d5, d6, d7⟩
theorem D7_u (D : D7 hc h n) : D7 hc (zui h 9 2 x) n := by
  obtain ⟨d1, d2, d3, d4, d5, d6, d7⟩ := D
  exact ⟨d1, d2, fun a q1 q2 q3 q4 q5 q6 => by rw [zi_f (Ne.symm q2)]; exact d3 a q1 q2 q3 q4 q5 q6, d4, by rw [zi_ua (by decide)]; exact d5, d6, d7⟩
theorem LW_9 (W : LW h n) : LW (zui h 9 2 x) n := LW_ui W (by rw [W.1.2.2.1]; decide)
theorem cf_9 (W : LW h n) (hl : l < n) : cf (zui h 9 2 x) l k = cf h l k := by
  have := (LW_la W hl).1
  show zi (zui h 9 2 x) (zla h l) k = zi h (zla h l) k
  exact zi_ua (by omega)
theorem J_draw (r : R hc hm n p s c t) (ht : t < 512) (TA : TAB hc) : ∃ v hc' hm' n' p' s' c', zcall 12 [vR (some 8)] hc = some (some (vI v), hc') ∧ zcall 114 [vR (some 19)] hm = some (some (vI v), hm') ∧ R hc' hm' n' p' s' c' (t + 1) ∧ FO hc hc' ∧ MF hm hm' := by
  obtain ⟨w, rm, rk, rx, rmo, rl, rd, rh, rg, rb, bs, rt, ro⟩ := id r
  obtain ⟨k1, k2, k3, k4, k5, k6, k7, k8, k9, k10, k11, k12, k13, k14, k15, k16, k19⟩ := id rk
  obtain ⟨T, t1, t2, t3, t4⟩ := id rx
  have h45 := w.1.1
  have hn40 := w.2.1
  -- both begin
  have A0 : PC hc (zui (zui (zui hc 9 5 0) 9 4 0) 9 3 (-1)) := PC_tr (PC_tr (PC_9 (by decide)) (PC_9 (by decide))) (PC_9 (by decide))
  have H1 : CS (zui hc 9 5 0) := w.1
  have H2 : CS (zui (zui hc 9 5 0) 9 4 0) := w.1
  generalize hh0 : zui (zui (zui hc 9 5 0) 9 4 0) 9 3 (-1) = h0 at A0
  have E13 : zcall 13 [vR (some 9), vR (some 13)] hc = zev 13 31 [some (vR (some 9)), some (vR (some 13)), some (vI (nI n)), some (vI (nI s)), some (vI (nI 0))] [] h0 := by
    rw [e13, Cr13_2 w.1, Lv16 w, Lsz w, Ci13_3 w.1, k5, Cp9_5 w.1, Cp9_4 H1, Cp9_3 H2, hh0, nI_0]
  have N1 : MS (zui hm 19 2 (-1)) := rm
  have N2 : MS (zui (zui hm 19 2 (-1)) 19 35 0) := rm
  have N3 : MS (zui (zui (zui hm 19 2 (-1)) 19 35 0) 19 36 (nI n)) := rm
  have N4 : MS (zui (zui (zui (zui hm 19 2 (-1)) 19 35 0) 19 36 (nI n)) 19 37 (nI s)) := rm
  have Q1 : MM0 hm (zui (zui (zui (zui hm 19 2 (-1)) 19 35 0) 19 36 (nI n)) 19 37 (nI s)) := MM0_u (MM0_u (MM0_u (MM0_u ⟨MF_rfl, fun _ _ _ _ => rfl, fun _ _ _ _ _ => rfl⟩ (by omega)) (by omega)) (by omega)) (by omega)
  have z1 : ∀ k, zi (zui (zui (zui (zui hm 19 2 (-1)) 19 35 0) 19 36 (nI n)) 19 37 (nI s)) 19 k = if k = 37 then nI s else if k = 36 then nI n else if k = 35 then 0 else if k = 2 then -1 else zi hm 19 k := fun k => by
    rw [zi_ui, zi_ui, zi_ui, zi_ui]
    simp
  have E115 : zcall 115 [vR (some 19)] (zui hm 19 2 (-1)) = zev 115 23 [some (vR (some 19)), some (vI (nI 0))] [] (zui (zui (zui (zui hm 19 2 (-1)) 19 35 0) 19 36 (nI n)) 19 37 (nI s)) := by
    rw [e115, Mp_at N1, Mi_lots N2, zi_uk (by decide), zi_uk (by decide), k1, Mp_newLots N2, Mi_streets N3, zi_uk (by decide), zi_uk (by decide), zi_uk (by decide), k6, Mp_newStreets N3, nI_0]
  generalize hm1 : zui (zui (zui (zui hm 19 2 (-1)) 19 35 0) 19 36 (nI n)) 19 37 (nI s) = mm1 at *
  obtain ⟨m2, f1, f2, f3⟩ := w115 N4 320 0 mm1 (by omega) F1_rfl (fun j hj => absurd hj (by omega))
  have z2 : ∀ k, zi m2 19 k = if k = 37 then nI s else if k = 36 then nI n else if k = 35 then 0 else if k = 2 then -1 else zi hm 19 k := fun k => by rw [f2.2.2.2.2 19 (by decide)]; exact z1 k
  have za : ∀ a, a ≠ 9 → zi h0 a = zi hc a := fun a q => by rw [← hh0, zi_f (Ne.symm q), zi_f (Ne.symm q), zi_f (Ne.symm q)]
  have Q2 : MM0 hm m2 := MM0_f Q1 f2
  have S0 : SS h0 m2 T 0 := by
    refine ⟨PC_cs A0 w.1, F1_ms f2 N4, t1, by omega, by rw [A0.2.2.2.2.2]; exact t2, by rw [z2]; exact t3, fun i hi => ?_, ?_, by rw [z2]; exact nI_0.symm, ?_, ?_, by rw [z2]; rfl⟩
    · rw [Q2.2.1 20 (by decide) (by decide) (by decide), za 10 (by decide)]
      exact t4 i hi
    · rw [← hh0, zi_uk (by decide), zi_uk (by decide), zi_us]
      exact nI_0.symm
    · rw [← hh0, zi_uk (by decide), zi_us]
    · rw [← hh0, zi_us]
  have W0 := Q4_LW (Q4_pc A0) w
  have D0 : DG hc hm n s h0 m2 n s := by
    refine ⟨⟨⟨by rw [A0.1]; exact Nat.le_refl _, fun a _ => by rw [A0.2.2.1], fun a _ q2 _ _ _ _ => za a q2, fun a _ _ _ => by rw [A0.2.2.2.1], by rw [za 13 (by decide)], fun l _ => Q4_la (Q4_pc A0), Or.inl (Q4_ed (Q4_pc A0)), A0.2.2.2.2.2⟩, W0, Nat.le_refl _, fun l h1 h2 => absurd h2 (by omega), fun l j h1 h2 h3 => absurd h3 (by omega), by rw [A0.1]; omega, by rw [A0.2.1, A0.2.2.1, Q4_ed (Q4_pc A0)]; omega⟩, Nat.le_refl _, k7, fun c hc => Or.inl (by rw [za 14 (by decide)]), by rw [za 13 (by decide)]; exact k5, Q2, by rw [z2]; rfl, by rw [z2]; rfl, fun l h1 h2 => absurd h2 (by omega), ?_⟩
    refine RG_g (RG_pc rg w A0) (fun j hj => ?_) (fun u hu => by unfold VV; rw [if_pos hu])
    rw [f3 j hj]
    exact congrFun (Q1.2.1 21 (by decide) (by decide) (by decide)) j
  have O := w13 h45 TA T 0 0 n s h0 m2 (nI 320) (by omega) (by omega) S0 D0
  have E12 := e12 (some 8) hc
  rw [Cr8_0 w.1, Cr8_1 w.1, Cr12_0 w.1, Cv9 w.1] at E12
  have E114 := e114 (some 19) hm
  rw [Mp_faultPlace rm, M_v N1] at E114
  rcases O with ⟨n', s', h', m', ⟨z, g1⟩, g2, S', D'⟩ | ⟨f, n', s', h', m', ⟨z, g1⟩, g2, F', D'⟩
  · -- drawn
    obtain ⟨y1, y2, y3, y4, y5, y6, y7, y8, y9, y10, y11, y12⟩ := id S'
    obtain ⟨d1, d2, d3, d4, d5, d6, d7, d8, d9, d10⟩ := id D'
    have HF : CS (zui h' 9 2 0) := y1
    have c13 : zcall 13 [vR (some 9), vR (some 13)] hc = some (some (vI 0), zui h' 9 2 0) := by
      rw [E13, g1, b13_57, Ci9_4 y1, y10, if_pos rfl, Cp9_2 y1, Ci9_4 HF, zi_uk (by decide), y10]
    have WF : LW (zui h' 9 2 0) n' := LW_9 d1.2.1
    rw [cI_k c13, if_pos rfl, Cr8_1 HF, Cr12_0 HF, Cr13_2 HF, Lv16 WF, Lsz WF] at E12
    have c115 : zcall 115 [vR (some 19)] (zui hm 19 2 (-1)) = some (some (vI 0), m') := by rw [E115, f1, g2]
    rw [cI_k c115, Mp_texted y2, if_neg (by decide)] at E114
    have M4 : MS (zui m' 19 1 0) := y2
    obtain ⟨ma, v1, v2, v3⟩ := w114a (x := 0) (n := n) M4 (by rw [zi_uk (by decide), d6.2.2 5 (by decide) (by decide) (by decide) (by decide)]; exact k1) 320 0 (zui m' 19 1 0) (by omega) F1_rfl (fun j hj => absurd hj (by omega))
    rw [nI_0] at v1
    have Ma := F1_ms v2 M4
    have a19 : zi ma 19 = zi (zui m' 19 1 0) 19 := v2.2.2.2.2 19 (by decide)
    have a44 : zi ma 44 = zi m' 44 := (v2.2.2.2.2 44 (by decide)).trans (zi_f (by decide))
    have a43 : zi ma 43 = zi m' 43 := (v2.2.2.2.2 43 (by decide)).trans (zi_f (by decide))
    obtain ⟨mb, v4, v5⟩ := w114b (x := 0) (n := n) (n' := n') (s := s) Ma (by rw [a19, zi_uk (by decide)]; exact d7) (by rw [a19, zi_uk (by decide), d6.2.2 16 (by decide) (by decide) (by decide) (by decide)]; exact k6) d1.2.1.2.1 (fun l h1 h2 => by rw [a44]; exact (d9 l h1 h2).2.2) (n' - n) n ma (by have := d1.2.2.1; omega) (Nat.le_refl _) ⟨rfl, rfl, rfl, rfl, fun _ _ => rfl, fun a j _ => by rw [if_neg (by omega)]⟩
    have Mb := CB_ms v5 Ma
    have kn : ∀ a, ¬ KA a → a ≠ 21 → a ≠ 19 → zi mb a = zi m' a := fun a q1 q2 q3 => by
      rw [v5.2.2.2.2.1 a q1, v2.2.2.2.2 a q2]
      exact zi_f (Ne.symm q3)
    have b19 : ∀ k, k ≠ 1 → zi mb 19 k = zi m' 19 k := fun k q => by
      rw [v5.2.2.2.2.1 19 (by unfold KA; omega), a19, zi_uk q]
    obtain ⟨mc, v6, v7, v8⟩ := w114c (x := 0) (n' := n') (s := s) (s' := s') Mb (by rw [b19 36 (by decide)]; exact d7) (by rw [b19 37 (by decide)]; exact d8) d3 (s' - s) s mb (by omega) F1_rfl (fun j => by rw [if_neg (by omega)]) (Nat.le_refl _)
    rw [v1, v4, v6] at E114
    have c19 : ∀ k, k ≠ 1 → k ≠ 5 → k ≠ 16 → zi (zui (zui mc 19 5 (nI n')) 19 16 (nI s')) 19 k = zi m' 19 k := fun k q1 q2 q3 => by
      rw [zi_uk q3, zi_uk q2, v7.2.2.2.2 19 (by decide), b19 k q1]
    have ca : ∀ a, a ≠ 19 → a ≠ 33 → zi (zui (zui mc 19 5 (nI n')) 19 16 (nI s')) a = zi mb a := fun a q1 q2 => by
      rw [zi_f (Ne.symm q1), zi_f (Ne.symm q1), v7.2.2.2.2 a q2]
    have NF : MF hm (zui (zui mc 19 5 (nI n')) 19 16 (nI s')) := by
      refine MF_u (MF_u ?_ (by decide) (by decide)) (by decide) (by decide)
      obtain ⟨⟨x1, x2, x3, x4, x5⟩, -, -⟩ := d6
      refine ⟨v7.1.trans (v5.1.trans (v2.1.trans x1)), v7.2.1.trans (v5.2.1.trans (v2.2.1.trans x2)), v7.2.2.1.trans (v5.2.2.1.trans (v2.2.2.1.trans x3)), v7.2.2.2.1.trans (v5.2.2.2.1.trans (v2.2.2.2.1.trans x4)), fun a ha => ?_⟩
      rw [v7.2.2.2.2 a (by omega), kn a (by unfold KA; omega) (by omega) (by omega)]
      exact x5 a ha
    obtain ⟨⟨-, -, -, -, -⟩, p2, p3⟩ := id d6
    have DD : D7 hc (zui h' 9 2 0) n := D7_of d1.1
    have hcap : (zk h' (zed h')).2 ≤ 200 := by
      obtain ⟨-, -, ⟨cap, w3⟩, -⟩ := d1.2.1
      rw [w3.2.2.2.2.2.2.2.2.1]
      exact w3.2.2.2.2.2.2.1
    have hb1 := d1.2.2.2.2.2.1
    have hb2 := d1.2.2.2.2.2.2
    have hn40' := d1.2.1.2.1
    have cfF : ∀ l k, l < n' → cf (zui h' 9 2 0) l k = cf h' l k := fun l k hl => cf_9 d1.2.1 hl
    refine ⟨nI n', _, _, n', p, s', c, E12, E114, ?_, D7_FO DD w, NF⟩
    refine R_draw r ht DD WF d1.2.2.1 (fun l h1 h2 => ?_) (fun l j h1 h2 h3 => d1.2.2.2.2.1 l j h1 h2 h3) (show zn h' ≤ _ by omega) (show zs h' ≤ _ by omega) NF (fun a ha => ?_) (fun a l ha hl => ?_) (fun l h1 h2 => ?_) (fun k hk => ?_) (by rw [zi_uk (by decide), zi_us]) zi_us (by rw [zi_ua (by decide)]; exact d5) d3 zi_us ?_ ?_ ?_
    · obtain ⟨q1, q2, q3, q4, q5, q6, q7, q8, q9, q10, q11, q12, q13, q14, q15⟩ := d1.2.2.2.1 l h1 h2
      have e := fun k => cfF l k h2
      unfold FLt
      rw [e, e, e, e, e, e, e]
      exact ⟨q1, q2, q3, q4, q5, q6, q7, q8, q9, q10, q11, q12, q13, by show zi (zui h' 9 2 0) (zbl h' l) 2 = 0; rw [zi_ua (by omega)]; exact q14, q15⟩
    · rw [ca a (by omega) (by omega), kn a (by unfold KA; omega) (by omega) (by omega)]
      exact p2 a (by omega) (by omega) (by omega)
    · rw [ca a (by omega) (by omega), v5.2.2.2.2.2 a l (by unfold KA; exact ha), if_neg (by omega), v2.2.2.2.2 a (by omega), zi_f (by omega), p2 a (by omega) (by omega) (by omega)]
    · have eN : ∀ a, KA a → zi (zui (zui mc 19 5 (nI n')) 19 16 (nI s')) a l = nv ma a l := fun a q => by
        have q' := q
        unfold KA at q'
        rw [ca a (by omega) (by omega), v5.2.2.2.2.2 a l q, if_pos ⟨h1, h2⟩]
      obtain ⟨x1, x2, x3⟩ := d9 l h1 h2
      rw [eN 23 (by unfold KA; decide), eN 24 (by unfold KA; decide), eN 25 (by unfold KA; decide), eN 28 (by unfold KA; decide), eN 30 (by unfold KA; decide), eN 31 (by unfold KA; decide), eN 32 (by unfold KA; decide), eN 36 (by unfold KA; decide), cA_cg (fun k => cfF l k h2), cfF l 4 h2]
      unfold nv
      rw [a43, a44, x1, x2]
      exact ⟨rfl, rfl, rfl, rfl, rfl, rfl, rfl, rfl⟩
    · rw [c19 k (by omega) (by omega) (by omega)]
      exact p3 k (by omega) (by omega) (by omega) (by omega)
    · rw [zi_uk (by decide), zi_uk (by decide), v7.2.2.2.2 19 (by decide), v5.2.2.2.2.1 19 (by unfold KA; omega), a19, zi_us]
    · rw [zi_uk (by decide), y11, c19 2 (by decide) (by decide) (by decide), y12]
    · have e33 : ∀ u, u < s' → zi (zui (zui mc 19 5 (nI n')) 19 16 (nI s')) 33 u = VV hm s u := fun u hu => by
        rw [zi_ua (by decide), zi_ua (by decide), v8 u]
        unfold VV
        by_cases q : u < s
        · rw [if_neg (by omega), if_pos q, kn 33 (by unfold KA; omega) (by decide) (by decide), p2 33 (by decide) (by decide) (by decide)]
        · rw [if_pos (by omega), if_neg q]
      have e21 : ∀ j, j < 320 → zi (zui (zui mc 19 5 (nI n')) 19 16 (nI s')) 21 j = zi m' 22 j := fun j hj => by
        rw [ca 21 (by decide) (by decide), v5.2.2.2.2.1 21 (by unfold KA; omega), v3 j hj, zi_ua (by decide)]
      exact RG_c2 (RG_g d10 e21 e33) (fun l k hl _ => cfF l k hl) (fun j _ => zi_ua (by decide)) (zi_f (by decide))
  · -- a fault
    obtain ⟨x1, x2, x3, x4⟩ := id F'
    obtain ⟨d1, d2, d3, d4, d5⟩ := id D'
    have y1 := d1.2.1.1
    obtain ⟨h3, c42, b1, b2, b3, b4, b5, b6, b7, b8⟩ := q42 r D'
    have HF : CS (zui h3 9 2 0) := b2.1
    have f0 : ¬ nI f = 0 := nI_ne0 (by omega) (by omega)
    have c13 : zcall 13 [vR (some 9), vR (some 13)] hc = some (some (vI (nI f)), zui h3 9 2 0) := by
      rw [E13, g1, b13_57, Ci9_4 y1, x3, if_neg f0, Cv13 y1, cV_k c42, Cp9_2 b2.1, Ci9_4 HF, zi_uk (by decide), b7, x3]
    rw [cI_k c13, if_neg f0] at E12
    have c115 : zcall 115 [vR (some 19)] (zui hm 19 2 (-1)) = some (some (vI (nI f)), m') := by rw [E115, f1, g2]
    obtain ⟨p1, p2, p3⟩ := id d5
    have M' := MF_ms p1 rm
    rw [cI_k c115, Mp_texted M', if_pos (show (0 : Int32) < nI f from nI_lt (a := 0) (b := f) (by omega) (by omega))] at E114
    have DD : D7 hc (zui h3 9 2 0) n := D7_u b1
    have hcap : (zk h' (zed h')).2 ≤ 200 := by
      obtain ⟨-, -, ⟨cap, w3⟩, -⟩ := d1.2.1
      rw [w3.2.2.2.2.2.2.2.2.1]
      exact w3.2.2.2.2.2.2.1
    have hb1 := d1.2.2.2.2.2.1
    have hb2 := d1.2.2.2.2.2.2
    have hn40' := d1.2.1.2.1
    have ma : ∀ a, a ≠ 19 → zi (zui m' 19 1 0) a = zi m' a := fun a q => zi_f (Ne.symm q)
    refine ⟨-10 - nI f, _, _, n, p, s, c, E12, E114, ?_, D7_FO DD w, MF_u p1 (by decide) (by decide)⟩
    refine R_draw r ht DD (LW_9 b2) (Nat.le_refl _) (fun l h1 h2 => absurd h2 (by omega)) (fun l j h1 h2 h3 => absurd h3 (by omega)) (show zn h3 ≤ _ by omega) (show zs h3 ≤ _ by omega) (MF_u p1 (by decide) (by decide)) (fun a ha => ?_) (fun a l ha hl => ?_) (fun l h1 h2 => absurd h2 (by omega)) (fun k hk => ?_) ?_ ?_ (by rw [zi_ua (by decide)]; exact b4) k7 zi_us zi_us ?_ ?_
    · rw [ma a (by omega)]
      exact p2 a (by omega) (by omega) (by omega)
    · rw [ma a (by omega), p2 a (by omega) (by omega) (by omega)]
    · rw [zi_uk (by omega)]
      exact p3 k (by omega) (by omega) (by omega) (by omega)
    · rw [zi_uk (by decide), p3 5 (by decide) (by decide) (by decide) (by decide)]
      exact k1
    · rw [zi_uk (by decide), p3 16 (by decide) (by decide) (by decide) (by decide)]
      exact k6
    · rw [zi_uk (by decide), b7, x4, zi_uk (by decide)]
    · rw [ma 21 (by decide), ma 33 (by decide), p2 21 (by decide) (by decide) (by decide), p2 33 (by decide) (by decide) (by decide)]
      refine RG_c2 rg (fun l k hl _ => ?_) (fun j hj => by rw [zi_ua (by decide)]; exact b3 j hj) ((zi_f (by decide)).trans b8)
      obtain ⟨u1, u2, u3⟩ := LW_la w hl
      obtain ⟨e1, e2, e3, e4, e5, e6, e7⟩ := DD
      unfold cf
      rw [e6 l hl, e3 _ u2 (by omega) (by omega) (by omega) (by omega) (by omega)]
end ZDX
