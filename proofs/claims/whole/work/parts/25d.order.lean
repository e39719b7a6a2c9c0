section ZOS
variable {hc hm h h' h2 m m' m2 : zH} {n n' s s' T P Q F i k : Nat} {x y : Int32} {f : Nat}
theorem okc_0 {z : Int32} : okc 0 z ↔ z = -1 := ⟨fun q => q.elim id (fun q => absurd rfl q.1), Or.inl⟩
/-- free here, free there -/
theorem free_eq {G V : Nat → Int32} (R0 : RG h G V n' s') (hn : n' ≤ 40) (hs : s' ≤ 12) {c : Nat} (hc : c < 320) : (zi h 14 c = -1 ↔ G c = -1) ∧ (okc 1 (zi h 14 c) ↔ okc 1 (G c)) := by
  rcases R0.2.1 c hc with ⟨e1, e2⟩ | ⟨l, hl, e1, e2⟩ | ⟨u, hu, e1, e2⟩
  · rw [e1, e2]
    exact ⟨Iff.rfl, Iff.rfl⟩
  · rw [e1, e2]
    exact ⟨Iff.rfl, Iff.rfl⟩
  · rw [e1, e2]
    have h1 : ¬ nI (100 + u) < (100 : Int32) := nI_nlt (a := 100 + u) (b := 100) (by omega) (by omega)
    refine ⟨⟨fun q => absurd q (nI_m1 (by split <;> omega)), fun q => absurd q (nI_m1 (by omega))⟩, ⟨fun _ => Or.inr ⟨by decide, h1⟩, fun _ => Or.inr ⟨by decide, ?_⟩⟩⟩
    split
    · exact h1
    · exact nI_nlt (a := 200 + u) (b := 100) (by omega) (by omega)
theorem o_f2 (h45 : 45 ≤ zn hc) (S : SS h m T Q) (D : DG hc hm n s h m n' s') (A : F1 22 m m2) (hf1 : 1 ≤ f) (hf2 : f ≤ 4) {z : Int32} : OUT hc hm n s T P (zev 18 137 [some (vR (some 9)), some (vR (some 13)), some (vI z)] [] (zui (zui h 9 4 (nI f)) 9 3 (nI F))) (some (some (vI (nI f)), zui m2 19 2 (nI F))) := by
  have D1 := DX_of D
  exact o_bad h45 (show CS (zui (zui h 9 4 (nI f)) 9 3 (nI F)) from S.1) ⟨CMa_q D1.1 (Q4_pc PC_f) h45, D1.2.1, D1.2.2.1, CF_pc D1.2.2.2.1 PC_f, MM0_u (MM0_f D1.2.2.2.2 A) (by omega)⟩ (FT_mk hf1 hf2) rfl
/-- a block, or a gift -/
theorem o_block (h45 : 45 ≤ zn hc) (S : SS h m T Q) (D : DG hc hm n s h m n' s') (hP : P < Q) {X Y W B N : Nat} (hX : X ≤ 19) (hY : Y ≤ 15) (hW : 1 ≤ W ∧ W ≤ 9) (hB : 1 ≤ B ∧ B ≤ 9) (hN : 1 ≤ N ∧ N ≤ 9) (a0 : zi h 11 0 = nI X ∧ zi m 42 0 = nI X) (a1 : zi h 11 1 = nI Y ∧ zi m 42 1 = nI Y) (a2 : zi h 11 2 = nI W ∧ zi m 42 2 = nI W) (a3 : zi h 11 3 = nI B ∧ zi m 42 3 = nI B) {l2 l3 g : Int32} {u5 u6 : Option zV} (h115 : ¬ l2 = 115) (hg : g = if l2 = 103 then 1 else 0) : OUT hc hm n s T P (zcV 23 [vR (some 9), vR (some 13), vI (nI P), vI (nI N), vI g] h fun h5 => zev 18 137 [some (vR (some 9)), some (vR (some 13)), some (vI (nI P))] [] h5) (zcI 123 [vR (some 19), vI (nI N)] m fun x8 h7 => zev 117 113 [some (vR (some 19)), some (vI (nI P)), some (vI l2), some (vI l3), some (vI (nI N)), u5, u6] [vI x8] h7) := by
  obtain ⟨s1, s2, s3, s4, s5, s6, s7, s8, s9, s10, s11, s12⟩ := id S
  obtain ⟨d1, d2, d3, d4, d5, d6, d7, d8, d9, d10⟩ := id D
  have w := d1.2.1
  have hn40 := w.2.1
  have hg' : g = 0 ∨ g = 1 := by
    rw [hg]
    split
    · exact Or.inr rfl
    · exact Or.inl rfl
  have NW9 : N * W ≤ 81 := Nat.le_trans (Nat.mul_le_mul hN.2 hW.2) (by decide)
  have E123 : zcall 123 [vR (some 19), vI (nI N)] m = zev 123 4 [some (vR (some 19)), some (vI (nI N)), some (vI 1), some (vI (nI 0))] [] m := by rw [e123, nI_0]
  have FRB : FR h X Y (N * W) B 0 ↔ FB m X Y W B N := by
    unfold FR FB
    exact and_congr Iff.rfl (and_congr Iff.rfl ⟨fun q c hc r => ((free_eq d10 hn40 d3 hc).1).mp (okc_0.mp (q c hc r)), fun q c hc r => okc_0.mpr (((free_eq d10 hn40 d3 hc).1).mpr (q c hc r))⟩)
  have E := e23 (some 9) (some 13) (nI P) (nI N) g h
  rw [Cr9_1 s1, Cn (x := 0) (k := 0) s1 rfl (by decide), a0.1, Cr9_1 s1, Cn (x := 1) (k := 1) s1 rfl (by decide), a1.1, Cr9_1 s1, Cn (x := 2) (k := 2) s1 rfl (by decide), a2.1, Cr9_1 s1, Cn (x := 3) (k := 3) s1 rfl (by decide), a3.1, Cv13 s1, pk_mul] at E
  have Mx := w123 (N := N) s2 a0.2 a1.2 a2.2 a3.2 d7 (by omega) (by omega) (by omega) (by omega) hW.1 hB.1 (by omega) hN.1 hn40 N 0 m (by omega) F1_rfl (fun c hc => Or.inr ⟨fun i hi => absurd hi (by omega), rfl⟩) (fun i hi => absurd hi (by omega))
  rw [← E123] at Mx
  rcases q24 (x := X) (y := Y) (w := N * W) (b := B) (cr := 0) s1 (by omega) (by omega) (by omega) (by omega) with ⟨q1, q2⟩ | ⟨q1, q2⟩
  · rw [cI_k q1, if_neg (by decide), Cr13_2 s1, Lv16 w, Lsz w, nI_add] at E
    rcases Mx with ⟨m2, f1, f2, f3, f4⟩ | ⟨m2, f1, f2, f3⟩
    · have M2 := F1_ms f2 s2
      have z19 : zi m2 19 = zi m 19 := f2.2.2.2.2 19 (by decide)
      rw [cI_k f1, b117_113, if_neg (by decide), if_neg h115, Mi_newLots M2, z19, d7, nI_add]
      by_cases g1 : n' + N ≤ 40
      · have g1' : ¬ (40 : Int32) < nI (n' + N) := nI_nlt (a := 40) (b := n' + N) g1 (by decide)
        rw [if_neg g1'] at E ⊢
        have fr : ∀ c, c < 320 → inR X Y (N * W) B c → zi h 14 c = -1 := fun c hc r => okc_0.mp (q2.2.2 c hc r)
        obtain ⟨h5, y1, Ly⟩ := w23 (l2 := nI P) (n := n) (s := s) (hc := hc) h45 d3 g1 q2.1 q2.2.1 fr hg' N 0 h (by omega) ⟨d1, d4, fun c hc => Or.inr ⟨fun i hi => absurd hi (by omega), rfl⟩, fun _ _ _ => rfl, fun i hi => absurd hi (by omega), fun _ _ _ _ => rfl⟩
        rw [nI_0] at y1
        rw [y1] at E
        obtain ⟨L1, L2, L3, L4, L5, L6⟩ := Ly
        obtain ⟨m3, v1, v2, v3, v4, v5, v6, v7, v8⟩ := w117 (hm := hm) (m := m2) (l1 := nI P) (l2 := l2) (l3 := l3) (l5 := 1) M2 g1 (by rw [f2.2.2.2.2 42 (by decide)]; exact a2.2) (by rw [f2.2.2.2.2 42 (by decide)]; exact a3.2) (by rw [z19]; exact d7) h115 N 0 m2 (by omega) M2 rfl (by rw [z19]; exact d7) (MM0_f d6 f2) (fun _ _ => rfl) (fun _ _ _ _ => rfl) (fun l => by rw [if_neg (by omega)]) (fun l => by rw [if_neg (by omega)])
        rw [nI_0] at v1
        rw [cV_k E, b117_164, if_neg h115, v1]
        refine o_tail h45 (n' := n' + N) (s' := s') (Q := Q) ⟨L1.2.1.1, v2, s3, s4, by rw [L6 9 (by decide) (by decide) (by decide)]; exact s5, by rw [v5 1 (by decide), z19]; exact s6, fun i hi => by rw [v6 20 (by decide) (by decide) (by decide), f2.2.2.2.2 20 (by decide), L6 10 (by decide) (by decide) (by decide)]; exact s7 i hi, by rw [L6 9 (by decide) (by decide) (by decide)]; exact s8, by rw [v5 35 (by decide), z19]; exact s9, by rw [L6 9 (by decide) (by decide) (by decide)]; exact s10, by rw [L6 9 (by decide) (by decide) (by decide)]; exact s11, by rw [v5 2 (by decide), z19]; exact s12⟩ ⟨L1, d2, d3, L2, by rw [L6 13 (by decide) (by decide) (by decide)]; exact d5, v4, v3, by rw [v5 37 (by decide), z19]; exact d8, fun l h1 h2 => ?_, ?_⟩ hP
        · rw [v7 l, v8 l]
          by_cases e : l < n'
          · rw [if_neg (by omega), if_neg (by omega), f2.2.2.2.2 43 (by decide), f2.2.2.2.2 44 (by decide), cA_cg (fun k => L4 l k e), L4 l 4 e]
            exact d9 l h1 e
          · obtain ⟨i, rfl⟩ : ∃ i, l = n' + i := ⟨l - n', by omega⟩
            obtain ⟨t1, t2, t3, t4, t5, t6⟩ := L5 i (by omega)
            rw [if_pos (by omega), if_pos (by omega), t5]
            refine ⟨?_, hg, by rw [← hg]; exact hg'⟩
            show 2 * cf h5 (n' + i) 2 * cf h5 (n' + i) 3 + cf h5 (n' + i) 5 = _
            rw [t3, t4, t6, Int32.mul_assoc, pk_mul, Int32.add_zero]
        · rw [v6 22 (by decide) (by decide) (by decide)]
          exact RG_lots d10 d3 g1 hW.1 hB.1 q2.1 q2.2.1 f4.2.2 L3 f3 L4 (fun i hi => ⟨(L5 i hi).1, (L5 i hi).2.1, (L5 i hi).2.2.1, (L5 i hi).2.2.2.1⟩) (L6 15 (by decide) (by decide) (by decide))
      · have g1' : (40 : Int32) < nI (n' + N) := nI_lt (a := 40) (b := n' + N) (by omega) (by omega)
        rw [if_pos g1', Cv9 s1, cV_k (q20 s1)] at E
        rw [if_pos g1', cV_k E, M_v M2, cI_k (q118 M2)]
        exact o_f2 (f := 4) h45 S D f2 (by omega) (by omega)
    · exact absurd (FRB.mp q2) f3
  · rw [cI_k q1, if_pos rfl, Cv9 s1, cV_k (q20 s1)] at E
    rcases Mx with ⟨m2, f1, f2, f3, f4⟩ | ⟨m2, f1, f2, f3⟩
    · exact absurd (FRB.mpr f4) q2
    · have M2 := F1_ms f2 s2
      rw [cI_k f1, b117_113, if_pos rfl, cV_k E, M_v M2, cI_k (q118 M2)]
      exact o_f2 (f := 3) h45 S D f2 (by omega) (by omega)
/-- a street -/
theorem o_street (h45 : 45 ≤ zn hc) (S : SS h m T Q) (D : DG hc hm n s h m n' s') (hP : P < Q) {X Y d N : Nat} (hX : X ≤ 19) (hY : Y ≤ 15) (hd : d ≤ 1) (hN : 1 ≤ N ∧ N ≤ 20) (a0 : zi h 11 0 = nI X ∧ zi m 42 0 = nI X) (a1 : zi h 11 1 = nI Y ∧ zi m 42 1 = nI Y) (a2 : zi h 11 2 = nI d ∧ zi m 42 2 = nI d) (a3 : zi h 11 3 = nI N ∧ zi m 42 3 = nI N) {l3 : Int32} {u5 u6 : Option zV} : OUT hc hm n s T P (zcV 40 [vR (some 9), vR (some 13), vI (nI P)] h fun h5 => zev 18 137 [some (vR (some 9)), some (vR (some 13)), some (vI (nI P))] [] h5) (zcI 122 [vR (some 19)] m fun x8 h7 => zev 117 113 [some (vR (some 19)), some (vI (nI P)), some (vI 115), some (vI l3), some (vI 1), u5, u6] [vI x8] h7) := by
  obtain ⟨s1, s2, s3, s4, s5, s6, s7, s8, s9, s10, s11, s12⟩ := id S
  obtain ⟨d1, d2, d3, d4, d5, d6, d7, d8, d9, d10⟩ := id D
  have w := d1.2.1
  have hn40 := w.2.1
  obtain ⟨WW, BB, sx, sy, hsz, hW⟩ : ∃ WW BB sx sy : Nat, ((d = 0 ∧ WW = N ∧ BB = 1 ∧ sx = 1 ∧ sy = 0) ∨ (d = 1 ∧ WW = 1 ∧ BB = N ∧ sx = 0 ∧ sy = 1)) ∧ WW ≤ 20 := by
    rcases (show d = 0 ∨ d = 1 by omega) with q | q
    · exact ⟨N, 1, 1, 0, Or.inl ⟨q, rfl, rfl, rfl, rfl⟩, hN.2⟩
    · exact ⟨1, N, 0, 1, Or.inr ⟨q, rfl, rfl, rfl, rfl⟩, by omega⟩
  have hB : BB ≤ 20 := by omega
  have E : zcall 40 [vR (some 9), vR (some 13), vI (nI P)] h = (zcI 24 [vR (some 13), vI (nI X), vI (nI Y), vI (nI WW), vI (nI BB), vI 1] h fun x2 h1 => (if x2 = 0 then (zvr h1 (some 9) 6 (zcV 20 [vR (some 9), vI 3, vI (nI P)] h1 fun h3 => some (none, h3))) else (zgI h1 (some 13) 5 3 fun x4 => (if x4 < 12 then (zvr h1 (some 13) 5 (zcV 41 [vR (some 13), vI (nI X), vI (nI Y), vI (nI WW), vI (nI BB)] h1 fun h5 => some (none, h5))) else (zvr h1 (some 9) 6 (zcV 20 [vR (some 9), vI 4, vI (nI P)] h1 fun h6 => some (none, h6))))))) := by
    have n3 : ∀ (f : Int32 → Option (Option zV × zH)), zaI h (some 11) 3 f = f (nI N) := fun f => by rw [Cn (x := 3) (k := 3) s1 rfl (by decide), a3.1]
    have n2 : ∀ (f : Int32 → Option (Option zV × zH)), zaI h (some 11) 2 f = f (nI d) := fun f => by rw [Cn (x := 2) (k := 2) s1 rfl (by decide), a2.1]
    rw [e40, Cr9_1 s1, Cn (x := 0) (k := 0) s1 rfl (by decide), a0.1, Cr9_1 s1, Cn (x := 1) (k := 1) s1 rfl (by decide), a1.1, Cr9_1 s1, n2]
    rcases hsz with ⟨q, q1, q2, -, -⟩ | ⟨q, q1, q2, -, -⟩
    · subst q q1 q2
      rw [if_pos (by decide), Cr9_1 s1, n3, Cr9_1 s1, n2, if_pos (by decide), b40_55, Cv13 s1]
      rfl
    · subst q q1 q2
      rw [if_neg (by decide), Cr9_1 s1, n2, if_neg (by decide), Cr9_1 s1, n3, b40_55, Cv13 s1]
      rfl
  have E122 : zcall 122 [vR (some 19)] m = zev 122 4 [some (vR (some 19)), some (vI 1), some (vI (nI 0)), none, none] [] m := by rw [e122, nI_0]
  have Mx := w122 (N := N) (x := X) (y := Y) (s := s') (sx := sx) (sy := sy) s2 (by
    rcases hsz with ⟨q, -, -, q1, q2⟩ | ⟨q, -, -, q1, q2⟩
    · exact Or.inl ⟨q1, q2, by rw [a2.2, q]⟩
    · exact Or.inr ⟨q1, q2, by rw [a2.2, q]⟩) a0.2 a1.2 a3.2 d8 (by omega) (by omega) hN.2 d3 N 0 m none none (by omega) (MK_0 (fun c hc q => by obtain ⟨i, hi, -⟩ := q; omega)) (fun i hi => absurd hi (by omega))
  rw [← E122] at Mx
  -- the same cells
  have cells : ∀ c, c < 320 → ((∃ i, i < N ∧ c % 20 = X + sx * i ∧ c / 20 = Y + sy * i) ↔ inR X Y WW BB c) := fun c hc => by
    unfold inR
    rcases hsz with ⟨-, q1, q2, q3, q4⟩ | ⟨-, q1, q2, q3, q4⟩
    · subst q1 q2 q3 q4
      constructor
      · rintro ⟨i, hi, r1, r2⟩
        omega
      · intro q
        exact ⟨c % 20 - X, by omega, by omega, by omega⟩
    · subst q1 q2 q3 q4
      constructor
      · rintro ⟨i, hi, r1, r2⟩
        omega
      · intro q
        exact ⟨c / 20 - Y, by omega, by omega, by omega⟩
  have FRS : FR h X Y WW BB 1 ↔ ∀ i, i < N → X + sx * i < 20 ∧ Y + sy * i < 16 ∧ okc 1 (zi m 22 (20 * (Y + sy * i) + (X + sx * i))) := by
    constructor
    · rintro ⟨r1, r2, r3⟩ i hi
      have b1 : X + sx * i < 20 := by
        rcases hsz with ⟨-, q1, q2, q3, q4⟩ | ⟨-, q1, q2, q3, q4⟩ <;> subst q1 q2 q3 q4 <;> omega
      have b2 : Y + sy * i < 16 := by
        rcases hsz with ⟨-, q1, q2, q3, q4⟩ | ⟨-, q1, q2, q3, q4⟩ <;> subst q1 q2 q3 q4 <;> omega
      refine ⟨b1, b2, ((free_eq d10 hn40 d3 (by omega)).2).mp (r3 _ (by omega) ((cells _ (by omega)).mp ⟨i, hi, by omega, by omega⟩))⟩
    · intro q
      have e1 : X + WW ≤ 20 ∧ Y + BB ≤ 16 := by
        have := q (N - 1) (by omega)
        rcases hsz with ⟨-, q1, q2, q3, q4⟩ | ⟨-, q1, q2, q3, q4⟩ <;> subst q1 q2 q3 q4 <;> omega
      refine ⟨e1.1, e1.2, fun c hc r => ?_⟩
      obtain ⟨i, hi, t1, t2⟩ := (cells c hc).mpr r
      have := (q i hi).2.2
      rw [← t1, ← t2, show 20 * (c / 20) + c % 20 = c by omega] at this
      exact ((free_eq d10 hn40 d3 hc).2).mpr this
  rcases q24 (x := X) (y := Y) (w := WW) (b := BB) (cr := 1) s1 (by omega) (by omega) (by omega) (by omega) with ⟨q1, q2⟩ | ⟨q1, q2⟩
  · rw [cI_k q1, if_neg (by decide), Ci13_3 s1, d5] at E
    rcases Mx with ⟨m2, f1, f2, f3⟩ | ⟨m2, f1, f2, i, hi, f3⟩
    · have M2 := F1_ms f2.1 s2
      have z19 : zi m2 19 = zi m 19 := f2.1.2.2.2.2 19 (by decide)
      rw [cI_k f1, b117_113, if_neg (by decide), if_pos rfl, Mi_newStreets M2, z19, d8]
      by_cases g1 : s' < 12
      · rw [if_pos (show nI s' < (12 : Int32) from nI_lt (a := s') (b := 12) g1 (by decide)), Cv13 s1] at E
        have C3 : CS (zui h 13 3 (nI (s' + 1))) := s1
        obtain ⟨h5, y1, K1⟩ := q39 (x := X) (y := Y) (w := WW) (b := BB) (v := nI (100 + s')) C3 q2.1 q2.2.1
        have h41 : zcall 41 [vR (some 13), vI (nI X), vI (nI Y), vI (nI WW), vI (nI BB)] h = some (none, h5) := by
          rw [e41, Ci13_3 s1, Ci13_3 s1, d5, Cp13_3 s1, nI_1, Cv13 C3, show (100 : Int32) + nI s' = nI (100 + s') from nI_add 100 s', cV_k y1]
        rw [cV_k h41] at E
        have K2 : MK 22 m m2 (nI (100 + s')) (inR X Y WW BB) := MK_cg f2 cells
        have M3 : MS (zui m2 19 37 (nI (s' + 1))) := M2
        rw [if_neg (show ¬ nI s' = (12 : Int32) from fun q => by have := (nI_eq (a := s') (b := 12) (by omega) (by decide)).mp q; omega), cV_k E, b117_164, if_pos rfl, Mi_newStreets M2, z19, d8, Mp_newStreets M2, nI_1, b117_183, if_pos (by decide), if_pos rfl]
        have A4 : Q4 h h5 := ⟨K1.1.1, K1.1.2.1, K1.1.2.2.1, K1.1.2.2.2.1, fun a r1 r2 r3 r4 => by rw [K1.1.2.2.2.2 a r4]; exact zi_f (Ne.symm r3), by rw [K1.1.2.2.2.2 13 (by decide), zi_uk (by decide)], by rw [K1.1.2.2.2.2 9 (by decide), zi_ua (by decide)]⟩
        have za : ∀ a, a ≠ 13 → a ≠ 14 → zi h5 a = zi h a := fun a r1 r2 => by rw [K1.1.2.2.2.2 a r2]; exact zi_f (Ne.symm r1)
        have ma : ∀ a, a ≠ 19 → a ≠ 22 → zi (zui m2 19 37 (nI (s' + 1))) a = zi m a := fun a r1 r2 => by rw [zi_f (Ne.symm r1), f2.1.2.2.2.2 a r2]
        have m19 : ∀ j, j ≠ 37 → zi (zui m2 19 37 (nI (s' + 1))) 19 j = zi m 19 j := fun j r => by rw [zi_uk r, z19]
        have eK : MK 14 h h5 (nI (100 + s')) (inR X Y WW BB) ∨ True := Or.inr trivial
        have C1 := CMa_q d1 A4 h45
        have K1c : ∀ c, c < 320 → (inR X Y WW BB c → zi h 14 c = -1 → zi h5 14 c = nI (100 + s')) ∧ (¬ inR X Y WW BB c ∨ zi h 14 c ≠ -1 → zi h5 14 c = zi h 14 c) := fun c hc => by
          have := K1.2 c hc
          rw [zi_ua (show (14 : Nat) ≠ 13 by decide)] at this
          exact this
        refine o_tail h45 (n' := n') (s' := s' + 1) (Q := Q) ⟨Q4_cs A4 s1, M3, s3, s4, by rw [za 9 (by decide) (by decide)]; exact s5, by rw [m19 1 (by decide)]; exact s6, fun i hi => by rw [ma 20 (by decide) (by decide), za 10 (by decide) (by decide)]; exact s7 i hi, by rw [za 9 (by decide) (by decide)]; exact s8, by rw [m19 35 (by decide)]; exact s9, by rw [za 9 (by decide) (by decide)]; exact s10, by rw [za 9 (by decide) (by decide)]; exact s11, by rw [m19 2 (by decide)]; exact s12⟩ ⟨C1, by omega, by omega, ?_, by rw [K1.1.2.2.2.2 13 (by decide), zi_us], MM0_u (MM0_f d6 f2.1) (by omega), by rw [m19 36 (by decide)]; exact d7, zi_us, fun l h1 h2 => ?_, ?_⟩ hP
        · intro c hc
          by_cases q : inR X Y WW BB c ∧ zi h 14 c = -1
          · have e := (K1c c hc).1 q.1 q.2
            refine Or.inr ⟨?_, Or.inr ⟨s', d2, by omega, e⟩⟩
            rcases d4 c hc with r1 | ⟨r1, -⟩
            · rw [← r1]; exact q.2
            · exact r1
          · have e := (K1c c hc).2 (by
              by_cases r1 : inR X Y WW BB c
              · exact Or.inr (fun r2 => q ⟨r1, r2⟩)
              · exact Or.inl r1)
            rw [e]
            rcases d4 c hc with r1 | ⟨r1, r2 | ⟨u, r2, r3, r4⟩⟩
            · exact Or.inl r1
            · exact Or.inr ⟨r1, Or.inl r2⟩
            · exact Or.inr ⟨r1, Or.inr ⟨u, r2, by omega, r4⟩⟩
        · have e := fun k => Q4_cf (k := k) A4 w h2
          rw [cA_cg e, e 4, ma 43 (by decide) (by decide), ma 44 (by decide) (by decide)]
          exact d9 l h1 h2
        · rw [zi_f (by decide)]
          have R1 : RG (zui h 13 3 (nI (s' + 1))) (zi m 22) (VV hm s) n' s' := RG_cg d10 (fun l k hl _ => cf_a w (by decide) hl) (zi_f (by decide)) (zi_f (by decide))
          refine RG_street R1 hn40 g1 (by unfold VV; rw [if_neg (by omega)]) K1 K2 (fun l j hl => ?_)
          rw [Q4_cf A4 w hl]
          exact (cf_a w (by decide) hl).symm
      · rw [if_neg (show ¬ nI s' < (12 : Int32) from nI_nlt (a := s') (b := 12) (by omega) (by omega)), Cv9 s1, cV_k (q20 s1)] at E
        rw [if_pos (show nI s' = (12 : Int32) by rw [show s' = 12 by omega]; rfl), cV_k E, M_v M2, cI_k (q118 M2)]
        exact o_f2 (f := 4) h45 S D f2.1 (by omega) (by omega)
    · exact absurd (FRS.mp q2 i hi) f3
  · rw [cI_k q1, if_pos rfl, Cv9 s1, cV_k (q20 s1)] at E
    rcases Mx with ⟨m2, f1, f2, f3⟩ | ⟨m2, f1, f2, f3⟩
    · exact absurd (FRS.mpr f3) q2
    · have M2 := F1_ms f2 s2
      rw [cI_k f1, b117_113, if_pos rfl, cV_k E, M_v M2, cI_k (q118 M2)]
      exact o_f2 (f := 3) h45 S D f2 (by omega) (by omega)
end ZOS
