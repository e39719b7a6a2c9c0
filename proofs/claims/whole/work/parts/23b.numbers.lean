/-- the bounds of an order's numbers: here two rows, there a letter -/
def TB (h : zH) (la ma : Nat) (o : Int32) (many : Nat) (lo hi : Nat → Nat) : Prop := la < 8 ∧ ma < 8 ∧ many ≤ 5 ∧ 0 < many ∧ zk h la = (100, many) ∧ zk h ma = (100, many) ∧ (∀ i, i < many → zi h la i = nI (lo i) ∧ zi h ma i = nI (hi i) ∧ lo i ≤ hi i ∧ hi i ≤ 20) ∧ ∀ (i : Nat) (m : zH), i < many → zcall 120 [vI o, vI (nI i)] m = some (some (vI (nI (lo i))), m) ∧ zcall 121 [vI o, vI (nI i)] m = some (some (vI (nI (hi i))), m)
/-- the numbers read so far -/
def NM (h m : zH) (lo hi : Nat → Nat) (k : Nat) : Prop := ∀ i, i < k → ∃ v, lo i ≤ v ∧ v ≤ hi i ∧ zi h 11 i = nI v ∧ zi m 42 i = nI v
section ZNU
variable {h h' h2 m m' m2 : zH} {T P Q F i k la ma many : Nat} {x y o : Int32} {lo hi : Nat → Nat} {u4 u5 : Option zV}
theorem TB_pc (A : PC h h') (B : TB h la ma o many lo hi) : TB h' la ma o many lo hi := by
  obtain ⟨b1, b2, b3, b4, b5, b6, b7, b8⟩ := B
  obtain ⟨a1, a2, a3, a4, a5, a6⟩ := A
  refine ⟨b1, b2, b3, b4, by rw [a3]; exact b5, by rw [a3]; exact b6, fun i hi => ?_, b8⟩
  rw [a5 la (by omega) (by omega), a5 ma (by omega) (by omega)]
  exact b7 i hi
theorem NM_cg (A : NM h m lo hi k) (e1 : zi h' 11 = zi h 11) (e2 : zi m' 42 = zi m 42) : NM h' m' lo hi k := by
  unfold NM
  rw [e1, e2]
  exact A
theorem NM_u {v : Nat} (A : NM h m lo hi k) (h1 : lo k ≤ v) (h2 : v ≤ hi k) : NM (zui h 11 k (nI v)) (zui m 42 k (nI v)) lo hi (k + 1) := fun i hi => by
  by_cases e : i = k
  · subst e
    exact ⟨v, h1, h2, zi_us, zi_us⟩
  · obtain ⟨w, w1, w2, w3, w4⟩ := A i (by omega)
    exact ⟨w, w1, w2, by rw [zi_uk e]; exact w3, by rw [zi_uk e]; exact w4⟩
theorem NM_f {f x : Int32} (A : NM h m lo hi k) : NM (zui (zui h 9 4 f) 9 3 x) (zui m 19 2 x) lo hi k := NM_cg A (by rw [zi_f (by decide), zi_f (by decide)]) (zi_f (by decide))
theorem w19 : ∀ (j k P : Nat) (h m : zH) (u4 u5 : Option zV), k + j = many → 0 < j → TB h la ma o many lo hi → SS h m T P → NM h m lo hi k → ∃ h' m', PC h h' ∧ PM m m' ∧ ((∃ Q, zev 19 51 [some (vR (some 9)), some (vR (some la)), some (vR (some ma)), some (vI (nI k))] [] h = some (some (vI 1), h') ∧ zev 119 2 [some (vR (some 19)), some (vI o), some (vI (nI many)), some (vI (nI k)), u4, u5] [] m = some (some (vI 0), m') ∧ SS h' m' T Q ∧ P ≤ Q ∧ NM h' m' lo hi many) ∨ ∃ f, zev 19 51 [some (vR (some 9)), some (vR (some la)), some (vR (some ma)), some (vI (nI k))] [] h = some (some (vI 0), h') ∧ zev 119 2 [some (vR (some 19)), some (vI o), some (vI (nI many)), some (vI (nI k)), u4, u5] [] m = some (some (vI (nI f)), m') ∧ FT h' m' f) := by
  intro j
  induction j with
  | zero => intro k P h m u4 u5 _ h0; omega
  | succ j ih =>
    intro k P h m u4 u5 hkj _ B S NN
    obtain ⟨Q1, h1, m1, g1, g2, S1, A1, M1, c1, -, n1, n2⟩ := q16 S
    have B1 := TB_pc A1 B
    obtain ⟨b1, b2, b3, b4, b5, b6, b7, b8⟩ := id B1
    have hk : k < many := by omega
    obtain ⟨bl, bh, blh, bh20⟩ := b7 k hk
    obtain ⟨s1, s2, s3, s4, s5, s6, s7, s8, s9, s10, s11, s12⟩ := id S1
    have h45 := s1.1
    obtain ⟨Q2, h2, m2, V1, V2, f1, f2, S2, A2, M2, c2, cV, n3, n4⟩ := w21 (l1 := nI (lo k)) (l2 := nI (hi k)) (o := o) (mn := nI many) (kk := nI k) (F := Q1) (T - Q1) Q1 h1 m1 0 0 (by omega) S1 (Nat.le_refl _) (fun _ => rfl)
    obtain ⟨y1, y2, y3, y4, y5, y6, y7, y8, y9, y10, y11, y12⟩ := id S2
    have NN2 : NM h2 m2 lo hi k := NM_cg (NM_cg NN n1 n2) n3 n4
    have AC := PC_tr A1 A2
    have AM := PM_tr M1 M2
    have E21 : zcall 21 [vR (some 9), vI (nI (lo k)), vI (nI (hi k))] h1 = zev 21 65 [some (vR (some 9)), some (vI (nI (lo k))), some (vI (nI (hi k))), some (vI (nI Q1)), some (vI V1)] [] h2 := by
      rw [e21, Ci9_5 s1, s8, f1]
    have E19 : zev 19 51 [some (vR (some 9)), some (vR (some la)), some (vR (some ma)), some (vI (nI k))] [] h = (zcI 21 [vR (some 9), vI (nI (lo k)), vI (nI (hi k))] h1 fun x6 h5 => (ztI h5 (some 11) (nI k) x6 fun h7 => (zgI h7 (some 9) 6 4 fun x8 => (if x8 = 0 then zev 19 2 [some (vR (some 9)), some (vR (some la)), some (vR (some ma)), some (vI (nI (k + 1)))] [] h7 else zbo 0 (some (some (vI 0), h7)))))) := by
      rw [b19_51, Cv9 S.1, cV_k g1, Cr9_1 s1, aI_k (by omega) b5 hk (by omega), bl, aI_k (by omega) b6 hk (by omega), bh, Cv9 s1, nI_1]
    have E119 : zev 119 2 [some (vR (some 19)), some (vI o), some (vI (nI many)), some (vI (nI k)), u4, u5] [] m = zev 119 102 [some (vR (some 19)), some (vI o), some (vI (nI many)), some (vI (nI k)), some (vI (nI Q1)), some (vI V2)] [] m2 := by
      rw [b119_2, if_pos (nI_lt hk (by omega)), M_v S.2.1, cV_k g2, Mi_at s2, s9, f2]
    rw [b21_65, Ci9_5 y1, y8] at E21
    rw [b119_102, Mi_at y2, y9] at E119
    have bad : ∀ (f F : Nat), 1 ≤ f → f ≤ 4 → zcall 21 [vR (some 9), vI (nI (lo k)), vI (nI (hi k))] h1 = some (some (vI V1), zui (zui h2 9 4 (nI f)) 9 3 (nI F)) → zev 119 2 [some (vR (some 19)), some (vI o), some (vI (nI many)), some (vI (nI k)), u4, u5] [] m = some (some (vI (nI f)), zui m2 19 2 (nI F)) → ∃ h' m', PC h h' ∧ PM m m' ∧ ((∃ Q, zev 19 51 [some (vR (some 9)), some (vR (some la)), some (vR (some ma)), some (vI (nI k))] [] h = some (some (vI 1), h') ∧ zev 119 2 [some (vR (some 19)), some (vI o), some (vI (nI many)), some (vI (nI k)), u4, u5] [] m = some (some (vI 0), m') ∧ SS h' m' T Q ∧ P ≤ Q ∧ NM h' m' lo hi many) ∨ ∃ f, zev 19 51 [some (vR (some 9)), some (vR (some la)), some (vR (some ma)), some (vI (nI k))] [] h = some (some (vI 0), h') ∧ zev 119 2 [some (vR (some 19)), some (vI o), some (vI (nI many)), some (vI (nI k)), u4, u5] [] m = some (some (vI (nI f)), m') ∧ FT h' m' f) := by
      intro f F q1 q2 q3 q4
      have HB : CS (zui (zui h2 9 4 (nI f)) 9 3 (nI F)) := y1
      have HB2 : CS (zui (zui (zui h2 9 4 (nI f)) 9 3 (nI F)) 11 k V1) := y1
      refine ⟨zui (zui (zui h2 9 4 (nI f)) 9 3 (nI F)) 11 k V1, zui m2 19 2 (nI F), PC_tr AC (PC_tr PC_f PC_11), PM_tr AM (PM_19 (Or.inl rfl)), Or.inr ⟨f, ?_, q4, FT_n (FT_mk q1 q2)⟩⟩
      rw [E19, cI_k q3, Ct11 HB (by omega), Ci9_4 HB2, zi_ua (by decide), zi_uk (by decide), zi_us, if_neg (nI_ne0 (by omega) (by omega)), bo_0]
    by_cases g3 : Q2 = Q1
    · refine bad 1 Q1 (by omega) (by omega) ?_ ?_
      · rw [E21, if_pos (by rw [g3]), Ci9_5 y1, y8, Cv9 y1, cV_k (q20 y1), g3]
        rfl
      · rw [E119, if_pos (by rw [g3]), M_v y2, cI_k (q118 y2)]
        rfl
    · have gne : ¬ nI Q2 = nI Q1 := fun q => g3 ((nI_eq (by omega) (by omega)).mp q)
      rw [if_neg gne, Ci9_5 y1, y8, pk_sub c2] at E21
      rw [if_neg gne, Mi_at y2, y9, pk_sub c2] at E119
      by_cases g4 : 2 < Q2 - Q1
      · have g4' : (2 : Int32) < nI (Q2 - Q1) := nI_lt (a := 2) (b := Q2 - Q1) g4 (by omega)
        refine bad 2 Q1 (by omega) (by omega) ?_ ?_
        · rw [E21, if_pos g4', Cv9 y1, cV_k (q20 y1)]
          rfl
        · rw [E119, if_pos g4', M_v y2, cI_k (q118 y2)]
          rfl
      · have g4' : ¬ (2 : Int32) < nI (Q2 - Q1) := nI_nlt (a := 2) (b := Q2 - Q1) (by omega) (by decide)
        have eV := cV (by omega)
        subst eV
        rw [if_neg g4'] at E21
        rw [if_neg g4', cI_k (b8 k m2 hk).1, cI_k (b8 k m2 hk).2, cI_k (q113 _ _ _ _)] at E119
        simp only [z64, nI_toInt (show lo k < 2 ^ 31 by omega), nI_toInt (show hi k < 2 ^ 31 by omega)] at E119
        simp only [Int32.lt_iff_toInt_lt, nI_toInt (show lo k < 2 ^ 31 by omega), nI_toInt (show hi k < 2 ^ 31 by omega)] at E21
        by_cases g5 : (lo k : Int) ≤ V1.toInt ∧ V1.toInt ≤ (hi k : Int)
        · obtain ⟨v, hv, ev, ev2⟩ := zof (x := V1) (n := 21) (by decide) ⟨by omega, by omega⟩
          rw [if_neg (show ¬ V1.toInt < (lo k : Int) by omega), if_neg (show ¬ (hi k : Int) < V1.toInt by omega)] at E21
          have M3 : MS (zui m2 42 k V1) := y2
          have C3 : CS (zui h2 11 k V1) := y1
          rw [if_pos g5, if_neg (by decide), Mr_numbers y2, Mt_numbers y2 (by omega)] at E119
          rw [cI_k E21, Ct11 y1 (by omega), Ci9_4 C3, zi_ua (by decide), y10, if_pos rfl] at E19
          have S3 : SS (zui h2 11 k V1) (zui m2 42 k V1) T Q2 := SS_n S2
          have N3 : NM (zui h2 11 k V1) (zui m2 42 k V1) lo hi (k + 1) := by
            rw [ev]
            exact NM_u NN2 (by omega) (by omega)
          have B3 : TB (zui h2 11 k V1) la ma o many lo hi := TB_pc (PC_tr A2 PC_11) B1
          have A3 : PC h (zui h2 11 k V1) := PC_tr AC PC_11
          have P3 : PM m (zui m2 42 k V1) := PM_tr AM PM_42
          obtain ⟨d1, d2, d3, d4, d5, d6, d7, d8⟩ := id B3
          have z3 : zn (zui h2 11 k V1) = zn h2 := rfl
          have h245 := y1.1
          have em : nI many - 1 = nI (many - 1) := by rw [show (1 : Int32) = nI 1 from rfl, pk_sub (by omega)]
          rw [em] at E119
          rw [b19_2, al_k (by omega) d5 (by decide)] at E19
          by_cases g6 : k + 1 < many
          · rw [if_pos (nI_lt (show k < many - 1 by omega) (by omega)), Mi_at M3, zi_ua (by decide), y9, Mi_texted M3, zi_ua (by decide), y6] at E119
            rw [if_pos (nI_lt g6 (by omega)), al_k (by omega) d6 (by decide), if_pos (nI_lt g6 (by omega)), Cr9_1 C3, Cl11 C3, if_pos (nI_lt (by omega) (by decide)), if_pos (show (0 : Int32) < nI (k + 1) from nI_lt (a := 0) (b := k + 1) (by omega) (by omega)), Ci9_5 C3, zi_ua (by decide), y8, Cv9 C3, cI_k (q17 S3 (by omega)), zi_ua (by decide)] at E19
            have bad2 : zev 19 51 [some (vR (some 9)), some (vR (some la)), some (vR (some ma)), some (vI (nI k))] [] h = some (some (vI 0), zui (zui (zui h2 11 k V1) 9 4 1) 9 3 (nI Q2)) → zev 119 2 [some (vR (some 19)), some (vI o), some (vI (nI many)), some (vI (nI k)), u4, u5] [] m = some (some (vI 1), zui (zui m2 42 k V1) 19 2 (nI Q2)) → ∃ h' m', PC h h' ∧ PM m m' ∧ ((∃ Q, zev 19 51 [some (vR (some 9)), some (vR (some la)), some (vR (some ma)), some (vI (nI k))] [] h = some (some (vI 1), h') ∧ zev 119 2 [some (vR (some 19)), some (vI o), some (vI (nI many)), some (vI (nI k)), u4, u5] [] m = some (some (vI 0), m') ∧ SS h' m' T Q ∧ P ≤ Q ∧ NM h' m' lo hi many) ∨ ∃ f, zev 19 51 [some (vR (some 9)), some (vR (some la)), some (vR (some ma)), some (vI (nI k))] [] h = some (some (vI 0), h') ∧ zev 119 2 [some (vR (some 19)), some (vI o), some (vI (nI many)), some (vI (nI k)), u4, u5] [] m = some (some (vI (nI f)), m') ∧ FT h' m' f) := fun q1 q2 =>
              ⟨_, _, PC_tr A3 PC_f, PM_tr P3 (PM_19 (Or.inl rfl)), Or.inr ⟨1, q1, q2, FT_mk (f := 1) (by omega) (by omega)⟩⟩
            by_cases g7 : Q2 = T
            · refine bad2 ?_ ?_
              · rw [E19, if_neg (show ¬ Q2 < T by omega), if_neg (by decide), Ci9_5 C3, zi_ua (by decide), y8, Cv9 C3, cV_k (q20 C3), bo_0]
              · rw [E119, if_pos (by rw [g7]), Mi_at M3, zi_ua (by decide), y9, M_v M3, cI_k (q118 M3)]
            · rw [if_pos (show Q2 < T by omega)] at E19
              rw [if_neg (fun q => g7 ((nI_eq (by omega) (by omega)).mp q)), Mr_text M3, Mi_at M3, zi_ua (by decide), y9, Ma_text M3 (by omega), zi_ua (by decide), nI_1] at E119
              by_cases g8 : zi m2 20 Q2 = 32
              · rw [if_pos g8] at E19 E119
                obtain ⟨h', m', x1, x2, x3⟩ := ih (k + 1) Q2 _ _ (some (vI (nI Q1))) (some (vI V1)) (by omega) (by omega) B3 S3 N3
                refine ⟨h', m', PC_tr A3 x1, PM_tr P3 x2, ?_⟩
                rcases x3 with ⟨Q, z1, z2, z4, z5, z6⟩ | ⟨f, z1, z2, z4⟩
                · exact Or.inl ⟨Q, E19.trans z1, E119.trans z2, z4, by omega, z6⟩
                · exact Or.inr ⟨f, E19.trans z1, E119.trans z2, z4⟩
              · refine bad2 ?_ ?_
                · rw [E19, if_neg g8, Ci9_5 C3, zi_ua (by decide), y8, Cv9 C3, cV_k (q20 C3), bo_0]
                · rw [E119, if_neg g8, Mi_at M3, zi_ua (by decide), y9, M_v M3, cI_k (q118 M3)]
          · have ek : k + 1 = many := by omega
            have e5 := b119_2 (some 19) o (nI many) (nI (k + 1)) (some (vI (nI Q1))) (some (vI V1)) (zui m2 42 k V1)
            rw [if_neg (nI_nlt (show many ≤ k + 1 by omega) (by omega))] at e5
            rw [if_neg (nI_nlt (show many - 1 ≤ k by omega) (by omega)), nI_1] at E119
            rw [if_neg (nI_nlt (by omega) (by omega)), bo_1] at E19
            exact ⟨_, _, A3, P3, Or.inl ⟨Q2, E19, E119.trans e5, S3, by omega, by rw [← ek]; exact N3⟩⟩
        · rw [if_neg g5, if_pos rfl, M_v y2, cI_k (q118 y2)] at E119
          refine bad 2 Q1 (by omega) (by omega) ?_ ?_
          · rw [E21]
            by_cases g6 : V1.toInt < (lo k : Int)
            · rw [if_pos g6, Cv9 y1, cV_k (q20 y1)]
              rfl
            · rw [if_neg g6, if_pos (show (hi k : Int) < V1.toInt by omega), Cv9 y1, cV_k (q20 y1)]
              rfl
          · rw [E119]
            rfl
end ZNU
