/-- what comes of a text -/
def OUTL (hc hm : zH) (n s T : Nat) (ec em : Option (Option zV × zH)) : Prop := (∃ n' s' h' m', (∃ z, ec = zev 13 57 [some (vR (some 9)), some (vR (some 13)), some (vI (nI n)), some (vI (nI s)), some (vI z)] [] h') ∧ em = some (some (vI 0), m') ∧ SS h' m' T T ∧ DG hc hm n s h' m' n' s') ∨ ∃ f n' s' h' m', (∃ z, ec = zev 13 57 [some (vR (some 9)), some (vR (some 13)), some (vI (nI n)), some (vI (nI s)), some (vI z)] [] h') ∧ em = some (some (vI (nI f)), m') ∧ FT h' m' f ∧ DX hc hm n s h' m' n' s'
section ZLP
variable {hc hm h h' h2 m m' m2 : zH} {n n' s s' T P Q F i k : Nat} {x y o : Int32} {f : Nat}
theorem w13 (h45 : 45 ≤ zn hc) (TA : TAB hc) : ∀ (d k P n' s' : Nat) (h m : zH) (u : Int32), T ≤ P + d → k ≤ P → SS h m T P → DG hc hm n s h m n' s' → OUTL hc hm n s T (zev 13 31 [some (vR (some 9)), some (vR (some 13)), some (vI (nI n)), some (vI (nI s)), some (vI (nI k))] [] h) (zcV 116 [vR (some 19)] m fun h5 => zev 115 52 [some (vR (some 19)), some (vI u)] [] h5) := by
  intro d
  induction d with
  | zero =>
    intro k P n' s' h m u hd hk S D
    obtain ⟨s1, s2, s3, s4, s5, s6, s7, s8, s9, s10, s11, s12⟩ := id S
    obtain ⟨Q, h1, m1, c1, c2, S1, A1, B1, c3, -⟩ := q16 S
    obtain ⟨t1, t2, t3, t4, t5, t6, t7, t8, t9, t10, t11, t12⟩ := id S1
    have eQ : Q = T := by omega
    subst eQ
    have D1 := DG_pc D h45 A1 B1
    refine Or.inl ?_
    have em : (zcV 116 [vR (some 19)] m fun h5 => zev 115 52 [some (vR (some 19)), some (vI u)] [] h5) = some (some (vI 0), m1) := by
      rw [cV_k c2, b115_52, Mi_at t2, Mi_texted t2, t9, t6, if_neg (nI_nlt (Nat.le_refl _) (by omega))]
    by_cases g : k < 200
    · refine ⟨n', s', h1, m1, ⟨nI k, ?_⟩, em, S1, D1⟩
      have h15 : zcall 15 [vR (some 9)] h = some (some (vI 0), h1) := by
        rw [e15, Ci9_4 s1, s10, if_pos rfl, Cv9 s1, cV_k c1, Ci9_5 t1, Ci9_2 t1, t8, t5, if_neg (nI_nlt (Nat.le_refl _) (by omega)), bo_0]
      rw [b13_31, if_pos (show nI k < (200 : Int32) from nI_lt (a := k) (b := 200) g (by decide)), Cv9 s1, cI_k h15, if_pos rfl]
    · -- no order can be left
      have : P = 200 := by omega
      refine ⟨n', s', h, m1, ⟨nI k, ?_⟩, em, ?_, ?_⟩
      · rw [b13_31, if_neg (show ¬ nI k < (200 : Int32) from nI_nlt (a := k) (b := 200) (by omega) (by omega))]
      · have e1 : P = Q := by omega
        subst e1
        exact ⟨s1, t2, s3, s4, s5, t6, fun i hi => by rw [B1.2.2.2.2.1 20 (by decide) (by decide)]; exact s7 i hi, s8, t9, s10, s11, t12⟩
      · exact DG_pc D h45 PC_rfl B1
  | succ d ih =>
    intro k P n' s' h m u hd hk S D
    obtain ⟨s1, s2, s3, s4, s5, s6, s7, s8, s9, s10, s11, s12⟩ := id S
    by_cases gd : T ≤ P + d
    · exact ih k P n' s' h m u gd hk S D
    · obtain ⟨Q, h1, m1, c1, c2, S1, A1, B1, c3, -⟩ := q16 S
      obtain ⟨t1, t2, t3, t4, t5, t6, t7, t8, t9, t10, t11, t12⟩ := id S1
      have D1 := DG_pc D h45 A1 B1
      have gk : nI k < (200 : Int32) := nI_lt (a := k) (b := 200) (by omega) (by decide)
      by_cases gq : Q < T
      · have h15 : zcall 15 [vR (some 9)] h = some (some (vI 1), h1) := by
          rw [e15, Ci9_4 s1, s10, if_pos rfl, Cv9 s1, cV_k c1, Ci9_5 t1, Ci9_2 t1, t8, t5, if_pos (nI_lt gq (by omega)), bo_1]
        rw [b13_31, if_pos gk, Cv9 s1, cI_k h15, if_neg (by decide), Cv9 t1, cV_k c2, b115_52, Mi_at t2, Mi_texted t2, t9, t6, if_pos (nI_lt gq (by omega)), M_v t2, nI_1]
        rcases q18 h45 S1 gq D1 TA with ⟨Q2, n2, s2', h2, m2, f1, f2, S2, D2, f5⟩ | ⟨f, n2, s2', h2, m2, f1, f2, F2, D2⟩
        · rw [cV_k f1, cI_k f2, if_neg (by decide), M_v S2.2.1]
          exact ih (k + 1) Q2 n2 s2' h2 m2 0 (by omega) (by omega) S2 D2
        · have hf1 := F2.1
          have hf2 := F2.2.1
          rw [cV_k f1, cI_k f2, if_pos (show (0 : Int32) < nI f from nI_lt (a := 0) (b := f) (by omega) (by omega))]
          have H2 := D2.1.2.1.1
          refine Or.inr ⟨f, n2, s2', h2, m2, ⟨nI (k + 1), ?_⟩, rfl, F2, D2⟩
          have h15b : zcall 15 [vR (some 9)] h2 = some (some (vI 0), h2) := by
            rw [e15, Ci9_4 H2, F2.2.2.1, if_neg (nI_ne0 (by omega) (by omega)), bo_0]
          rw [b13_31, Cv9 H2, cI_k h15b, if_pos rfl]
          split <;> rfl
      · have eQ : Q = T := by omega
        subst eQ
        have h15 : zcall 15 [vR (some 9)] h = some (some (vI 0), h1) := by
          rw [e15, Ci9_4 s1, s10, if_pos rfl, Cv9 s1, cV_k c1, Ci9_5 t1, Ci9_2 t1, t8, t5, if_neg (nI_nlt (Nat.le_refl _) (by omega)), bo_0]
        refine Or.inl ⟨n', s', h1, m1, ⟨nI k, ?_⟩, ?_, S1, D1⟩
        · rw [b13_31, if_pos gk, Cv9 s1, cI_k h15, if_pos rfl]
        · rw [cV_k c2, b115_52, Mi_at t2, Mi_texted t2, t9, t6, if_neg (nI_nlt (Nat.le_refl _) (by omega))]
/-- the draft begins as the grass is -/
theorem w115 (H : MS hm) : ∀ (k c : Nat) (m : zH), c + k = 320 → F1 22 hm m → (∀ j, j < c → zi m 22 j = zi hm 21 j) → ∃ m', zev 115 23 [some (vR (some 19)), some (vI (nI c))] [] m = (zcV 116 [vR (some 19)] m' fun h5 => zev 115 52 [some (vR (some 19)), some (vI (nI 320))] [] h5) ∧ F1 22 hm m' ∧ ∀ j, j < 320 → zi m' 22 j = zi hm 21 j := by
  intro k
  induction k with
  | zero =>
    intro c m hk A e
    have : c = 320 := by omega
    subst this
    refine ⟨m, ?_, A, e⟩
    rw [b115_23, if_neg (by decide), M_v (F1_ms A H)]
  | succ k ih =>
    intro c m hk A e
    have M := F1_ms A H
    rw [b115_23, if_pos (show nI c < (320 : Int32) from nI_lt (a := c) (b := 320) (by omega) (by decide)), Mr_draft M, Mr_cells M, Ma_cells M (by omega), A.2.2.2.2 21 (by decide), Mt_draft M (by omega), nI_1]
    refine ih (c + 1) _ (by omega) (F1_u A) (fun j hj => ?_)
    rw [zi_ui]
    by_cases q : j = c
    · rw [if_pos ⟨rfl, q⟩, q]
    · rw [if_neg (fun q2 => q q2.2)]
      exact e j (by omega)
theorem RG_g {g g' v v' : Nat → Int32} (A : RG h g v n s) (eg : ∀ c, c < 320 → g' c = g c) (ev : ∀ u, u < s → v' u = v u) : RG h g' v' n s := by
  obtain ⟨g1, g2, g3, g4⟩ := A
  refine ⟨fun l hl => ?_, fun j hj => ?_, fun u hu => by rw [ev u hu]; exact g3 u hu, g4⟩
  · obtain ⟨X, Y, W, H, q1, q2, q3, q4, q5, q6, q7, q8, q9⟩ := g1 l hl
    exact ⟨X, Y, W, H, q1, q2, q3, q4, q5, q6, q7, q8, fun x y h1 h2 => by rw [eg _ (by omega)]; exact q9 x y h1 h2⟩
  · rw [eg j hj]
    rcases g2 j hj with q | q | ⟨u, hu, q1, q2⟩
    · exact Or.inl q
    · exact Or.inr (Or.inl q)
    · exact Or.inr (Or.inr ⟨u, hu, q1, by rw [ev u hu]; exact q2⟩)
end ZLP
