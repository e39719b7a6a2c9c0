/-- the two least ones -/
def two2 (P : Nat → Prop) (a b : Nat) : Prop := a ≤ b ∧ b ≤ 40 ∧ (a < b ∨ a = 40) ∧ (a < 40 → P a) ∧ (b < 40 → P b) ∧ ∀ k, k < 40 → P k → k = a ∨ b ≤ k
section ZVA
variable {h hc hm : zH} {P Q : Nat → Prop} {a b a' b' n p s c t i l x y u : Nat} {z z1 z2 : Int32} {f : Nat → Nat × Nat × Nat × Nat} {g v : Nat → Int32}
theorem two_u (A : two2 P a b) (B : two2 P a' b') : a = a' ∧ b = b' := by
  obtain ⟨a1, a2, a3, a4, a5, a6⟩ := A
  obtain ⟨b1, b2, b3, b4, b5, b6⟩ := B
  have f1 : ¬ a < 40 ∨ (a = a' ∨ b' ≤ a) := by
    by_cases q : a < 40
    · exact Or.inr (b6 a q (a4 q))
    · exact Or.inl q
  have f2 : ¬ b < 40 ∨ (b = a' ∨ b' ≤ b) := by
    by_cases q : b < 40
    · exact Or.inr (b6 b q (a5 q))
    · exact Or.inl q
  have g1 : ¬ a' < 40 ∨ (a' = a ∨ b ≤ a') := by
    by_cases q : a' < 40
    · exact Or.inr (a6 a' q (b4 q))
    · exact Or.inl q
  have g2 : ¬ b' < 40 ∨ (b' = a ∨ b ≤ b') := by
    by_cases q : b' < 40
    · exact Or.inr (a6 b' q (b5 q))
    · exact Or.inl q
  omega
theorem two_cg (A : two2 P a b) (e : ∀ k, k < 40 → (P k ↔ Q k)) : two2 Q a b := by
  obtain ⟨a1, a2, a3, a4, a5, a6⟩ := A
  exact ⟨a1, a2, a3, fun q => (e a q).mp (a4 q), fun q => (e b q).mp (a5 q), fun k hk q => a6 k hk ((e k hk).mpr q)⟩
theorem w136s (H : MS h) (V : gval (zi h 21) n s) (hn : n ≤ 40) (hs : s ≤ 12) (hc : c < 320) : ∀ (k i a b : Nat) (P : Nat → Prop) (u7 : Option zV), i + k = 4 → two2 P a b → ∃ a' b' u', zev 136 75 [some (vR (some 19)), some (vI z1), some (vI z2), some (vI (nI c)), some (vI (nI a)), some (vI (nI b)), some (vI (nI i)), u7] [] h = zev 136 75 [some (vR (some 19)), some (vI z1), some (vI z2), some (vI (nI c)), some (vI (nI a')), some (vI (nI b')), some (vI (nI 4)), u'] [] h ∧ two2 (fun k => P k ∨ ∃ sd, i ≤ sd ∧ sd < 4 ∧ bsd (zi h 21) c sd = nI k) a' b' := by
  intro k
  induction k with
  | zero =>
    intro i a b P u7 hi T
    have : i = 4 := by omega
    subst this
    refine ⟨a, b, u7, rfl, two_cg T (fun k hk => ⟨Or.inl, ?_⟩)⟩
    rintro (q | ⟨sd, h1, h2, -⟩)
    · exact q
    · omega
  | succ k ih =>
    intro i a b P u7 hi T
    have fin : ∀ a1 b1, two2 (fun k => P k ∨ bsd (zi h 21) c i = nI k) a1 b1 → (zev 136 75 [some (vR (some 19)), some (vI z1), some (vI z2), some (vI (nI c)), some (vI (nI a)), some (vI (nI b)), some (vI (nI i)), u7] [] h = zev 136 75 [some (vR (some 19)), some (vI z1), some (vI z2), some (vI (nI c)), some (vI (nI a1)), some (vI (nI b1)), some (vI (nI (i + 1))), some (vI (bsd (zi h 21) c i))] [] h) → ∃ a' b' u', zev 136 75 [some (vR (some 19)), some (vI z1), some (vI z2), some (vI (nI c)), some (vI (nI a)), some (vI (nI b)), some (vI (nI i)), u7] [] h = zev 136 75 [some (vR (some 19)), some (vI z1), some (vI z2), some (vI (nI c)), some (vI (nI a')), some (vI (nI b')), some (vI (nI 4)), u'] [] h ∧ two2 (fun k => P k ∨ ∃ sd, i ≤ sd ∧ sd < 4 ∧ bsd (zi h 21) c sd = nI k) a' b' := by
      intro a1 b1 T1 e1
      obtain ⟨a2, b2, u2, e2, T2⟩ := ih (i + 1) a1 b1 _ (some (vI (bsd (zi h 21) c i))) (by omega) T1
      refine ⟨a2, b2, u2, e1.trans e2, two_cg T2 (fun k hk => ⟨?_, ?_⟩)⟩
      · rintro ((q | q) | ⟨sd, h1, h2, q⟩)
        · exact Or.inl q
        · exact Or.inr ⟨i, by omega, by omega, q⟩
        · exact Or.inr ⟨sd, by omega, h2, q⟩
      · rintro (q | ⟨sd, h1, h2, q⟩)
        · exact Or.inl (Or.inl q)
        · by_cases es : sd = i
          · exact Or.inl (Or.inr (es ▸ q))
          · exact Or.inr ⟨sd, by omega, h2, q⟩
    obtain ⟨t1, t2, t3, t4, t5, t6⟩ := id T
    have e0 : zev 136 75 [some (vR (some 19)), some (vI z1), some (vI z2), some (vI (nI c)), some (vI (nI a)), some (vI (nI b)), some (vI (nI i)), u7] [] h = _ := b136_75 _ _ _ _ _ _ _ _ _
    rw [if_pos (show nI i < (4 : Int32) from nI_lt (a := i) (b := 4) (by omega) (by decide)), M_v H, cI_k (q133 H hc (by omega)), b136_113, nI_1] at e0
    rcases bsd_val (sd := i) V hc with q | ⟨j, hj, q⟩ | ⟨u, hu, q⟩
    · refine fin a b (two_cg T (fun k hk => ⟨Or.inl, ?_⟩)) ?_
      · rintro (q1 | q1)
        · exact q1
        · exact absurd (q1.symm.trans q) (nI_m1 (by omega))
      · rw [e0, q, if_pos (by decide), if_pos (by decide)]
    · rw [q, if_neg (nI_nn (by omega)), if_neg (nI_nn (by omega))] at e0
      simp only [nI_ltI (show j < 2 ^ 31 by omega) (show a < 2 ^ 31 by omega), nI_ltI (show a < 2 ^ 31 by omega) (show j < 2 ^ 31 by omega), nI_ltI (show j < 2 ^ 31 by omega) (show b < 2 ^ 31 by omega)] at e0
      have hP : ∀ k, k < 40 → (bsd (zi h 21) c i = nI k ↔ k = j) := fun k hk => by
        rw [q]
        exact ⟨fun q1 => ((nI_eq (by omega) (by omega)).mp q1).symm, fun q1 => by rw [q1]⟩
      by_cases g1 : j < a
      · rw [if_pos g1] at e0
        refine fin j a ⟨by omega, by omega, Or.inl g1, fun _ => Or.inr q, fun q1 => Or.inl (t4 q1), fun k hk => ?_⟩ (by rw [e0, q])
        rintro (q1 | q1)
        · have := t6 k hk q1
          omega
        · have := (hP k hk).mp q1
          omega
      · rw [if_neg g1] at e0
        by_cases g2 : a < j
        · rw [if_pos g2] at e0
          by_cases g3 : j < b
          · rw [if_pos g3] at e0
            refine fin a j ⟨by omega, by omega, Or.inl g2, fun q1 => Or.inl (t4 q1), fun _ => Or.inr q, fun k hk => ?_⟩ (by rw [e0, q])
            rintro (q1 | q1)
            · have := t6 k hk q1
              omega
            · have := (hP k hk).mp q1
              omega
          · rw [if_neg g3] at e0
            refine fin a b ⟨t1, t2, t3, fun q1 => Or.inl (t4 q1), fun q1 => Or.inl (t5 q1), fun k hk => ?_⟩ (by rw [e0, q])
            rintro (q1 | q1)
            · exact t6 k hk q1
            · have := (hP k hk).mp q1
              omega
        · rw [if_neg g2] at e0
          refine fin a b ⟨t1, t2, t3, fun q1 => Or.inl (t4 q1), fun q1 => Or.inl (t5 q1), fun k hk => ?_⟩ (by rw [e0, q])
          rintro (q1 | q1)
          · exact t6 k hk q1
          · have := (hP k hk).mp q1
            omega
    · refine fin a b (two_cg T (fun k hk => ⟨Or.inl, ?_⟩)) ?_
      · rintro (q1 | q1)
        · exact q1
        · have := (nI_eq (by omega) (by omega)).mp (q1.symm.trans q)
          omega
      · rw [e0, q, if_neg (nI_nn (by omega)), if_neg (nI_nlt (a := 100 + u) (b := a) (by omega) (by omega)), if_neg (nI_nn (by omega)), if_pos (nI_lt (a := a) (b := 100 + u) (by omega) (by omega)), if_neg (nI_nlt (a := 100 + u) (b := b) (by omega) (by omega))]
/-- the halves of lots a and b -/
def mHv (h : zH) (a b : Nat) : zH := zui (zui h 23 a (zi h 23 a + 1)) 23 (if b < 40 then b else a) (zi (zui h 23 a (zi h 23 a + 1)) 23 (if b < 40 then b else a) + 1)
theorem t136 (H : MS h) (V : gval (zi h 21) n s) (hn : n ≤ 40) (hs : s ≤ 12) (hc : c < 320) {u7 : Option zV} : ∃ a b u4 u5 u6 u7', two2 (fun k => ∃ sd, sd < 4 ∧ bsd (zi h 21) c sd = nI k) a b ∧ zev 136 75 [some (vR (some 19)), some (vI z1), some (vI z2), some (vI (nI c)), some (vI 40), some (vI 40), some (vI 0), u7] [] h = if a < 40 then zev 136 44 [some (vR (some 19)), some (vI z1), some (vI (z2 + 1)), some (vI (nI (c + 1))), u4, u5, u6, u7'] [] (mHv h a b) else zev 136 44 [some (vR (some 19)), some (vI z1), some (vI z2), some (vI (nI (c + 1))), u4, u5, u6, u7'] [] h := by
  obtain ⟨a, b, u', e, T⟩ := w136s (z1 := z1) (z2 := z2) H V hn hs hc 4 0 40 40 (fun _ => False) u7 (by omega) ⟨by omega, by omega, Or.inr rfl, fun q => absurd q (by omega), fun q => absurd q (by omega), fun k _ q => q.elim⟩
  rw [nI_0] at e
  obtain ⟨t1, t2, t3, t4, t5, t6⟩ := id T
  refine ⟨a, b, some (vI (nI a)), some (vI (nI b)), some (vI (nI 4)), u', two_cg T (fun k hk => ⟨?_, ?_⟩), ?_⟩
  · rintro (q | ⟨sd, -, q⟩)
    · exact q.elim
    · exact ⟨sd, q⟩
  · rintro ⟨sd, q⟩
    exact Or.inr ⟨sd, by omega, q⟩
  · refine Eq.trans e ?_
    rw [b136_75, if_neg (by decide), nI_1]
    by_cases ga : a < 40
    · have H1 : MS (zui h 23 a (zi h 23 a + 1)) := H
      rw [if_pos (show nI a < (40 : Int32) from nI_lt (a := a) (b := 40) ga (by decide)), if_pos ga, Mr_halves H, Ma_halves H ga, Mt_halves H ga, Mr_halves H1]
      unfold mHv
      by_cases gb : b < 40
      · rw [if_pos (show nI b < (40 : Int32) from nI_lt (a := b) (b := 40) gb (by decide)), Ma_halves H1 gb, Mt_halves H1 gb, if_pos gb]
      · rw [if_neg (show ¬ nI b < (40 : Int32) from nI_nlt (a := b) (b := 40) (by omega) (by omega)), Ma_halves H1 ga, Mt_halves H1 ga, if_neg gb]
    · rw [if_neg (show ¬ nI a < (40 : Int32) from nI_nlt (a := a) (b := 40) (by omega) (by omega)), if_neg ga]
/-- a lot, or none -/
def Z3 (h : zH) (a : Nat) : Option Nat := if a < 40 then some (zla h a) else none
theorem w63 (w : LW h n) (r : recs h n f) (hx : x < 20) (hy : y < 16) : ∀ (k i a b : Nat) (u6 : Option zV), i + k = n → two2 (fun j => (j < n ∧ bes (f j).1 (f j).2.1 (f j).2.2.1 (f j).2.2.2 x y 1 1) ∧ j < i) a b → ∃ a' b' u5 u6', zev 63 8 [some (vR (some 13)), some (vI (nI x)), some (vI (nI y)), some (vR (Z3 h a)), some (vR (Z3 h b)), some (vI (nI i)), u6] [] h = zev 63 80 [some (vR (some 13)), some (vI (nI x)), some (vI (nI y)), some (vR (Z3 h a')), some (vR (Z3 h b')), some (vI u5), u6'] [] h ∧ two2 (fun j => j < n ∧ bes (f j).1 (f j).2.1 (f j).2.2.1 (f j).2.2.2 x y 1 1) a' b' := by
  have hn := w.2.1
  intro k
  induction k with
  | zero =>
    intro i a b u6 hi T
    rw [b63_8, Cr13_2 w.1, Lv16 w, Lsz w, if_neg (nI_nlt (by omega) (by omega))]
    refine ⟨a, b, _, _, rfl, two_cg T (fun k hk => ⟨fun q => q.1, fun q => ⟨q, by omega⟩⟩)⟩
  | succ k ih =>
    intro i a b u6 hi T
    obtain ⟨t1, t2, t3, t4, t5, t6⟩ := id T
    rw [b63_8, Cr13_2 w.1, Lv16 w, Lsz w, if_pos (nI_lt (by omega) (by omega))]
    by_cases gb : b < 40
    · have eb : Z3 h b = some (zla h b) := if_pos gb
      rw [eb, ul_s, ← eb]
      refine ⟨a, b, _, _, rfl, t1, t2, t3, fun q => (t4 q).1, fun q => (t5 q).1, fun k hk q => ?_⟩
      have := (t5 gb).2
      by_cases g : k < i
      · exact t6 k hk ⟨q, g⟩
      · omega
    · have eb : Z3 h b = none := if_neg gb
      obtain ⟨r1, r2, r3, r4, r5, r6, r7, r8⟩ := r i (by omega)
      rw [eb, ul_n, Cr13_2 w.1, Lv16 w, Lget w (by omega), Lca w (by omega), Lv w (by omega), show (1 : Int32) = nI 1 from rfl, cI_k (q57 w (show i < n by omega) (r i (by omega)) (by omega) (by decide) (by omega) (by decide)), nI_add]
      by_cases g : bes (f i).1 (f i).2.1 (f i).2.2.1 (f i).2.2.2 x y 1 1
      · rw [if_pos g, if_neg (by decide)]
        by_cases ga : a < 40
        · have ea : Z3 h a = some (zla h a) := if_pos ga
          rw [ea, ul_s, ul_s, ← ea]
          have ei : some (zla h i) = Z3 h i := (if_pos (by omega)).symm
          rw [ei]
          refine ih (i + 1) a i _ (by omega) ⟨?_, by omega, ?_, fun q => ⟨(t4 q).1, by have := (t4 q).2; omega⟩, fun q => ⟨⟨by omega, g⟩, by omega⟩, fun k hk q => ?_⟩
          · have := (t4 ga).2; omega
          · have := (t4 ga).2; omega
          · by_cases gk : k < i
            · have := t6 k hk ⟨q.1, gk⟩
              omega
            · omega
        · have ea : Z3 h a = none := if_neg ga
          have ei : some (zla h i) = Z3 h i := (if_pos (by omega)).symm
          rw [ea, ul_n, ul_n, ei, ← eb]
          refine ih (i + 1) i b _ (by omega) ⟨by omega, t2, Or.inl (by omega), fun q => ⟨⟨by omega, g⟩, by omega⟩, fun q => absurd q gb, fun k hk q => ?_⟩
          by_cases gk : k < i
          · have := t6 k hk ⟨q.1, gk⟩
            omega
          · omega
      · rw [if_neg g, if_pos rfl, ← eb]
        refine ih (i + 1) a b _ (by omega) (two_cg T (fun k hk => ⟨fun q => ⟨q.1, by omega⟩, fun q => ⟨q.1, ?_⟩⟩))
        by_cases e : k = i
        · exact absurd (e ▸ q.1.2) g
        · omega
/-- the class's lots a and b get their halves -/
def cHv (h : zH) (a b : Nat) : zH := if b < 40 then zui (zui h (zla h a) 5 (zi h (zla h a) 5 + 1)) (zla h b) 5 (zi (zui h (zla h a) 5 (zi h (zla h a) 5 + 1)) (zla h b) 5 + 1) else zui h (zla h a) 5 (zi h (zla h a) 5 + 2)
theorem q63 (w : LW h n) (r : recs h n f) (hx : x < 20) (hy : y < 16) : ∃ a b, two2 (fun j => j < n ∧ bes (f j).1 (f j).2.1 (f j).2.2.1 (f j).2.2.2 x y 1 1) a b ∧ zcall 63 [vR (some 13), vI (nI x), vI (nI y)] h = if a < 40 then some (some (vI 1), cHv h a b) else some (some (vI 0), h) := by
  have hn := w.2.1
  obtain ⟨a, b, u5, u6, e, T⟩ := w63 w r hx hy n 0 40 40 none (by omega) ⟨by omega, by omega, Or.inr rfl, fun q => absurd q (by omega), fun q => absurd q (by omega), fun k _ q => absurd q.2 (by omega)⟩
  refine ⟨a, b, T, ?_⟩
  obtain ⟨t1, t2, t3, t4, t5, t6⟩ := id T
  have e0 : Z3 h 40 = none := rfl
  rw [e0, nI_0] at e
  rw [e63, e, b63_80]
  by_cases ga : a < 40
  · have ea : Z3 h a = some (zla h a) := if_pos ga
    have ha := (t4 ga).1
    rw [ea, ul_s, if_pos ga]
    unfold cHv
    by_cases gb : b < 40
    · have eb : Z3 h b = some (zla h b) := if_pos gb
      have hb := (t5 gb).1
      have F : Fr h (zui h (zla h a) 5 (zi h (zla h a) 5 + 1)) := Fl w (Fr_rfl w.1) ha
      rw [eb, ul_s, if_pos gb, Lgi w ha (by decide), Lpi w ha (by decide), Fgi w F hb (by decide), Fpi w F hb (by decide), bo_1]
    · have eb : Z3 h b = none := if_neg gb
      rw [eb, ul_n, if_neg gb, Lgi w ha (by decide), Lpi w ha (by decide), bo_1]
  · have ea : Z3 h a = none := if_neg ga
    rw [ea, ul_n, if_neg ga, bo_0]
/-- the lots beside a street's cell -/
theorem side_iff (V : gval g n s) (hf : ∀ l, l < n → rct hc g l (f l).1 (f l).2.1 (f l).2.2.1 (f l).2.2.2) (hn : n ≤ 40) (hx : x < 20) (hy : y < 16) (hs : s ≤ 12) (hu : u < 12) (e : g (20 * y + x) = nI (100 + u)) {k : Nat} (hk : k < 40) : (∃ sd, sd < 4 ∧ bsd g (20 * y + x) sd = nI k) ↔ k < n ∧ bes (f k).1 (f k).2.1 (f k).2.2.1 (f k).2.2.2 x y 1 1 := by
  have no : k < n → ¬ ((f k).1 ≤ x ∧ x < (f k).1 + (f k).2.2.1 ∧ (f k).2.1 ≤ y ∧ y < (f k).2.1 + (f k).2.2.2) := fun hkn q => by
    obtain ⟨-, -, -, -, b5, b6, b7, b8, B⟩ := hf k hkn
    have := (nI_eq (by omega) (by omega)).mp (((B x y hx hy).mpr q).symm.trans e)
    omega
  constructor
  · rintro ⟨sd, hs, e2⟩
    have hkn : k < n := by
      rcases bsd_val (sd := sd) V (show 20 * y + x < 320 by omega) with q | ⟨j, hj, q⟩ | ⟨u, hu, q⟩
      · exact absurd (e2.symm.trans q) (nI_m1 (by omega))
      · have := (nI_eq (by omega) (by omega)).mp (e2.symm.trans q)
        omega
      · have := (nI_eq (by omega) (by omega)).mp (e2.symm.trans q)
        omega
    refine ⟨hkn, ?_⟩
    have d := no hkn
    obtain ⟨-, -, -, -, b5, b6, b7, b8, B⟩ := hf k hkn
    have hcase : sd = 0 ∨ sd = 1 ∨ sd = 2 ∨ sd = 3 := by omega
    rcases hcase with rfl | rfl | rfl | rfl
    · rw [bsd_0 hx] at e2
      split at e2
      · exact absurd e2.symm (nI_m1 (by omega))
      · have q2 := (B (x - 1) y (by omega) hy).mp e2
        unfold bes
        omega
    · rw [bsd_1 hx] at e2
      split at e2
      · exact absurd e2.symm (nI_m1 (by omega))
      · have q2 := (B (x + 1) y (by omega) hy).mp e2
        unfold bes
        omega
    · rw [bsd_2 hx] at e2
      split at e2
      · exact absurd e2.symm (nI_m1 (by omega))
      · have q2 := (B x (y - 1) hx (by omega)).mp e2
        unfold bes
        omega
    · rw [bsd_3 hx hy] at e2
      split at e2
      · exact absurd e2.symm (nI_m1 (by omega))
      · have q2 := (B x (y + 1) hx (by omega)).mp e2
        unfold bes
        omega
  · rintro ⟨hkn, hb⟩
    obtain ⟨-, -, -, -, b5, b6, b7, b8, B⟩ := hf k hkn
    rcases hb with ⟨⟨u1, u2⟩, u3 | u3⟩ | ⟨⟨u1, u2⟩, u3 | u3⟩
    · refine ⟨2, by decide, ?_⟩
      rw [bsd_2 hx, if_neg (by omega)]
      exact (B _ _ (by omega) (by omega)).mpr (by omega)
    · refine ⟨3, by decide, ?_⟩
      rw [bsd_3 hx hy, if_neg (by omega)]
      exact (B _ _ (by omega) (by omega)).mpr (by omega)
    · refine ⟨0, by decide, ?_⟩
      rw [bsd_0 hx, if_neg (by omega)]
      exact (B _ _ (by omega) (by omega)).mpr (by omega)
    · refine ⟨1, by decide, ?_⟩
      rw [bsd_1 hx, if_neg (by omega)]
      exact (B _ _ (by omega) (by omega)).mpr (by omega)
end ZVA
