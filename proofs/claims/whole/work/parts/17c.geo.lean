-- deps: 15a.lots 16a.rel 16b.step 16c.title 16d.cong 16e.title 16f.pass 17a.ask
/-- two rectangles beside each other -/
abbrev bes (X Y W H ox oy ow oh : Nat) : Prop := ((X < ox + ow ∧ ox < X + W) ∧ (Y + H = oy ∨ oy + oh = Y)) ∨ ((Y < oy + oh ∧ oy < Y + H) ∧ (X + W = ox ∨ ox + ow = X))
/-- the rectangle of a lot -/
def rec (h : zH) (l X Y W H : Nat) : Prop := cf h l 0 = nI X ∧ cf h l 1 = nI Y ∧ cf h l 2 = nI W ∧ cf h l 3 = nI H ∧ X < 100 ∧ Y < 100 ∧ W < 100 ∧ H < 100
section ZGE
variable {h : zH} {n l X Y W H ox oy ow oh : Nat} {l5 l6 l7 s0 : Int32} {v5 v6 v7 v8 : Option zV}
theorem t57_120 {a : Option Nat} {x1 x2 x3 x4 : Int32} : zev 57 120 [some (vR a), some (vI x1), some (vI x2), some (vI x3), some (vI x4), some (vI l5), some (vI l6), some (vI l7), v8] [vI s0] h = some (some (vI (if (¬ l5 = 0 ∧ ¬ s0 = 0) ∨ (¬ l6 = 0 ∧ ¬ l7 = 0) then 1 else 0)), h) := by
  rw [b57_120]
  simp only [bo_0, bo_1]
  by_cases h1 : l5 = 0 <;> by_cases h2 : l6 = 0 <;> by_cases h3 : l7 = 0 <;> by_cases h4 : s0 = 0 <;> simp [h1, h2, h3, h4]
theorem t57_89 (w : LW h n) (hl : l < n) (r : rec h l X Y W H) (h1 : oy < 100) (h2 : oh < 100) {x1 x3 : Int32} : zev 57 89 [some (vR (some (zla h l))), some (vI x1), some (vI (nI oy)), some (vI x3), some (vI (nI oh)), some (vI l5), some (vI l6), v7, v8] [vI s0] h = some (some (vI (if (¬ l5 = 0 ∧ (Y + H = oy ∨ oy + oh = Y)) ∨ (¬ l6 = 0 ∧ ¬ s0 = 0) then 1 else 0)), h) := by
  obtain ⟨r1, r2, r3, r4, r5, r6, r7, r8⟩ := r
  rw [b57_89, Lgi w hl (by decide), Lgi w hl (by decide), Lgi w hl (by decide), show zi h (zla h l) 1 = nI Y from r2, show zi h (zla h l) 3 = nI H from r4, nI_add, nI_add, t57_120, t57_120]
  simp only [nI_eq (show Y + H < 2 ^ 31 by omega) (show oy < 2 ^ 31 by omega), nI_eq (show oy + oh < 2 ^ 31 by omega) (show Y < 2 ^ 31 by omega)]
  by_cases g1 : Y + H = oy <;> by_cases g2 : oy + oh = Y <;> simp [g1, g2]
theorem t57_59 (w : LW h n) (hl : l < n) (r : rec h l X Y W H) (h1 : ox < 100) (h2 : ow < 100) (h3 : oy < 100) (h4 : oh < 100) : zev 57 59 [some (vR (some (zla h l))), some (vI (nI ox)), some (vI (nI oy)), some (vI (nI ow)), some (vI (nI oh)), some (vI l5), v6, v7, v8] [vI s0] h = some (some (vI (if (¬ l5 = 0 ∧ (Y + H = oy ∨ oy + oh = Y)) ∨ (¬ s0 = 0 ∧ (X + W = ox ∨ ox + ow = X)) then 1 else 0)), h) := by
  obtain ⟨r1, r2, r3, r4, r5, r6, r7, r8⟩ := id r
  rw [b57_59, Lgi w hl (by decide), Lgi w hl (by decide), Lgi w hl (by decide), show zi h (zla h l) 0 = nI X from r1, show zi h (zla h l) 2 = nI W from r3, nI_add, nI_add, t57_89 w hl r h3 h4, t57_89 w hl r h3 h4]
  simp only [nI_eq (show X + W < 2 ^ 31 by omega) (show ox < 2 ^ 31 by omega), nI_eq (show ox + ow < 2 ^ 31 by omega) (show X < 2 ^ 31 by omega)]
  by_cases g1 : X + W = ox <;> by_cases g2 : ox + ow = X <;> simp [g1, g2]
theorem t57_28 (w : LW h n) (hl : l < n) (r : rec h l X Y W H) (h1 : ox < 100) (h2 : ow < 100) (h3 : oy < 100) (h4 : oh < 100) : zev 57 28 [some (vR (some (zla h l))), some (vI (nI ox)), some (vI (nI oy)), some (vI (nI ow)), some (vI (nI oh)), v5, v6, v7, v8] [vI s0] h = some (some (vI (if (¬ s0 = 0 ∧ (Y + H = oy ∨ oy + oh = Y)) ∨ ((Y < oy + oh ∧ oy < Y + H) ∧ (X + W = ox ∨ ox + ow = X)) then 1 else 0)), h) := by
  obtain ⟨r1, r2, r3, r4, r5, r6, r7, r8⟩ := id r
  rw [b57_28, Lgi w hl (by decide), Lgi w hl (by decide), Lgi w hl (by decide), show zi h (zla h l) 1 = nI Y from r2, show zi h (zla h l) 3 = nI H from r4, nI_add, nI_add, t57_59 w hl r h1 h2 h3 h4, t57_59 w hl r h1 h2 h3 h4]
  simp only [nI_ltI (show Y < 2 ^ 31 by omega) (show oy + oh < 2 ^ 31 by omega), nI_ltI (show oy < 2 ^ 31 by omega) (show Y + H < 2 ^ 31 by omega)]
  by_cases g1 : Y < oy + oh <;> by_cases g2 : oy < Y + H <;> simp [g1, g2]
theorem q57 (w : LW h n) (hl : l < n) (r : rec h l X Y W H) (h1 : ox < 100) (h2 : ow < 100) (h3 : oy < 100) (h4 : oh < 100) : zcall 57 [vR (some (zla h l)), vI (nI ox), vI (nI oy), vI (nI ow), vI (nI oh)] h = some (some (vI (if bes X Y W H ox oy ow oh then 1 else 0)), h) := by
  obtain ⟨r1, r2, r3, r4, r5, r6, r7, r8⟩ := id r
  rw [e57, Lgi w hl (by decide), Lgi w hl (by decide), Lgi w hl (by decide), show zi h (zla h l) 0 = nI X from r1, show zi h (zla h l) 2 = nI W from r3, nI_add, nI_add, t57_28 w hl r h1 h2 h3 h4, t57_28 w hl r h1 h2 h3 h4]
  simp only [nI_ltI (show X < 2 ^ 31 by omega) (show ox + ow < 2 ^ 31 by omega), nI_ltI (show ox < 2 ^ 31 by omega) (show X + W < 2 ^ 31 by omega)]
  unfold bes
  by_cases g1 : X < ox + ow <;> by_cases g2 : ox < X + W <;> simp [g1, g2]
end ZGE
section ZGF
variable {h : zH} {n l X Y W H : Nat} {x y : Int32}
/-- all lots have rectangles -/
def recs (h : zH) (n : Nat) (f : Nat → Nat × Nat × Nat × Nat) : Prop := ∀ k, k < n → rec h k (f k).1 (f k).2.1 (f k).2.2.1 (f k).2.2.2
def lb (h : zH) (f : Nat → Nat × Nat × Nat × Nat) (l k : Nat) : Bool := cLiv h k && decide (bes (f l).1 (f l).2.1 (f l).2.2.1 (f l).2.2.2 (f k).1 (f k).2.1 (f k).2.2.1 (f k).2.2.2)
theorem w56 (w : LW h n) (hl : l < n) {f : Nat → Nat × Nat × Nat × Nat} (r : recs h n f) : ∀ (k i c : Nat) (u : Option zV), i + k = n → zev 56 4 [some (vR (some 13)), some (vR (some (zla h l))), some (vI (nI c)), some (vI (nI i)), u] [] h = some (some (vI (nI (c + (List.range' i k).countP (lb h f l)))), h) := by
  have hn := w.2.1
  intro k
  induction k with
  | zero =>
    intro i c u hi
    rw [b56_4, Cr13_2 w.1, Lv16 w, Lsz w, if_neg (nI_nlt (by omega) (by omega))]
    rfl
  | succ k ih =>
    intro i c u hi
    obtain ⟨r1, r2, r3, r4, r5, r6, r7, r8⟩ := r i (by omega)
    rw [b56_4, Cr13_2 w.1, Lv16 w, Lsz w, if_pos (nI_lt (by omega) (by omega)), Cr13_2 w.1, Lv16 w, Lget w (by omega), Lca w (by omega), Lgi w (by omega) (by decide), Lgi w (by omega) (by decide), Lgi w (by omega) (by decide), Lgi w (by omega) (by decide), Lgi w (by omega) (by decide), show zi h (zla h i) 0 = _ from r1, show zi h (zla h i) 1 = _ from r2, show zi h (zla h i) 2 = _ from r3, show zi h (zla h i) 3 = _ from r4, Lv w hl, cI_k (q57 w hl (r l hl) r5 r7 r6 r8), nI_1, nI_1, List.range'_succ, List.countP_cons, ih (i + 1) _ _ (by omega), ih (i + 1) _ _ (by omega)]
    by_cases g : zi h (zla h i) 10 = 0
    · have : lb h f l i = false := by unfold lb cLiv; simp [g]
      rw [if_pos g, this]
      rfl
    · rw [if_neg g]
      by_cases g2 : bes (f l).1 (f l).2.1 (f l).2.2.1 (f l).2.2.2 (f i).1 (f i).2.1 (f i).2.2.1 (f i).2.2.2
      · have : lb h f l i = true := by unfold lb cLiv; simp only [g, not_false_eq_true, decide_true, g2, Bool.and_self]
        rw [if_pos g2, if_neg (by decide), this, if_pos rfl, show ∀ a b : Nat, a + 1 + b = a + (b + 1) from fun a b => by omega]
      · have : lb h f l i = false := by unfold lb; simp only [g2, decide_false, Bool.and_false]
        rw [if_neg g2, if_pos rfl, this]
        rfl
theorem q56 (w : LW h n) (hl : l < n) {f : Nat → Nat × Nat × Nat × Nat} (r : recs h n f) : zcall 56 [vR (some 13), vR (some (zla h l))] h = some (some (vI (nI ((List.range' 0 n).countP (lb h f l)))), h) := by
  rw [e56, z00, w56 w hl r n 0 0 none (by omega), Nat.zero_add]
/-- an open street at the frame's cell (x', y'), told one too far -/
def opn (h : zH) (X Y W H y' x' : Nat) : Prop := 1 ≤ x' ∧ x' ≤ 20 ∧ 1 ≤ y' ∧ y' ≤ 16 ∧ ¬ zi h 14 (20 * (y' - 1) + (x' - 1)) < 100 ∧ zi h 14 (20 * (y' - 1) + (x' - 1)) < 200 ∧ bes X Y W H (x' - 1) (y' - 1) 1 1
theorem zm1 {i : Nat} (hi : i < 1000) : (nI i - 1).toInt = (i : Int) - 1 := by
  have := pk_sub_toInt (a := i) (b := 1) (by omega) (by omega)
  simpa [nI] using this
theorem zm1s {i : Nat} : nI i - 1 + 1 = nI (i + 1) - 1 := by
  rw [nI_pred, Int32.sub_add_cancel]
theorem w58 (w : LW h n) (hl : l < n) (r : rec h l X Y W H) (hX : X + W ≤ 20) (hY : Y + H ≤ 16) (y' : Nat) (hy : y' ≤ 30) : ∀ (k i : Nat) (u : Option zV), i + k = X + W + 2 → (zev 58 27 [some (vR (some 13)), some (vR (some (zla h l))), some (vI (nI y' - 1)), some (vI (nI i - 1)), u] [] h = some (some (vI 1), h) ∧ ∃ x', i ≤ x' ∧ x' < X + W + 2 ∧ opn h X Y W H y' x') ∨ ((∃ u1 u2, zev 58 27 [some (vR (some 13)), some (vR (some (zla h l))), some (vI (nI y' - 1)), some (vI (nI i - 1)), u] [] h = zev 58 7 [some (vR (some 13)), some (vR (some (zla h l))), some (vI (nI (y' + 1) - 1)), u1, u2] [] h) ∧ ¬ ∃ x', i ≤ x' ∧ x' < X + W + 2 ∧ opn h X Y W H y' x') := by
  intro k
  obtain ⟨r1, r2, r3, r4, r5, r6, r7, r8⟩ := id r
  induction k with
  | zero =>
    intro i u hi
    refine Or.inr ⟨⟨some (vI (nI i - 1)), u, ?_⟩, fun ⟨x', h1, h2, _⟩ => by omega⟩
    rw [b58_27, Lgi w hl (by decide), Lgi w hl (by decide), show zi h (zla h l) 0 = _ from r1, show zi h (zla h l) 2 = _ from r3, nI_add, if_pos (by rw [Int32.lt_iff_toInt_lt, zm1 (by omega), nI_toInt (by omega)]; omega), zm1s]
  | succ k ih =>
    intro i u hi
    have e0 : ∀ s0 : Int32, (s0 < 100 ∨ ¬ s0 < 200 ∨ ¬ opn h X Y W H y' i ∧ (1 ≤ i ∧ i ≤ 20 ∧ 1 ≤ y' ∧ y' ≤ 16 ∧ s0 = zi h 14 (20 * (y' - 1) + (i - 1)))) → zev 58 63 [some (vR (some 13)), some (vR (some (zla h l))), some (vI (nI y' - 1)), some (vI (nI i - 1)), u] [vI s0] h = zev 58 27 [some (vR (some 13)), some (vR (some (zla h l))), some (vI (nI y' - 1)), some (vI (nI (i + 1) - 1)), some (vI s0)] [] h := by
      intro s0 hs
      rw [b58_63, zm1s]
      by_cases g1 : s0 < 100
      · rw [if_pos g1]
      · rw [if_neg g1]
        by_cases g2 : s0 < 200
        · rw [if_pos g2]
          rcases hs with q | q | ⟨q1, q2, q3, q4, q5, q6⟩
          · exact absurd q g1
          · exact absurd g2 q
          · have ei : nI i - 1 = nI (i - 1) := by rw [show (1 : Int32) = nI 1 from rfl, pk_sub (by omega)]
            have ey : nI y' - 1 = nI (y' - 1) := by rw [show (1 : Int32) = nI 1 from rfl, pk_sub (by omega)]
            have hb : ¬ bes X Y W H (i - 1) (y' - 1) 1 1 := fun q => q1 ⟨q2, q3, q4, q5, by rw [← q6]; exact g1, by rw [← q6]; exact g2, q⟩
            rw [Lv w hl, ei, ey, show (1 : Int32) = nI 1 from rfl, cI_k (q57 w hl r (by omega) (by decide) (by omega) (by decide)), if_neg hb, if_pos rfl]
        · rw [if_neg g2]
    have step : ∀ s0 : Int32, ¬ opn h X Y W H y' i → (zev 58 27 [some (vR (some 13)), some (vR (some (zla h l))), some (vI (nI y' - 1)), some (vI (nI i - 1)), u] [] h = zev 58 27 [some (vR (some 13)), some (vR (some (zla h l))), some (vI (nI y' - 1)), some (vI (nI (i + 1) - 1)), some (vI s0)] [] h) → (zev 58 27 [some (vR (some 13)), some (vR (some (zla h l))), some (vI (nI y' - 1)), some (vI (nI i - 1)), u] [] h = some (some (vI 1), h) ∧ ∃ x', i ≤ x' ∧ x' < X + W + 2 ∧ opn h X Y W H y' x') ∨ ((∃ u1 u2, zev 58 27 [some (vR (some 13)), some (vR (some (zla h l))), some (vI (nI y' - 1)), some (vI (nI i - 1)), u] [] h = zev 58 7 [some (vR (some 13)), some (vR (some (zla h l))), some (vI (nI (y' + 1) - 1)), u1, u2] [] h) ∧ ¬ ∃ x', i ≤ x' ∧ x' < X + W + 2 ∧ opn h X Y W H y' x') := by
      intro s0 hno e
      rw [e]
      rcases ih (i + 1) (some (vI s0)) (by omega) with ⟨g1, x', g2, g3, g4⟩ | ⟨g1, g2⟩
      · exact Or.inl ⟨g1, x', by omega, g3, g4⟩
      · refine Or.inr ⟨g1, fun ⟨x', g3, g4, g5⟩ => ?_⟩
        by_cases e : x' = i
        · exact hno (e ▸ g5)
        · exact g2 ⟨x', by omega, g4, g5⟩
    have eb : zev 58 27 [some (vR (some 13)), some (vR (some (zla h l))), some (vI (nI y' - 1)), some (vI (nI i - 1)), u] [] h = (if zgr (nI i - 1) (nI y' - 1) then (zaI h (some 14) (((nI y' - 1) * 20) + (nI i - 1)) fun x6 => zev 58 63 [some (vR (some 13)), some (vR (some (zla h l))), some (vI (nI y' - 1)), some (vI (nI i - 1)), u] [vI x6] h) else zev 58 63 [some (vR (some 13)), some (vR (some (zla h l))), some (vI (nI y' - 1)), some (vI (nI i - 1)), u] [vI (-1)] h) := by
      rw [b58_27, Lgi w hl (by decide), Lgi w hl (by decide), show zi h (zla h l) 0 = _ from r1, show zi h (zla h l) 2 = _ from r3, nI_add, if_neg (by rw [Int32.lt_iff_toInt_lt, zm1 (by omega), nI_toInt (by omega)]; omega), cI_k q26, Cr13_0 w.1]
      by_cases g : zgr (nI i - 1) (nI y' - 1)
      · rw [if_pos g, if_neg (by decide), if_pos g]
      · rw [if_neg g, if_pos rfl, if_neg g]
    by_cases g : zgr (nI i - 1) (nI y' - 1)
    · have g' := g
      unfold zgr at g'
      rw [zm1 (by omega), zm1 (by omega)] at g'
      have ei : nI i - 1 = nI (i - 1) := by rw [show (1 : Int32) = nI 1 from rfl, pk_sub (by omega)]
      have ey : nI y' - 1 = nI (y' - 1) := by rw [show (1 : Int32) = nI 1 from rfl, pk_sub (by omega)]
      rw [if_pos g] at eb
      have ec : (nI y' - 1) * 20 + (nI i - 1) = nI (20 * (y' - 1) + (i - 1)) := by rw [ei, ey, zcel2]
      rw [ec, Ca14 w.1 (by omega)] at eb
      by_cases go : opn h X Y W H y' i
      · refine Or.inl ⟨?_, i, by omega, by omega, go⟩
        obtain ⟨o1, o2, o3, o4, o5, o6, o7⟩ := go
        rw [eb, b58_63, if_neg o5, if_pos o6, Lv w hl, ei, ey, show (1 : Int32) = nI 1 from rfl, cI_k (q57 w hl r (by omega) (by decide) (by omega) (by decide)), if_pos o7, if_neg (by decide), show nI 1 = (1 : Int32) from rfl, bo_1]
      · refine step _ go (eb.trans (e0 _ (Or.inr (Or.inr ⟨go, by omega, by omega, by omega, by omega, rfl⟩))))
    · rw [if_neg g] at eb
      refine step (-1) (fun go => g ?_) (eb.trans (e0 _ (Or.inl (by decide))))
      obtain ⟨o1, o2, o3, o4, -⟩ := go
      unfold zgr
      rw [zm1 (by omega), zm1 (by omega)]
      omega
theorem w58b (w : LW h n) (hl : l < n) (r : rec h l X Y W H) (hX : X + W ≤ 20) (hY : Y + H ≤ 16) : ∀ (k i : Nat) (u u2 : Option zV), i + k = Y + H + 2 → (zev 58 7 [some (vR (some 13)), some (vR (some (zla h l))), some (vI (nI i - 1)), u, u2] [] h = some (some (vI 1), h) ∧ ∃ y' x', i ≤ y' ∧ y' < Y + H + 2 ∧ X ≤ x' ∧ x' < X + W + 2 ∧ opn h X Y W H y' x') ∨ (zev 58 7 [some (vR (some 13)), some (vR (some (zla h l))), some (vI (nI i - 1)), u, u2] [] h = some (some (vI 0), h) ∧ ¬ ∃ y' x', i ≤ y' ∧ y' < Y + H + 2 ∧ X ≤ x' ∧ x' < X + W + 2 ∧ opn h X Y W H y' x') := by
  intro k
  obtain ⟨r1, r2, r3, r4, r5, r6, r7, r8⟩ := id r
  induction k with
  | zero =>
    intro i u u2 hi
    refine Or.inr ⟨?_, fun ⟨y', x', h1, h2, _⟩ => by omega⟩
    rw [b58_7, Lgi w hl (by decide), Lgi w hl (by decide), show zi h (zla h l) 1 = _ from r2, show zi h (zla h l) 3 = _ from r4, nI_add, if_pos (by rw [Int32.lt_iff_toInt_lt, zm1 (by omega), nI_toInt (by omega)]; omega), bo_0]
  | succ k ih =>
    intro i u u2 hi
    rw [b58_7, Lgi w hl (by decide), Lgi w hl (by decide), show zi h (zla h l) 1 = _ from r2, show zi h (zla h l) 3 = _ from r4, nI_add, if_neg (by rw [Int32.lt_iff_toInt_lt, zm1 (by omega), nI_toInt (by omega)]; omega), Lgi w hl (by decide), show zi h (zla h l) 0 = _ from r1]
    rcases w58 w hl r hX hY i (by omega) (W + 2) X u2 (by omega) with ⟨g1, x', g2, g3, g4⟩ | ⟨⟨u3, u4, g1⟩, g2⟩
    · exact Or.inl ⟨g1, i, x', by omega, by omega, g2, g3, g4⟩
    · rw [g1]
      rcases ih (i + 1) u3 u4 (by omega) with ⟨g3, y', x', g4, g5⟩ | ⟨g3, g4⟩
      · exact Or.inl ⟨g3, y', x', by omega, g5⟩
      · refine Or.inr ⟨g3, fun ⟨y', x', g5, g6, g7, g8, g9⟩ => ?_⟩
        by_cases e : y' = i
        · exact g2 ⟨x', g7, g8, e ▸ g9⟩
        · exact g4 ⟨y', x', by omega, g6, g7, g8, g9⟩
theorem q58 (w : LW h n) (hl : l < n) (r : rec h l X Y W H) (hX : X + W ≤ 20) (hY : Y + H ≤ 16) : ∃ b, zcall 58 [vR (some 13), vR (some (zla h l))] h = some (some (vI b), h) ∧ (b = 1 ∧ (∃ y' x', Y ≤ y' ∧ y' < Y + H + 2 ∧ X ≤ x' ∧ x' < X + W + 2 ∧ opn h X Y W H y' x') ∨ b = 0 ∧ ¬ ∃ y' x', Y ≤ y' ∧ y' < Y + H + 2 ∧ X ≤ x' ∧ x' < X + W + 2 ∧ opn h X Y W H y' x') := by
  have e : zcall 58 [vR (some 13), vR (some (zla h l))] h = zev 58 7 [some (vR (some 13)), some (vR (some (zla h l))), some (vI (nI Y - 1)), none, none] [] h := by
    rw [e58, Lgi w hl (by decide), show zi h (zla h l) 1 = _ from r.2.1]
  rcases w58b w hl r hX hY (H + 2) Y none none (by omega) with ⟨g1, g2⟩ | ⟨g1, g2⟩
  · exact ⟨1, e.trans g1, Or.inl ⟨rfl, g2⟩⟩
  · exact ⟨0, e.trans g1, Or.inr ⟨rfl, g2⟩⟩
end ZGF
