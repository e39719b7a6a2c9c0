/-- the cell beside, by its side -/
def bsd (g : Nat → Int32) (c sd : Nat) : Int32 := if sd = 0 then (if c % 20 = 0 then -1 else g (c - 1)) else if sd = 1 then (if c % 20 = 19 then -1 else g (c + 1)) else if sd = 2 then (if c < 20 then -1 else g (c - 20)) else (if 300 ≤ c then -1 else g (c + 20))
/-- what may stand in a cell -/
def gval (g : Nat → Int32) (n s : Nat) : Prop := ∀ j, j < 320 → g j = -1 ∨ (∃ l, l < n ∧ g j = nI l) ∨ ∃ u, u < s ∧ g j = nI (100 + u)
section ZWO
variable {h : zH} {x y s0 s1 l1 l2 : Int32} {l4 : Option zV} {g v : Nat → Int32} {c sd n s : Nat}
theorem t133 (H : MS h) (e : s0 + s1 = y) : zev 133 47 [some (vR (some 19)), some (vI l1), some (vI l2), some (vI x), l4] [vI s1, vI s0] h = some (some (vI (if zgr x y then zi h 21 (20 * y + x).toNatClampNeg else -1)), h) := by
  rw [b133_47, e, cI_k q127]
  by_cases hg : zgr x y
  · obtain ⟨c, e1, e2, e3⟩ := zgr_of2 hg
    rw [if_pos hg, if_neg (by decide), if_pos hg, Mr_cells H, e3, Ma_cells H e2, nI_clamp (by omega)]
  · rw [if_neg hg, if_pos rfl, if_neg hg]
theorem gz {a b : Nat} (ha : a < 20) (hb : b < 16) (ex : x = nI a) (ey : y = nI b) : (if zgr x y then g (20 * y + x).toNatClampNeg else -1) = g (20 * b + a) := by
  subst ex ey
  have hg : zgr (nI a) (nI b) := by
    unfold zgr
    rw [nI_toInt (by omega), nI_toInt (by omega)]
    omega
  rw [if_pos hg, zcel, nI_clamp (by omega)]
theorem gn (hx : x.toInt < 0 ∨ 19 < x.toInt ∨ y.toInt < 0 ∨ 15 < y.toInt) : (if zgr x y then g (20 * y + x).toNatClampNeg else -1) = -1 := if_neg (by unfold zgr; omega)
theorem q133 (H : MS h) (hc : c < 320) (hs : sd < 4) : zcall 133 [vR (some 19), vI (nI c), vI (nI sd)] h = some (some (vI (bsd (zi h 21) c sd)), h) := by
  have e1 : nI c - nI c / 20 * 20 = nI (c % 20) := pk_rem (a := c) (d := 20) (by omega) (by decide) (by decide)
  have e2 : nI c / 20 = nI (c / 20) := pk_div (a := c) (d := 20) (by omega) (by decide) (by decide)
  have m1 : ∀ a, 0 < a → nI a + -1 = nI (a - 1) := fun a ha => by
    have := pk_m1 (a - 1)
    rwa [show a - 1 + 1 = a by omega] at this
  rw [e133, dv_k (by decide), e1]
  have hcase : sd = 0 ∨ sd = 1 ∨ sd = 2 ∨ sd = 3 := by omega
  rcases hcase with rfl | rfl | rfl | rfl
  · rw [if_pos (by decide), b133_22, dv_k (by decide), if_neg (by decide), if_neg (by decide), e2, t133 H rfl]
    refine congrArg (fun v => some (some (vI v), h)) ?_
    unfold bsd
    rw [if_pos rfl]
    by_cases hX : c % 20 = 0
    · rw [if_pos hX, hX]
      exact gn (Or.inl (by decide))
    · rw [if_neg hX]
      exact (gz (a := c % 20 - 1) (b := c / 20) (by omega) (by omega) (m1 _ (by omega)) (Int32.add_zero _)).trans (congrArg (zi h 21) (by omega))
  · rw [if_neg (by decide), if_pos (by decide), b133_22, dv_k (by decide), if_neg (by decide), if_neg (by decide), e2, t133 H rfl]
    refine congrArg (fun v => some (some (vI v), h)) ?_
    rw [show bsd (zi h 21) c 1 = if c % 20 = 19 then -1 else zi h 21 (c + 1) from rfl]
    by_cases hX : c % 20 = 19
    · rw [if_pos hX, hX]
      exact gn (Or.inr (Or.inl (by decide)))
    · rw [if_neg hX]
      exact (gz (a := c % 20 + 1) (b := c / 20) (by omega) (by omega) (nI_1 _) (Int32.add_zero _)).trans (congrArg (zi h 21) (by omega))
  · rw [if_neg (by decide), if_neg (by decide), b133_22, dv_k (by decide), if_pos (by decide), e2, t133 H rfl]
    refine congrArg (fun v => some (some (vI v), h)) ?_
    rw [show bsd (zi h 21) c 2 = if c < 20 then -1 else zi h 21 (c - 20) from rfl]
    by_cases hX : c < 20
    · rw [if_pos hX, show c / 20 = 0 by omega]
      exact gn (Or.inr (Or.inr (Or.inl (by decide))))
    · rw [if_neg hX]
      exact (gz (a := c % 20) (b := c / 20 - 1) (by omega) (by omega) (Int32.add_zero _) (m1 _ (by omega))).trans (congrArg (zi h 21) (by omega))
  · rw [if_neg (by decide), if_neg (by decide), b133_22, dv_k (by decide), if_neg (by decide), if_pos (by decide), e2, t133 H rfl]
    refine congrArg (fun v => some (some (vI v), h)) ?_
    rw [show bsd (zi h 21) c 3 = if 300 ≤ c then -1 else zi h 21 (c + 20) from rfl]
    by_cases hX : 300 ≤ c
    · rw [if_pos hX, show c / 20 = 15 by omega]
      exact gn (Or.inr (Or.inr (Or.inr (by decide))))
    · rw [if_neg hX]
      exact (gz (a := c % 20) (b := c / 20 + 1) (by omega) (by omega) (Int32.add_zero _) (nI_1 _)).trans (congrArg (zi h 21) (by omega))
theorem bsd_val (V : gval g n s) (hc : c < 320) : bsd g c sd = -1 ∨ (∃ l, l < n ∧ bsd g c sd = nI l) ∨ ∃ u, u < s ∧ bsd g c sd = nI (100 + u) := by
  unfold bsd
  repeat' split
  all_goals first | exact Or.inl rfl | exact V _ (by omega)
theorem gval_of {hc : zH} (G : RG hc g v n s) : gval g n s := fun j hj => by
  rcases G.2.1 j hj with ⟨e, -⟩ | ⟨l, hl, e, -⟩ | ⟨u, hu, e, -⟩
  · exact Or.inl e
  · exact Or.inr (Or.inl ⟨l, hl, e⟩)
  · exact Or.inr (Or.inr ⟨u, hu, e⟩)
theorem bsd_0 {X Y : Nat} (hx : X < 20) : bsd g (20 * Y + X) 0 = if X = 0 then -1 else g (20 * Y + (X - 1)) := by
  unfold bsd
  rw [if_pos rfl, show (20 * Y + X) % 20 = X by omega]
  by_cases e : X = 0
  · rw [if_pos e, if_pos e]
  · rw [if_neg e, if_neg e, show 20 * Y + X - 1 = 20 * Y + (X - 1) by omega]
theorem bsd_1 {X Y : Nat} (hx : X < 20) : bsd g (20 * Y + X) 1 = if X = 19 then -1 else g (20 * Y + (X + 1)) := by
  unfold bsd
  rw [if_neg (by decide), if_pos rfl, show (20 * Y + X) % 20 = X by omega]
  by_cases e : X = 19
  · rw [if_pos e, if_pos e]
  · rw [if_neg e, if_neg e, show 20 * Y + X + 1 = 20 * Y + (X + 1) by omega]
theorem bsd_2 {X Y : Nat} (hx : X < 20) : bsd g (20 * Y + X) 2 = if Y = 0 then -1 else g (20 * (Y - 1) + X) := by
  unfold bsd
  rw [if_neg (by decide), if_neg (by decide), if_pos rfl]
  by_cases e : Y = 0
  · rw [if_pos e, if_pos (by omega)]
  · rw [if_neg e, if_neg (by omega), show 20 * Y + X - 20 = 20 * (Y - 1) + X by omega]
theorem bsd_3 {X Y : Nat} (hx : X < 20) (hy : Y < 16) : bsd g (20 * Y + X) 3 = if Y = 15 then -1 else g (20 * (Y + 1) + X) := by
  unfold bsd
  rw [if_neg (by decide), if_neg (by decide), if_neg (by decide)]
  by_cases e : Y = 15
  · rw [if_pos e, if_pos (by omega)]
  · rw [if_neg e, if_neg (by omega), show 20 * Y + X + 20 = 20 * (Y + 1) + X by omega]
end ZWO
/-- an open street beside -/
def opS (g v : Nat → Int32) (c sd : Nat) : Prop := ∃ u, u < 12 ∧ bsd g c sd = nI (100 + u) ∧ v u = 0
section ZWP
variable {h : zH} {a1 a2 a3 a4 a8 b st : Int32} {w w1 : Int64} {u9 u10 : Option zV} {c i l n s p : Nat}
theorem t130b (H : MS h) (hb : b = -1 ∨ (∃ j, j < 40 ∧ b = nI j) ∨ ∃ u, u < 12 ∧ b = nI (100 + u)) (hst : st = 0 ∨ st = 1) : ∃ st', zev 130 132 [some (vR (some 19)), some (vI a1), some (vI a2), some (vI a3), some (vI a4), some (vI st), some (vL w), none, some (vI a8), some (vI (nI i)), some (vI b)] [vL w1, vL w] h = zev 130 77 [some (vR (some 19)), some (vI a1), some (vI a2), some (vI a3), some (vI a4), some (vI st'), some (vL (w ||| w1)), none, some (vI a8), some (vI (nI (i + 1))), some (vI b)] [] h ∧ (st' = 0 ∨ st' = 1) ∧ (st' = 1 ↔ st = 1 ∨ ∃ u, u < 12 ∧ b = nI (100 + u) ∧ zi h 33 u = 0) := by
  rw [b130_132, nI_1]
  rcases hst with rfl | rfl
  · rw [if_pos rfl]
    rcases hb with rfl | ⟨j, hj, rfl⟩ | ⟨u, hu, rfl⟩
    · rw [if_pos (by decide)]
      refine ⟨0, rfl, Or.inl rfl, fun q => absurd q (by decide), ?_⟩
      rintro (q | ⟨u, hu, e, -⟩)
      · exact absurd q (by decide)
      · exact absurd e.symm (nI_m1 (by omega))
    · rw [if_pos (show nI j < (100 : Int32) from nI_lt (a := j) (b := 100) (by omega) (by decide))]
      refine ⟨0, rfl, Or.inl rfl, fun q => absurd q (by decide), ?_⟩
      rintro (q | ⟨u, hu, e, -⟩)
      · exact absurd q (by decide)
      · have := (nI_eq (by omega) (by omega)).mp e
        omega
    · rw [if_neg (show ¬ nI (100 + u) < (100 : Int32) from nI_nlt (a := 100 + u) (b := 100) (by omega) (by omega)), Mr_vacated H, z100, Ma_vacated H hu]
      by_cases g : zi h 33 u = 0
      · rw [if_pos g]
        exact ⟨1, rfl, Or.inr rfl, fun _ => Or.inr ⟨u, hu, rfl, g⟩, fun _ => rfl⟩
      · rw [if_neg g]
        refine ⟨0, rfl, Or.inl rfl, fun q => absurd q (by decide), ?_⟩
        rintro (q | ⟨u', hu', e, g'⟩)
        · exact absurd q (by decide)
        · have := (nI_eq (by omega) (by omega)).mp e
          have e2 : u = u' := by omega
          subst e2
          exact absurd g' g
  · rw [if_neg (by decide)]
    exact ⟨1, rfl, Or.inr rfl, fun _ => Or.inl rfl, fun _ => rfl⟩
theorem w_or0 (w : Int64) : w ||| 0 = w := by simp
theorem t130 (H : MS h) (V : gval (zi h 21) n s) (hn : n ≤ 40) (hs : s ≤ 12) (hc : c < 320) (hl : l < 40) (hi : i < 4) (e : zi h 21 c = nI l) (hst : st = 0 ∨ st = 1) : ∃ st' w' u', zev 130 77 [some (vR (some 19)), some (vI (nI l)), some (vI a2), some (vI a3), some (vI a4), some (vI st), some (vL w), none, some (vI (nI c)), some (vI (nI i)), u10] [] h = zev 130 77 [some (vR (some 19)), some (vI (nI l)), some (vI a2), some (vI a3), some (vI a4), some (vI st'), some (vL w'), none, some (vI (nI c)), some (vI (nI (i + 1))), u'] [] h ∧ (st' = 0 ∨ st' = 1) ∧ (st' = 1 ↔ st = 1 ∨ opS (zi h 21) (zi h 33) c i) ∧ ∀ k, k < 40 → (w'.toBitVec.getLsbD k = true ↔ w.toBitVec.getLsbD k = true ∨ (bsd (zi h 21) c i = nI k ∧ k ≠ l)) := by
  have hb := bsd_val (sd := i) V hc
  have hb2 : bsd (zi h 21) c i = -1 ∨ (∃ j, j < 40 ∧ bsd (zi h 21) c i = nI j) ∨ ∃ u, u < 12 ∧ bsd (zi h 21) c i = nI (100 + u) := by
    rcases hb with q | ⟨j, hj, q⟩ | ⟨u, hu, q⟩
    · exact Or.inl q
    · exact Or.inr (Or.inl ⟨j, by omega, q⟩)
    · exact Or.inr (Or.inr ⟨u, by omega, q⟩)
  rw [b130_77, if_pos (show nI i < (4 : Int32) from nI_lt (a := i) (b := 4) hi (by decide)), Mr_cells H, Ma_cells H hc, if_pos e, M_v H, cI_k (q133 H hc hi)]
  unfold opS
  rcases hb with q | ⟨j, hj, q⟩ | ⟨u, hu, q⟩
  · rw [q, if_pos (by decide)]
    rw [q] at hb2
    obtain ⟨st', e1, e2, e3⟩ := t130b (a1 := nI l) (a2 := a2) (a3 := a3) (a4 := a4) (a8 := nI c) (w := w) (w1 := 0) (i := i) H hb2 hst
    refine ⟨st', _, _, e1, e2, e3, fun k hk => ?_⟩
    rw [w_or0]
    constructor
    · exact Or.inl
    · rintro (q1 | ⟨q1, -⟩)
      · exact q1
      · exact absurd q1.symm (nI_m1 (by omega))
  · rw [q, if_neg (nI_nn (by omega)), if_pos (show nI j < (100 : Int32) from nI_lt (a := j) (b := 100) (by omega) (by decide))]
    rw [q] at hb2
    by_cases ej : j = l
    · rw [if_pos (by rw [ej])]
      obtain ⟨st', e1, e2, e3⟩ := t130b (a1 := nI l) (a2 := a2) (a3 := a3) (a4 := a4) (a8 := nI c) (w := w) (w1 := 0) (i := i) H hb2 hst
      refine ⟨st', _, _, e1, e2, e3, fun k hk => ?_⟩
      rw [w_or0]
      constructor
      · exact Or.inl
      · rintro (q1 | ⟨q1, q2⟩)
        · exact q1
        · exact absurd ((nI_eq (by omega) (by omega)).mp q1) (fun q3 => q2 (q3.symm.trans ej))
    · rw [if_neg (fun q1 => ej ((nI_eq (by omega) (by omega)).mp q1))]
      obtain ⟨st', e1, e2, e3⟩ := t130b (a1 := nI l) (a2 := a2) (a3 := a3) (a4 := a4) (a8 := nI c) (w := w) (w1 := 1 <<< ((nI j).toInt64 &&& 63)) (i := i) H hb2 hst
      refine ⟨st', _, _, e1, e2, e3, fun k hk => ?_⟩
      rw [bit_or w (by omega) hk, Bool.or_eq_true, decide_eq_true_eq]
      constructor
      · rintro (q1 | q1)
        · exact Or.inl q1
        · exact Or.inr ⟨by rw [q1], by omega⟩
      · rintro (q1 | ⟨q1, q2⟩)
        · exact Or.inl q1
        · exact Or.inr ((nI_eq (by omega) (by omega)).mp q1).symm
  · rw [q, if_neg (nI_nn (by omega)), if_neg (show ¬ nI (100 + u) < (100 : Int32) from nI_nlt (a := 100 + u) (b := 100) (by omega) (by omega))]
    rw [q] at hb2
    obtain ⟨st', e1, e2, e3⟩ := t130b (a1 := nI l) (a2 := a2) (a3 := a3) (a4 := a4) (a8 := nI c) (w := w) (w1 := 0) (i := i) H hb2 hst
    refine ⟨st', _, _, e1, e2, e3, fun k hk => ?_⟩
    rw [w_or0]
    constructor
    · exact Or.inl
    · rintro (q1 | ⟨q1, -⟩)
      · exact q1
      · have := (nI_eq (by omega) (by omega)).mp q1
        omega
theorem w130i (H : MS h) (V : gval (zi h 21) n s) (hn : n ≤ 40) (hs : s ≤ 12) (hc : c < 320) (hl : l < 40) (e : zi h 21 c = nI l) : ∀ (k i : Nat) (st : Int32) (w : Int64) (u10 : Option zV), i + k = 4 → (st = 0 ∨ st = 1) → ∃ st' w' u9 u', zev 130 77 [some (vR (some 19)), some (vI (nI l)), some (vI a2), some (vI a3), some (vI a4), some (vI st), some (vL w), none, some (vI (nI c)), some (vI (nI i)), u10] [] h = zev 130 66 [some (vR (some 19)), some (vI (nI l)), some (vI a2), some (vI a3), some (vI a4), some (vI st'), some (vL w'), none, some (vI (nI (c + 1))), u9, u'] [] h ∧ (st' = 0 ∨ st' = 1) ∧ (st' = 1 ↔ st = 1 ∨ ∃ sd, i ≤ sd ∧ sd < 4 ∧ opS (zi h 21) (zi h 33) c sd) ∧ ∀ k, k < 40 → (w'.toBitVec.getLsbD k = true ↔ w.toBitVec.getLsbD k = true ∨ ∃ sd, i ≤ sd ∧ sd < 4 ∧ bsd (zi h 21) c sd = nI k ∧ k ≠ l) := by
  intro k
  induction k with
  | zero =>
    intro i st w u10 hi hst
    rw [b130_77, if_neg (show ¬ nI i < (4 : Int32) from nI_nlt (a := i) (b := 4) (by omega) (by omega)), nI_1]
    refine ⟨st, w, _, u10, rfl, hst, ⟨Or.inl, ?_⟩, fun k hk => ⟨Or.inl, ?_⟩⟩
    · rintro (q | ⟨sd, h1, h2, -⟩)
      · exact q
      · omega
    · rintro (q | ⟨sd, h1, h2, -⟩)
      · exact q
      · omega
  | succ k ih =>
    intro i st w u10 hi hst
    obtain ⟨st1, w1, u1, e1, e2, e3, e4⟩ := t130 (a2 := a2) (a3 := a3) (a4 := a4) (w := w) (u10 := u10) H V hn hs hc hl (show i < 4 by omega) e hst
    obtain ⟨st2, w2, u2, u3, f1, f2, f3, f4⟩ := ih (i + 1) st1 w1 u1 (by omega) e2
    refine ⟨st2, w2, u2, u3, e1.trans f1, f2, ?_, fun b hb => ?_⟩
    · rw [f3, e3]
      constructor
      · rintro ((q | q) | ⟨sd, h1, h2, q⟩)
        · exact Or.inl q
        · exact Or.inr ⟨i, by omega, by omega, q⟩
        · exact Or.inr ⟨sd, by omega, h2, q⟩
      · rintro (q | ⟨sd, h1, h2, q⟩)
        · exact Or.inl (Or.inl q)
        · by_cases es : sd = i
          · exact Or.inl (Or.inr (es ▸ q))
          · exact Or.inr ⟨sd, by omega, h2, q⟩
    · rw [f4 b hb, e4 b hb]
      constructor
      · rintro ((q | q) | ⟨sd, h1, h2, q⟩)
        · exact Or.inl q
        · exact Or.inr ⟨i, by omega, by omega, q⟩
        · exact Or.inr ⟨sd, by omega, h2, q⟩
      · rintro (q | ⟨sd, h1, h2, q⟩)
        · exact Or.inl (Or.inl q)
        · by_cases es : sd = i
          · exact Or.inl (Or.inr (es ▸ q))
          · exact Or.inr ⟨sd, by omega, h2, q⟩
theorem w130o (H : MS h) (V : gval (zi h 21) n s) (hn : n ≤ 40) (hs : s ≤ 12) (hl : l < 40) : ∀ (k c : Nat) (st : Int32) (w : Int64) (u9 u10 : Option zV), c + k = 320 → (st = 0 ∨ st = 1) → ∃ st' w' u9' u', zev 130 66 [some (vR (some 19)), some (vI (nI l)), some (vI a2), some (vI a3), some (vI a4), some (vI st), some (vL w), none, some (vI (nI c)), u9, u10] [] h = zev 130 182 [some (vR (some 19)), some (vI (nI l)), some (vI a2), some (vI a3), some (vI a4), some (vI st'), some (vL w'), none, some (vI 0), u9', u'] [] h ∧ (st' = 0 ∨ st' = 1) ∧ (st' = 1 ↔ st = 1 ∨ ∃ c', c ≤ c' ∧ c' < 320 ∧ zi h 21 c' = nI l ∧ ∃ sd, sd < 4 ∧ opS (zi h 21) (zi h 33) c' sd) ∧ ∀ k, k < 40 → (w'.toBitVec.getLsbD k = true ↔ w.toBitVec.getLsbD k = true ∨ ∃ c', c ≤ c' ∧ c' < 320 ∧ zi h 21 c' = nI l ∧ ∃ sd, sd < 4 ∧ bsd (zi h 21) c' sd = nI k ∧ k ≠ l) := by
  intro k
  induction k with
  | zero =>
    intro c st w u9 u10 hi hst
    rw [b130_66, if_neg (show ¬ nI c < (320 : Int32) from nI_nlt (a := c) (b := 320) (by omega) (by omega))]
    refine ⟨st, w, _, u10, rfl, hst, ⟨Or.inl, ?_⟩, fun k hk => ⟨Or.inl, ?_⟩⟩
    · rintro (q | ⟨c', h1, h2, -⟩)
      · exact q
      · omega
    · rintro (q | ⟨c', h1, h2, -⟩)
      · exact q
      · omega
  | succ k ih =>
    intro c st w u9 u10 hi hst
    rw [b130_66, if_pos (show nI c < (320 : Int32) from nI_lt (a := c) (b := 320) (by omega) (by decide))]
    by_cases e : zi h 21 c = nI l
    · obtain ⟨st1, w1, u1, u1', e1, e2, e3, e4⟩ := w130i (a2 := a2) (a3 := a3) (a4 := a4) H V hn hs (show c < 320 by omega) hl e 4 0 st w u10 (by omega) hst
      rw [nI_0] at e1
      obtain ⟨st2, w2, u2, u3, f1, f2, f3, f4⟩ := ih (c + 1) st1 w1 u1 u1' (by omega) e2
      refine ⟨st2, w2, u2, u3, e1.trans f1, f2, ?_, fun b hb => ?_⟩
      · rw [f3, e3]
        constructor
        · rintro ((q | ⟨sd, -, h2, q⟩) | ⟨c', h1, h2, q⟩)
          · exact Or.inl q
          · exact Or.inr ⟨c, by omega, by omega, e, sd, h2, q⟩
          · exact Or.inr ⟨c', by omega, h2, q⟩
        · rintro (q | ⟨c', h1, h2, h3, sd, h4, q⟩)
          · exact Or.inl (Or.inl q)
          · by_cases es : c' = c
            · exact Or.inl (Or.inr ⟨sd, by omega, h4, es ▸ q⟩)
            · exact Or.inr ⟨c', by omega, h2, h3, sd, h4, q⟩
      · rw [f4 b hb, e4 b hb]
        constructor
        · rintro ((q | ⟨sd, -, h2, q⟩) | ⟨c', h1, h2, q⟩)
          · exact Or.inl q
          · exact Or.inr ⟨c, by omega, by omega, e, sd, h2, q⟩
          · exact Or.inr ⟨c', by omega, h2, q⟩
        · rintro (q | ⟨c', h1, h2, h3, sd, h4, q⟩)
          · exact Or.inl (Or.inl q)
          · by_cases es : c' = c
            · exact Or.inl (Or.inr ⟨sd, by omega, h4, es ▸ q⟩)
            · exact Or.inr ⟨c', by omega, h2, h3, sd, h4, q⟩
    · rw [b130_77, if_pos (by decide), Mr_cells H, Ma_cells H (by omega), if_neg e, nI_1]
      obtain ⟨st2, w2, u2, u3, f1, f2, f3, f4⟩ := ih (c + 1) st w (some (vI 0)) u10 (by omega) hst
      refine ⟨st2, w2, u2, u3, f1, f2, ?_, fun b hb => ?_⟩
      · rw [f3]
        constructor
        · rintro (q | ⟨c', h1, h2, q⟩)
          · exact Or.inl q
          · exact Or.inr ⟨c', by omega, h2, q⟩
        · rintro (q | ⟨c', h1, h2, h3, q⟩)
          · exact Or.inl q
          · by_cases es : c' = c
            · exact absurd (es ▸ h3) e
            · exact Or.inr ⟨c', by omega, h2, h3, q⟩
      · rw [f4 b hb]
        constructor
        · rintro (q | ⟨c', h1, h2, q⟩)
          · exact Or.inl q
          · exact Or.inr ⟨c', by omega, h2, q⟩
        · rintro (q | ⟨c', h1, h2, h3, q⟩)
          · exact Or.inl q
          · by_cases es : c' = c
            · exact absurd (es ▸ h3) e
            · exact Or.inr ⟨c', by omega, h2, h3, q⟩
theorem n15 (a : Int32) (c : Nat) : a + 15 + nI (15 * c) = a + nI (15 * (c + 1)) := by
  rw [Int32.add_assoc, show (15 : Int32) = nI 15 from rfl, nI_add, show 15 + 15 * c = 15 * (c + 1) by omega]
theorem w130k (H : MS h) (e5 : zi h 19 5 = nI n) (hn : n ≤ 40) (e18 : zi h 19 18 = nI p) (hp : p ≤ 20) : ∀ (k i : Nat) (a4 : Int32), i + k = n → zev 130 182 [some (vR (some 19)), some (vI a1), some (vI a2), some (vI a3), some (vI a4), some (vI st), some (vL w), none, some (vI (nI i)), u9, u10] [] h = some (some (vI (a4 + nI (15 * (List.range' i k).countP (fun j => w.toBitVec.getLsbD j && decide (¬ mRes h (nI j) p < 0))) + (if st = 0 then 0 else 30))), h) := by
  intro k
  induction k with
  | zero =>
    intro i a4 hi
    rw [b130_182, Mi_lots H, e5, if_neg (nI_nlt (by omega) (by omega))]
    have e : a4 + nI (15 * (List.range' i 0).countP (fun j => w.toBitVec.getLsbD j && decide (¬ mRes h (nI j) p < 0))) = a4 := by
      show a4 + nI 0 = a4
      rw [nI_0, Int32.add_zero]
    rw [e]
    split <;> rfl
  | succ k ih =>
    intro i a4 hi
    rw [b130_182, Mi_lots H, e5, if_pos (nI_lt (by omega) (by omega)), List.range'_succ, List.countP_cons, nI_1, Int32.add_zero]
    by_cases hb : w.toBitVec.getLsbD i = true
    · rw [if_pos ((bit_t w (by omega)).mpr hb), M_v H, cI_k (q134 H e18 hp)]
      by_cases hr : mRes h (nI i) p < 0
      · rw [if_pos hr, ih (i + 1) _ (by omega)]
        simp [hb, hr]
      · rw [if_neg hr, ih (i + 1) _ (by omega), n15]
        simp [hb, hr]
    · rw [if_neg (fun q => hb ((bit_t w (by omega)).mp q)), ih (i + 1) _ (by omega)]
      simp [hb]
theorem w131 (H : MS h) {f : Nat} {x : Int32} (hf : f < 320) (e : zi h 21 f = x) (hlt : ∀ j, j < f → zi h 21 j ≠ x) : ∀ k i, i + k = f → zev 131 2 [some (vR (some 19)), some (vI x), some (vI (nI i))] [] h = some (some (vI (nI f)), h) := by
  intro k
  induction k with
  | zero =>
    intro i hi
    have : i = f := by omega
    subst this
    rw [b131_2, Mr_cells H, Ma_cells H hf, if_pos e]
  | succ k ih =>
    intro i hi
    rw [b131_2, Mr_cells H, Ma_cells H (by omega), if_neg (hlt i (by omega)), nI_1]
    exact ih (i + 1) (by omega)
end ZWP
