/-- free ground, for a lot or for a street -/
def okc (cr z : Int32) : Prop := z = -1 ∨ (¬ cr = 0 ∧ ¬ z < 100)
/-- a cell in a rectangle -/
def inR (X Y W B c : Nat) : Prop := X ≤ c % 20 ∧ c % 20 < X + W ∧ Y ≤ c / 20 ∧ c / 20 < Y + B
/-- all but the row a -/
def F1 (a : Nat) (h h1 : zH) : Prop := zn h1 = zn h ∧ zs h1 = zs h ∧ zk h1 = zk h ∧ zr h1 = zr h ∧ ∀ b, b ≠ a → zi h1 b = zi h b
/-- free cells of P become v in the row a -/
def MK (a : Nat) (h h1 : zH) (v : Int32) (P : Nat → Prop) : Prop := F1 a h h1 ∧ ∀ c, c < 320 → (P c → zi h a c = -1 → zi h1 a c = v) ∧ (¬ P c ∨ zi h a c ≠ -1 → zi h1 a c = zi h a c)
section ZGR
variable {h h1 h2 m m1 : zH} {a x y w b i j c X Y W B : Nat} {cr v : Int32} {P Q : Nat → Prop} {u7 u8 : Option zV}
theorem F1_rfl : F1 a h h := ⟨rfl, rfl, rfl, rfl, fun _ _ => rfl⟩
theorem F1_tr (A : F1 a h h1) (B : F1 a h1 h2) : F1 a h h2 := ⟨B.1.trans A.1, B.2.1.trans A.2.1, B.2.2.1.trans A.2.2.1, B.2.2.2.1.trans A.2.2.2.1, fun b hb => (B.2.2.2.2 b hb).trans (A.2.2.2.2 b hb)⟩
theorem F1_u (A : F1 a h h1) : F1 a h (zui h1 a i v) := F1_tr A ⟨rfl, rfl, rfl, rfl, fun b hb => zi_f (Ne.symm hb)⟩
theorem F1_cs (A : F1 a h h1) (H : CS h) : CS h1 := by
  obtain ⟨a1, -, a3, a4, -⟩ := A
  unfold CS
  rw [a1, a3, a4]
  exact H
theorem F1_ms (A : F1 a h h1) (H : MS h) : MS h1 := by
  obtain ⟨a1, -, a3, a4, -⟩ := A
  unfold MS
  rw [a1, a3, a4]
  exact H
theorem MK_0 (hP : ∀ c, c < 320 → ¬ P c) : MK a h h v P := ⟨F1_rfl, fun c hc => ⟨fun q => absurd q (hP c hc), fun _ => rfl⟩⟩
theorem MK_cg (A : MK a h h1 v P) (e : ∀ c, c < 320 → (P c ↔ Q c)) : MK a h h1 v Q := ⟨A.1, fun c hc => ⟨fun q => (A.2 c hc).1 ((e c hc).mpr q), fun q => (A.2 c hc).2 (by rw [e c hc]; exact q)⟩⟩
/-- one cell more -/
theorem MK_u (A : MK a h h1 v P) (hc : c < 320) (hp : ¬ P c) (he : zi h a c = -1) (e : ∀ d, d < 320 → (Q d ↔ P d ∨ d = c)) : MK a h (zui h1 a c v) v Q := by
  refine ⟨F1_u A.1, fun d hd => ⟨fun q1 q2 => ?_, fun q => ?_⟩⟩
  · rw [zi_ui]
    by_cases g : d = c
    · rw [if_pos ⟨rfl, g⟩]
    · rw [if_neg (fun q => g q.2)]
      rcases (e d hd).mp q1 with q3 | q3
      · exact (A.2 d hd).1 q3 q2
      · exact absurd q3 g
  · have g : d ≠ c := fun g => by
      rcases q with q1 | q1
      · exact q1 ((e d hd).mpr (Or.inr g))
      · exact q1 (g ▸ he)
    rw [zi_uk g]
    refine (A.2 d hd).2 ?_
    rcases q with q1 | q1
    · exact Or.inl (fun q2 => q1 ((e d hd).mpr (Or.inl q2)))
    · exact Or.inr q1
/-- one cell more, that was not free -/
theorem MK_k (A : MK a h h1 v P) (he : zi h a c ≠ -1) (e : ∀ d, d < 320 → (Q d ↔ P d ∨ d = c)) : MK a h h1 v Q := by
  refine ⟨A.1, fun d hd => ⟨fun q1 q2 => ?_, fun q => ?_⟩⟩
  · rcases (e d hd).mp q1 with q3 | q3
    · exact (A.2 d hd).1 q3 q2
    · exact absurd (q3 ▸ q2) he
  · refine (A.2 d hd).2 ?_
    rcases q with q1 | q1
    · exact Or.inl (fun q2 => q1 ((e d hd).mpr (Or.inl q2)))
    · exact Or.inr q1
theorem zgr_n (hi : i < 20) (hj : j < 16) : zgr (nI i) (nI j) := by
  unfold zgr
  rw [nI_toInt (by omega), nI_toInt (by omega)]
  omega
theorem q25 (H : CS h) (hi : i < 20) (hj : j < 16) : zcall 25 [vR (some 13), vI (nI i), vI (nI j)] h = some (some (vI (zi h 14 (20 * j + i))), h) := by
  rw [q25y H (zgr_n hi hj), zcel, nI_clamp (by omega)]
theorem w24i (H : CS h) (hx : x + w ≤ 20) (hj : j < 16) : ∀ (k i : Nat) (u8 : Option zV), i + k = x + w → x ≤ i → (zev 24 42 [some (vR (some 13)), some (vI (nI x)), some (vI (nI y)), some (vI (nI w)), some (vI (nI b)), some (vI cr), some (vI (nI j)), some (vI (nI i)), u8] [] h = some (some (vI 0), h) ∧ ∃ i', i ≤ i' ∧ i' < x + w ∧ ¬ okc cr (zi h 14 (20 * j + i'))) ∨ ((∃ u1 u2, zev 24 42 [some (vR (some 13)), some (vI (nI x)), some (vI (nI y)), some (vI (nI w)), some (vI (nI b)), some (vI cr), some (vI (nI j)), some (vI (nI i)), u8] [] h = zev 24 30 [some (vR (some 13)), some (vI (nI x)), some (vI (nI y)), some (vI (nI w)), some (vI (nI b)), some (vI cr), some (vI (nI (j + 1))), u1, u2] [] h) ∧ ∀ i', i ≤ i' → i' < x + w → okc cr (zi h 14 (20 * j + i'))) := by
  intro k
  induction k with
  | zero =>
    intro i u8 hi hxi
    refine Or.inr ⟨⟨some (vI (nI i)), u8, ?_⟩, fun i' h1 h2 => by omega⟩
    rw [b24_42, nI_add, if_neg (nI_nlt (by omega) (by omega)), nI_1]
  | succ k ih =>
    intro i u8 hi hxi
    have nx : ∀ z, okc cr (zi h 14 (20 * j + i)) → (zev 24 42 [some (vR (some 13)), some (vI (nI x)), some (vI (nI y)), some (vI (nI w)), some (vI (nI b)), some (vI cr), some (vI (nI j)), some (vI (nI i)), u8] [] h = zev 24 42 [some (vR (some 13)), some (vI (nI x)), some (vI (nI y)), some (vI (nI w)), some (vI (nI b)), some (vI cr), some (vI (nI j)), some (vI (nI (i + 1))), z] [] h) → (zev 24 42 [some (vR (some 13)), some (vI (nI x)), some (vI (nI y)), some (vI (nI w)), some (vI (nI b)), some (vI cr), some (vI (nI j)), some (vI (nI i)), u8] [] h = some (some (vI 0), h) ∧ ∃ i', i ≤ i' ∧ i' < x + w ∧ ¬ okc cr (zi h 14 (20 * j + i'))) ∨ ((∃ u1 u2, zev 24 42 [some (vR (some 13)), some (vI (nI x)), some (vI (nI y)), some (vI (nI w)), some (vI (nI b)), some (vI cr), some (vI (nI j)), some (vI (nI i)), u8] [] h = zev 24 30 [some (vR (some 13)), some (vI (nI x)), some (vI (nI y)), some (vI (nI w)), some (vI (nI b)), some (vI cr), some (vI (nI (j + 1))), u1, u2] [] h) ∧ ∀ i', i ≤ i' → i' < x + w → okc cr (zi h 14 (20 * j + i'))) := by
      intro z hz e
      rw [e]
      rcases ih (i + 1) z (by omega) (by omega) with ⟨g1, i', g2, g3, g4⟩ | ⟨g1, g2⟩
      · exact Or.inl ⟨g1, i', by omega, g3, g4⟩
      · refine Or.inr ⟨g1, fun i' h1 h2 => ?_⟩
        by_cases e : i' = i
        · rw [e]; exact hz
        · exact g2 i' (by omega) h2
    have e0 : zev 24 42 [some (vR (some 13)), some (vI (nI x)), some (vI (nI y)), some (vI (nI w)), some (vI (nI b)), some (vI cr), some (vI (nI j)), some (vI (nI i)), u8] [] h = _ := b24_42 _ _ _ _ _ _ _ _ _ _
    rw [nI_add, if_pos (nI_lt (by omega) (by omega)), Cv13 H, cI_k (q25 H (by omega) hj), nI_1, bo_0] at e0
    by_cases g1 : zi h 14 (20 * j + i) = -1
    · rw [if_pos g1] at e0
      exact nx _ (Or.inl g1) e0
    · rw [if_neg g1] at e0
      by_cases g2 : cr = 0
      · rw [if_pos g2] at e0
        exact Or.inl ⟨e0, i, by omega, by omega, fun q => q.elim g1 (fun q => q.1 g2)⟩
      · rw [if_neg g2] at e0
        by_cases g3 : zi h 14 (20 * j + i) < 100
        · rw [if_pos g3] at e0
          exact Or.inl ⟨e0, i, by omega, by omega, fun q => q.elim g1 (fun q => q.2 g3)⟩
        · rw [if_neg g3] at e0
          exact nx _ (Or.inr ⟨g2, g3⟩) e0
theorem w24o (H : CS h) (hx : x + w ≤ 20) (hy : y + b ≤ 16) : ∀ (k j : Nat) (u7 u8 : Option zV), j + k = y + b → y ≤ j → (zev 24 30 [some (vR (some 13)), some (vI (nI x)), some (vI (nI y)), some (vI (nI w)), some (vI (nI b)), some (vI cr), some (vI (nI j)), u7, u8] [] h = some (some (vI 0), h) ∧ ∃ i' j', x ≤ i' ∧ i' < x + w ∧ j ≤ j' ∧ j' < y + b ∧ ¬ okc cr (zi h 14 (20 * j' + i'))) ∨ (zev 24 30 [some (vR (some 13)), some (vI (nI x)), some (vI (nI y)), some (vI (nI w)), some (vI (nI b)), some (vI cr), some (vI (nI j)), u7, u8] [] h = some (some (vI 1), h) ∧ ∀ i' j', x ≤ i' → i' < x + w → j ≤ j' → j' < y + b → okc cr (zi h 14 (20 * j' + i'))) := by
  intro k
  induction k with
  | zero =>
    intro j u7 u8 hj _
    refine Or.inr ⟨?_, fun i' j' _ _ h1 h2 => by omega⟩
    rw [b24_30, nI_add, if_neg (nI_nlt (by omega) (by omega)), bo_1]
  | succ k ih =>
    intro j u7 u8 hj hyj
    rw [b24_30, nI_add, if_pos (nI_lt (by omega) (by omega))]
    rcases w24i (y := y) (b := b) (cr := cr) H hx (show j < 16 by omega) w x u8 (by omega) (Nat.le_refl _) with ⟨g1, i', g2, g3, g4⟩ | ⟨⟨u1, u2, g1⟩, g2⟩
    · exact Or.inl ⟨g1, i', j, g2, g3, by omega, by omega, g4⟩
    · rw [g1]
      rcases ih (j + 1) u1 u2 (by omega) (by omega) with ⟨g3, i', j', g4, g5, g6, g7, g8⟩ | ⟨g3, g4⟩
      · exact Or.inl ⟨g3, i', j', g4, g5, by omega, g7, g8⟩
      · refine Or.inr ⟨g3, fun i' j' h1 h2 h3 h4 => ?_⟩
        by_cases e : j' = j
        · rw [e]; exact g2 i' h1 h2
        · exact g4 i' j' h1 h2 (by omega) h4
/-- free: all on the grass, every cell free -/
def FR (h : zH) (x y w b : Nat) (cr : Int32) : Prop := x + w ≤ 20 ∧ y + b ≤ 16 ∧ ∀ c, c < 320 → inR x y w b c → okc cr (zi h 14 c)
theorem q24 (H : CS h) (hx : x < 20) (hw : w < 1000) (hy : y < 16) (hb : b < 1000) : (zcall 24 [vR (some 13), vI (nI x), vI (nI y), vI (nI w), vI (nI b), vI cr] h = some (some (vI 1), h) ∧ FR h x y w b cr) ∨ (zcall 24 [vR (some 13), vI (nI x), vI (nI y), vI (nI w), vI (nI b), vI cr] h = some (some (vI 0), h) ∧ ¬ FR h x y w b cr) := by
  have e0 := e24 (some 13) (nI x) (nI y) (nI w) (nI b) cr h
  rw [if_neg (nI_nn (by omega)), if_neg (nI_nn (by omega)), nI_add, nI_add, bo_0] at e0
  by_cases g1 : x + w ≤ 20
  · rw [if_neg (show ¬ (20 : Int32) < nI (x + w) from nI_nlt (a := 20) (b := x + w) g1 (by decide))] at e0
    by_cases g2 : y + b ≤ 16
    · rw [if_neg (show ¬ (16 : Int32) < nI (y + b) from nI_nlt (a := 16) (b := y + b) g2 (by decide))] at e0
      rcases w24o (cr := cr) H g1 g2 b y none none (by omega) (Nat.le_refl _) with ⟨q1, i', j', q2, q3, q4, q5, q6⟩ | ⟨q1, q2⟩
      · refine Or.inr ⟨e0.trans q1, fun q => q6 ?_⟩
        refine q.2.2 (20 * j' + i') (by omega) ⟨?_, ?_, ?_, ?_⟩ <;> omega
      · refine Or.inl ⟨e0.trans q1, g1, g2, fun c hc q => ?_⟩
        obtain ⟨r1, r2, r3, r4⟩ := q
        have := q2 (c % 20) (c / 20) r1 r2 r3 r4
        rw [show 20 * (c / 20) + c % 20 = c by omega] at this
        exact this
    · rw [if_pos (show (16 : Int32) < nI (y + b) from nI_lt (a := 16) (b := y + b) (by omega) (by omega))] at e0
      exact Or.inr ⟨e0, fun q => g2 q.2.1⟩
  · rw [if_pos (show (20 : Int32) < nI (x + w) from nI_lt (a := 20) (b := x + w) (by omega) (by omega))] at e0
    exact Or.inr ⟨e0, fun q => g1 q.1⟩
theorem w39i (H : CS h) (hx : x + w ≤ 20) (hy : y + b ≤ 16) (hj : y ≤ j) (hj2 : j < y + b) : ∀ (k i : Nat) (h1 : zH), i + k = x + w → x ≤ i → MK 14 h h1 v (fun c => inR x y w b c ∧ (c / 20 < j ∨ c / 20 = j ∧ c % 20 < i)) → ∃ h2 u, zev 39 15 [some (vR (some 13)), some (vI (nI x)), some (vI (nI y)), some (vI (nI w)), some (vI (nI b)), some (vI v), some (vI (nI j)), some (vI (nI i))] [] h1 = zev 39 3 [some (vR (some 13)), some (vI (nI x)), some (vI (nI y)), some (vI (nI w)), some (vI (nI b)), some (vI v), some (vI (nI (j + 1))), u] [] h2 ∧ MK 14 h h2 v (fun c => inR x y w b c ∧ (c / 20 < j + 1 ∨ c / 20 = j + 1 ∧ c % 20 < x)) := by
  intro k
  induction k with
  | zero =>
    intro i h1 hi hxi M
    refine ⟨h1, some (vI (nI i)), ?_, MK_cg M (fun c hc => ?_)⟩
    · rw [b39_15, nI_add, if_neg (nI_nlt (by omega) (by omega)), nI_1]
    · unfold inR
      omega
  | succ k ih =>
    intro i h1 hi hxi M
    have H1 := F1_cs M.1 H
    have hg := zgr_n (show i < 20 by omega) (show j < 16 by omega)
    have ec : nI j * 20 + nI i = nI (20 * j + i) := zcel2 i j
    have e0 : zi h1 14 (20 * j + i) = zi h 14 (20 * j + i) := (M.2 (20 * j + i) (by omega)).2 (Or.inl (by unfold inR; omega))
    rw [b39_15, nI_add, if_pos (nI_lt (by omega) (by omega)), cI_k q26, if_pos hg, if_neg (by decide), Cr13_0 H1, ec, Ca14 H1 (by omega), e0, Cr13_0 H1, Ct14 H1 (by omega), nI_1]
    by_cases g : zi h 14 (20 * j + i) = -1
    · rw [if_pos g]
      refine ih (i + 1) _ (by omega) (by omega) (MK_u M (by omega) (by unfold inR; omega) g (fun d hd => ?_))
      unfold inR
      omega
    · rw [if_neg g]
      refine ih (i + 1) _ (by omega) (by omega) (MK_k M g (fun d hd => ?_))
      unfold inR
      omega
theorem w39o (H : CS h) (hx : x + w ≤ 20) (hy : y + b ≤ 16) : ∀ (k j : Nat) (h1 : zH) (u : Option zV), j + k = y + b → y ≤ j → MK 14 h h1 v (fun c => inR x y w b c ∧ (c / 20 < j ∨ c / 20 = j ∧ c % 20 < x)) → ∃ h2, zev 39 3 [some (vR (some 13)), some (vI (nI x)), some (vI (nI y)), some (vI (nI w)), some (vI (nI b)), some (vI v), some (vI (nI j)), u] [] h1 = some (none, h2) ∧ MK 14 h h2 v (inR x y w b) := by
  intro k
  induction k with
  | zero =>
    intro j h1 u hj hyj M
    refine ⟨h1, ?_, MK_cg M (fun c hc => ?_)⟩
    · rw [b39_3, nI_add, if_neg (nI_nlt (by omega) (by omega))]
    · unfold inR
      omega
  | succ k ih =>
    intro j h1 u hj hyj M
    rw [b39_3, nI_add, if_pos (nI_lt (by omega) (by omega))]
    obtain ⟨h2, u2, e2, M2⟩ := w39i (v := v) H hx hy hyj (by omega) w x h1 (by omega) (Nat.le_refl _) M
    rw [e2]
    exact ih (j + 1) h2 u2 (by omega) (by omega) M2
theorem q39 (H : CS h) (hx : x + w ≤ 20) (hy : y + b ≤ 16) : ∃ h2, zcall 39 [vR (some 13), vI (nI x), vI (nI y), vI (nI w), vI (nI b), vI v] h = some (none, h2) ∧ MK 14 h h2 v (inR x y w b) := by
  rw [e39]
  exact w39o H hx hy b y h none (by omega) (Nat.le_refl _) (MK_0 (fun c hc q => by have := q.1; have := q.2; unfold inR at *; omega))
end ZGR
