section ZCU
variable {hc hm h h' h1 h2 m : zH} {n n' s s' T P k i : Nat} {x y : Int32} {f : Nat} {g v : Nat → Int32}
/-- the cells go back -/
theorem w42 (H : CS h) (G : RG hc g v n s) (hn : n ≤ 40) (hs : s ≤ 12) (hn' : n' ≤ 40) (hs' : s' ≤ 12) (C : CF hc h n n' s s') : ∀ (k c : Nat) (h1 : zH) (u4 u5 u6 : Option zV), c + k = 320 → F1 14 h h1 → (∀ j, j < 320 → zi h1 14 j = if j < c then zi hc 14 j else zi h 14 j) → ∃ h2 v4 v5 v6, zev 42 2 [some (vR (some 13)), some (vI (nI n)), some (vI (nI s)), some (vI (nI c)), u4, u5, u6] [] h1 = zev 42 2 [some (vR (some 13)), some (vI (nI n)), some (vI (nI s)), some (vI (nI 320)), v4, v5, v6] [] h2 ∧ F1 14 h h2 ∧ ∀ j, j < 320 → zi h2 14 j = zi hc 14 j := by
  intro k
  induction k with
  | zero =>
    intro c h1 u4 u5 u6 hk A e
    have : c = 320 := by omega
    subst this
    exact ⟨h1, u4, u5, u6, rfl, A, fun j hj => by rw [e j hj, if_pos hj]⟩
  | succ k ih =>
    intro c h1 u4 u5 u6 hk A e
    have H1 := F1_cs A H
    have e0 : zi h1 14 c = zi h 14 c := by rw [e c (by omega), if_neg (by omega)]
    have E := b42_2 (some 13) (nI n) (nI s) (nI c) u4 u5 u6 h1
    rw [Cr13_0 H1, Cl14 H1, if_pos (nI_lt (by omega) (by decide)), Cr13_0 H1, Ca14 H1 (by omega), e0] at E
    have e100 : (100 : Int32) + nI s = nI (100 + s) := nI_add 100 s
    -- it stays
    have stay : zi h 14 c = zi hc 14 c → ∀ w4 w5 w6, (zev 42 2 [some (vR (some 13)), some (vI (nI n)), some (vI (nI s)), some (vI (nI c)), u4, u5, u6] [] h1 = zev 42 2 [some (vR (some 13)), some (vI (nI n)), some (vI (nI s)), some (vI (nI c + 1)), w4, w5, w6] [] h1) → ∃ h2 v4 v5 v6, zev 42 2 [some (vR (some 13)), some (vI (nI n)), some (vI (nI s)), some (vI (nI c)), u4, u5, u6] [] h1 = zev 42 2 [some (vR (some 13)), some (vI (nI n)), some (vI (nI s)), some (vI (nI 320)), v4, v5, v6] [] h2 ∧ F1 14 h h2 ∧ ∀ j, j < 320 → zi h2 14 j = zi hc 14 j := by
      intro q w4 w5 w6 e2
      rw [e2, nI_1]
      refine ih (c + 1) h1 w4 w5 w6 (by omega) A (fun j hj => ?_)
      rw [e j hj]
      by_cases g : j = c
      · rw [if_neg (by omega), if_pos (by omega), g, q]
      · by_cases g2 : j < c
        · rw [if_pos g2, if_pos (by omega)]
        · rw [if_neg g2, if_neg (by omega)]
    -- it goes
    have go : zi hc 14 c = -1 → ∀ w4 w5 w6, (zev 42 2 [some (vR (some 13)), some (vI (nI n)), some (vI (nI s)), some (vI (nI c)), u4, u5, u6] [] h1 = zev 42 2 [some (vR (some 13)), some (vI (nI n)), some (vI (nI s)), some (vI (nI c + 1)), w4, w5, w6] [] (zui h1 14 c (-1))) → ∃ h2 v4 v5 v6, zev 42 2 [some (vR (some 13)), some (vI (nI n)), some (vI (nI s)), some (vI (nI c)), u4, u5, u6] [] h1 = zev 42 2 [some (vR (some 13)), some (vI (nI n)), some (vI (nI s)), some (vI (nI 320)), v4, v5, v6] [] h2 ∧ F1 14 h h2 ∧ ∀ j, j < 320 → zi h2 14 j = zi hc 14 j := by
      intro q w4 w5 w6 e2
      rw [e2, nI_1]
      refine ih (c + 1) _ w4 w5 w6 (by omega) (F1_u A) (fun j hj => ?_)
      rw [zi_ui, e j hj]
      by_cases g : j = c
      · rw [if_pos ⟨rfl, g⟩, if_pos (by omega), g, q]
      · rw [if_neg (fun q2 => g q2.2)]
        by_cases g2 : j < c
        · rw [if_pos g2, if_pos (by omega)]
        · rw [if_neg g2, if_neg (by omega)]
    have kp : ∀ (z : Int32) (w5 w6 : Option zV), zev 42 61 [some (vR (some 13)), some (vI (nI n)), some (vI (nI s)), some (vI (nI c)), some (vI z), some (vI 0), w6] [vI 0] h1 = zev 42 2 [some (vR (some 13)), some (vI (nI n)), some (vI (nI s)), some (vI (nI c + 1)), some (vI z), some (vI 0), some (vI 0)] [] h1 := fun z w5 w6 => by
      rw [b42_61, if_pos rfl, if_pos rfl]
    rcases C c (by omega) with q | ⟨q, ⟨l, q1, q2, q3⟩ | ⟨u, q1, q2, q3⟩⟩
    · rcases G.2.1 c (by omega) with ⟨-, r2⟩ | ⟨l, hl, -, r2⟩ | ⟨u, hu, -, r2⟩
      · have r3 := q.trans r2
        rw [r3, if_pos (show (-1 : Int32) < nI n by rw [Int32.lt_iff_toInt_lt, nI_toInt (by omega)]; show (-1 : Int) < n; omega), b42_37, e100, if_pos (show (-1 : Int32) < nI (100 + s) by rw [Int32.lt_iff_toInt_lt, nI_toInt (by omega)]; show (-1 : Int) < ((100 + s : Nat) : Int); omega), kp _ u5] at E
        exact stay q _ _ _ E
      · have r3 := q.trans r2
        rw [r3, if_pos (nI_lt hl (by omega)), b42_37, e100, if_pos (nI_lt (show l < 100 + s by omega) (by omega)), kp _ u5] at E
        exact stay q _ _ _ E
      · have r3 := q.trans r2
        by_cases ev : v u = 0
        · rw [if_pos ev] at r3
          rw [r3, if_neg (nI_nlt (show n ≤ 100 + u by omega) (by omega)), if_neg (show ¬ nI (100 + u) < (100 : Int32) from nI_nlt (a := 100 + u) (b := 100) (by omega) (by omega)), b42_37, e100, if_pos (nI_lt (show 100 + u < 100 + s by omega) (by omega)), kp _ u5] at E
          exact stay q _ _ _ E
        · rw [if_neg ev] at r3
          rw [r3, if_neg (nI_nlt (show n ≤ 200 + u by omega) (by omega)), if_neg (show ¬ nI (200 + u) < (100 : Int32) from nI_nlt (a := 200 + u) (b := 100) (by omega) (by omega)), b42_37, e100, if_neg (nI_nlt (show 100 + s ≤ 200 + u by omega) (by omega)), if_neg (show ¬ nI (200 + u) < (200 : Int32) from nI_nlt (a := 200 + u) (b := 200) (by omega) (by omega)), kp _ u5] at E
          exact stay q _ _ _ E
    · rw [q3, if_neg (nI_nlt q1 (by omega)), if_pos (show nI l < (100 : Int32) from nI_lt (a := l) (b := 100) (by omega) (by decide)), b42_37, e100, if_pos (nI_lt (show l < 100 + s by omega) (by omega)), b42_61, if_neg (by decide), Cr13_0 H1, Ct14 H1 (by omega)] at E
      exact go q _ _ _ E
    · rw [q3, if_neg (nI_nlt (show n ≤ 100 + u by omega) (by omega)), if_neg (show ¬ nI (100 + u) < (100 : Int32) from nI_nlt (a := 100 + u) (b := 100) (by omega) (by omega)), b42_37, e100, if_neg (nI_nlt (show 100 + s ≤ 100 + u by omega) (by omega)), if_pos (show nI (100 + u) < (200 : Int32) from nI_lt (a := 100 + u) (b := 200) (by omega) (by decide)), b42_61, if_pos rfl, if_neg (by decide), Cr13_0 H1, Ct14 H1 (by omega)] at E
      exact go q _ _ _ E
/-- lots are taken off the list's end -/
def RV (h h1 : zH) (i : Nat) : Prop := zn h1 = zn h ∧ zs h1 = zs h ∧ zk h1 = zk h ∧ (∀ a, a ≠ 16 → zi h1 a = zi h a) ∧ (∀ a, a ≠ zed h → zr h1 a = zr h a) ∧ LW h1 i ∧ ∀ l, l < i → zla h1 l = zla h l
theorem w42b (hz : zed h ≠ 16) {u4 u5 u6 : Option zV} : ∀ (d i : Nat) (h1 : zH), i = n + d → RV h h1 i → ∃ h2, zev 42 96 [some (vR (some 13)), some (vI (nI n)), some (vI (nI s)), some (vI (nI i + -1)), u4, u5, u6] [] h1 = some (none, zui h2 13 3 (nI s)) ∧ RV h h2 n := by
  intro d
  induction d with
  | zero =>
    intro i h1 hi A
    have hin : i = n := by omega
    subst hin
    have H1 := A.2.2.2.2.2.1.1
    have hn40 := A.2.2.2.2.2.1.2.1
    refine ⟨h1, ?_, A⟩
    have e : nI i + -1 < nI i := by
      rw [← sub1, Int32.lt_iff_toInt_lt, nI_toInt (by omega)]
      have := pk_sub_toInt (a := i) (b := 1) (by omega) (by omega)
      rw [show (nI i - 1).toInt = (nI i - nI 1).toInt from rfl, this]
      omega
    rw [b42_96, if_pos e, Cp13_3 H1]
  | succ d ih =>
    intro i h1 hi A
    obtain ⟨i', rfl⟩ : ∃ i', i = i' + 1 := ⟨i - 1, by omega⟩
    obtain ⟨a1, a2, a3, a4, a5, w, a7⟩ := A
    have hn40 := w.2.1
    obtain ⟨w1, w2, ⟨cap, w3⟩, w4, w5, w6⟩ := id w
    have ee : zed h1 = zed h := by
      unfold zed
      rw [a5 16 (Ne.symm hz)]
    obtain ⟨h2, c1, L2, c3, b1, b2, b3, b4, b5⟩ := q43 w3 (show i' < i' + 1 by omega)
    have hne : (16 : Nat) ≠ zed h1 := fun q => by
      have k1 := w3.2.2.2.2.2.2.2.2.1
      have k2 := w3.2.2.1
      rw [← q, k2] at k1
      cases k1
    have z2 : zed h2 = zed h1 := by
      unfold zed
      rw [b2 16 1 hne]
    have c3' : ∀ j, j < i' → zr h2 (zed h1) j = zr h1 (zed h1) j := fun j hj => by
      rw [c3 j (by omega), if_pos (by omega)]
    have la2 : ∀ l, l < i' → zla h2 l = zla h1 l := fun l hl => by
      unfold zla
      rw [z2, c3' l hl]
    have C2 : CS h2 := CS_of2 w1 (by rw [b4]; exact Nat.le_refl _) (fun a ha => b3 a) (fun a r1 r2 r3 => funext fun k => b2 a k (by rcases w4 with q | q <;> omega))
    rw [b42_96, pk_m1, if_neg (nI_nlt (by omega) (by omega)), if_neg (nI_nn (by omega)), Cr13_2 w1, Lv16 w, cR_k c1]
    refine ih i' h2 (by omega) ⟨b4.trans a1, b5.trans a2, by rw [← a3]; funext a; exact b3 a, fun a ha => ?_, fun a ha => ?_, ⟨C2, by omega, ⟨cap, by rw [z2]; exact L2⟩, by rw [z2]; exact w4, fun l hl => ?_, fun l j hl hj q => ?_⟩, fun l hl => by rw [la2 l hl]; exact a7 l (by omega)⟩
    · rw [← a4 a ha]
      funext k
      exact b1 a k (fun q => ha q.1)
    · rw [← a5 a ha]
      funext k
      exact b2 a k (by rw [ee]; exact ha)
    · obtain ⟨u1, u2, u3, u4'⟩ := w5 l (by omega)
      rw [z2, la2 l hl, c3' l hl, b4, b3]
      exact ⟨u1, u2, u3, u4'⟩
    · rw [la2 l hl, la2 j hj] at q
      exact w6 l j (by omega) (by omega) q
end ZCU
