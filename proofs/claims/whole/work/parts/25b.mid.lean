/-- what a drawing leaves of the class's heap -/
def DF (hc h : zH) (n : Nat) : Prop := zn hc ≤ zn h ∧ (∀ a, a < zn hc → zk h a = zk hc a) ∧ (∀ a, a < zn hc → a ≠ 9 → a ≠ 11 → a ≠ 13 → a ≠ 14 → a ≠ 16 → zi h a = zi hc a) ∧ (∀ a, a < zn hc → a ≠ 16 → a ≠ zed hc → zr h a = zr hc a) ∧ zi h 13 4 = zi hc 13 4 ∧ (∀ l, l < n → zla h l = zla hc l) ∧ (zed h = zed hc ∨ zn hc ≤ zed h) ∧ zi h 9 2 = zi hc 9 2
/-- a new lot -/
def FLt (hc h : zH) (l : Nat) : Prop := cf h l 7 = -1 ∧ cf h l 8 = -1 ∧ cf h l 10 = 0 ∧ cf h l 11 = 0 ∧ cf h l 12 = 0 ∧ cf h l 15 = 0 ∧ cf h l 16 = -1 ∧ zr h (zla h l) 9 = none ∧ zr h (zla h l) 6 = some (zbl h l) ∧ zn hc ≤ zbl h l ∧ zbl h l < zn h ∧ zk h (zbl h l) = (0, 3) ∧ zr h (zbl h l) 1 = some 7 ∧ zi h (zbl h l) 2 = 0 ∧ zn hc ≤ zla h l
def CMa (hc h : zH) (n n' : Nat) : Prop := DF hc h n ∧ LW h n' ∧ n ≤ n' ∧ (∀ l, n ≤ l → l < n' → FLt hc h l) ∧ (∀ l j, n ≤ l → l < j → j < n' → zbl h l ≠ zbl h j) ∧ zn h ≤ zn hc + 3 * (n' - n) ∧ zs h + 4 * (zk hc (zed hc)).2 ≤ zs hc + 20 * (n' - n) + 4 * (zk h (zed h)).2
/-- the class's cells since the drawing began -/
def CF (hc h : zH) (n n' s s' : Nat) : Prop := ∀ c, c < 320 → zi h 14 c = zi hc 14 c ∨ (zi hc 14 c = -1 ∧ ((∃ l, n ≤ l ∧ l < n' ∧ zi h 14 c = nI l) ∨ ∃ u, s ≤ u ∧ u < s' ∧ zi h 14 c = nI (100 + u)))
def Q4 (h h' : zH) : Prop := zn h' = zn h ∧ zs h' = zs h ∧ zk h' = zk h ∧ zr h' = zr h ∧ (∀ a, a ≠ 9 → a ≠ 11 → a ≠ 13 → a ≠ 14 → zi h' a = zi h a) ∧ zi h' 13 4 = zi h 13 4 ∧ zi h' 9 2 = zi h 9 2
section ZMI
variable {hc h h' h1 h2 : zH} {n n' s s' l j k a X Y W B x y w b N : Nat} {g v : Int32}
theorem Q4_la (A : Q4 h h') : zla h' l = zla h l := by unfold zla zed; rw [A.2.2.2.1]
theorem Q4_ed (A : Q4 h h') : zed h' = zed h := by unfold zed; rw [A.2.2.2.1]
theorem Q4_bl (A : Q4 h h') : zbl h' l = zbl h l := by unfold zbl; rw [Q4_la A, A.2.2.2.1]
theorem Q4_cs (A : Q4 h h') (H : CS h) : CS h' := by
  obtain ⟨a1, -, a3, a4, -⟩ := A
  unfold CS
  rw [a1, a3, a4]
  exact H
theorem Q4_LW (A : Q4 h h') (W : LW h n) : LW h' n := by
  obtain ⟨w1, w2, ⟨cap, w3⟩, w4, w5, w6⟩ := W
  have e1 := Q4_ed A
  obtain ⟨a1, a2, a3, a4, a5, a6⟩ := id A
  refine ⟨Q4_cs A w1, w2, ⟨cap, ?_⟩, by rw [e1]; exact w4, fun l hl => ?_, fun l j hl hj q => ?_⟩
  · rw [e1]
    have eo : ∀ y, zob h' y = zob h y := fun y => by unfold zob; rw [a1, a3]
    unfold zLi
    simp only [a1, a3, a4, a5 16 (by decide) (by decide) (by decide) (by decide), eo]
    exact w3
  · rw [Q4_la A, e1, a1, a3, a4]; exact w5 l hl
  · rw [Q4_la A, Q4_la A] at q; exact w6 l j hl hj q
theorem Q4_cf (A : Q4 h h') (W : LW h n) (hl : l < n) : cf h' l k = cf h l k := by
  have := (LW_la W hl).1
  unfold cf
  rw [Q4_la A, A.2.2.2.2.1 _ (by omega) (by omega) (by omega) (by omega)]
theorem CMa_q (C : CMa hc h n n') (A : Q4 h h') (h45 : 45 ≤ zn hc) : CMa hc h' n n' := by
  obtain ⟨⟨d1, d2, d3, d4, d5, d6, d7, d8⟩, c2, c3, c4, c5, c6, c7⟩ := C
  obtain ⟨a1, a2, a3, a4, a5, a6, a7⟩ := id A
  refine ⟨⟨by rw [a1]; exact d1, by rw [a3]; exact d2, fun a q1 q2 q3 q4 q5 q6 => by rw [a5 a q2 q3 q4 q5]; exact d3 a q1 q2 q3 q4 q5 q6, by rw [a4]; exact d4, by rw [a6]; exact d5, fun l hl => by rw [Q4_la A]; exact d6 l hl, by rw [Q4_ed A]; exact d7, by rw [a7]; exact d8⟩, Q4_LW A c2, c3, fun l h1 h2 => ?_, fun l j q1 q2 q3 => by rw [Q4_bl A, Q4_bl A]; exact c5 l j q1 q2 q3, by rw [a1]; exact c6, by rw [a2, a3, Q4_ed A]; exact c7⟩
  obtain ⟨f1, f2, f3, f4, f5, f6, f7, f8, f9, f10, f11, f12, f13, f14, f15⟩ := c4 l h1 h2
  have e := fun k => Q4_cf (k := k) A c2 h2
  unfold FLt
  rw [e, e, e, e, e, e, e, Q4_la A, Q4_bl A, a1, a3, a4, a5 (zbl h l) (by omega) (by omega) (by omega) (by omega)]
  exact ⟨f1, f2, f3, f4, f5, f6, f7, f8, f9, f10, f11, f12, f13, f14, f15⟩
theorem Q4_pc (A : PC h h') : Q4 h h' := ⟨A.1, A.2.1, A.2.2.1, A.2.2.2.1, fun a h1 h2 _ _ => A.2.2.2.2.1 a h1 h2, by rw [A.2.2.2.2.1 13 (by decide) (by decide)], A.2.2.2.2.2⟩
theorem CF_pc (C : CF hc h n n' s s') (A : PC h h') : CF hc h' n n' s s' := by
  unfold CF
  rw [A.2.2.2.2.1 14 (by decide) (by decide)]
  exact C
/-- a lot more -/
theorem CMa_al (C : CMa hc h n n') (W' : LW h' (n' + 1)) (A : AL h h' n' X Y W B g) (h45 : 45 ≤ zn hc) : CMa hc h' n (n' + 1) ∧ ∀ l k, l < n' → cf h' l k = cf h l k := by
  obtain ⟨⟨d1, d2, d3, d4, d5, d6, d7, d8⟩, c2, c3, c4, c5, c6, c7⟩ := C
  obtain ⟨a1, a2, a3, a4, a5, a6, a7, a8, a9, a10, a11, a12, a13, a14, a15, a16, a17⟩ := A
  have hed := LW_ed c2
  have ela : ∀ l, l < n' → zla h l < zn h ∧ 45 ≤ zla h l ∧ zla h l ≠ zed h := fun l hl => by
    obtain ⟨u1, u2, u3⟩ := LW_la c2 hl
    exact ⟨u2, u1, fun q => by rw [q] at u3; rw [u3] at hed; exact absurd hed.2.1 (by decide)⟩
  have ecf : ∀ l k, l < n' → cf h' l k = cf h l k := fun l k hl => by
    obtain ⟨u1, u2, u3⟩ := ela l hl
    unfold cf
    rw [a7 l hl, a5 _ u1 (by omega) (by omega)]
  have erl : ∀ l, l < n' → zr h' (zla h l) = zr h (zla h l) := fun l hl => by
    obtain ⟨u1, u2, u3⟩ := ela l hl
    exact a6 _ u1 (by omega) u3
  have ebl : ∀ l, l < n' → zbl h' l = zbl h l := fun l hl => by
    unfold zbl
    rw [a7 l hl, erl l hl]
  have ebn : zbl h' n' = zn h + 1 := by
    unfold zbl
    rw [a8, a12]
    rfl
  refine ⟨⟨⟨by omega, fun a ha => by rw [a4 a (by omega), d2 a ha], fun a q1 q2 q3 q4 q5 q6 => by rw [a5 a (by omega) q5 q6]; exact d3 a q1 q2 q3 q4 q5 q6, fun a q1 q2 q3 => ?_, by rw [a5 13 (by omega) (by decide) (by decide)]; exact d5, fun l hl => by rw [a7 l (by omega)]; exact d6 l hl, ?_, by rw [a5 9 (by omega) (by decide) (by decide)]; exact d8⟩, W', by omega, fun l h1 h2 => ?_, fun l j q1 q2 q3 => ?_, by omega, by omega⟩, ecf⟩
  · rw [a6 a (by omega) q2 (by rcases d7 with q | q <;> omega)]
    exact d4 a q1 q2 q3
  · rcases a9 with q | q
    · rw [q]; exact d7
    · exact Or.inr (by omega)
  · by_cases e : l = n'
    · subst e
      have ec : ∀ k, cf h' l k = zi h' (zn h) k := fun k => by
        unfold cf
        rw [a8]
      unfold FLt
      rw [a8, ebn]
      exact ⟨(ec 7).trans (a11 7), (ec 8).trans (a11 8), (ec 10).trans (a11 10), (ec 11).trans (a11 11), (ec 12).trans (a11 12), (ec 15).trans (a11 15), (ec 16).trans (a11 16), a13, a12, by omega, a14, a15, a16, a17, by omega⟩
    · have hl : l < n' := by omega
      obtain ⟨f1, f2, f3, f4, f5, f6, f7, f8, f9, f10, f11, f12, f13, f14, f15⟩ := c4 l h1 hl
      have n1 : zbl h l ≠ zed h := fun q => by rw [q] at f12; rw [f12] at hed; exact absurd hed.2.1 (by decide)
      unfold FLt
      rw [ecf l 7 hl, ecf l 8 hl, ecf l 10 hl, ecf l 11 hl, ecf l 12 hl, ecf l 15 hl, ecf l 16 hl, a7 l hl, erl l hl, ebl l hl, a4 _ f11, a5 _ f11 (by omega) (by omega), a6 _ f11 (by omega) n1]
      exact ⟨f1, f2, f3, f4, f5, f6, f7, f8, f9, f10, by omega, f12, f13, f14, f15⟩
  · by_cases e : j = n'
    · rw [e, ebn, ebl l (by omega)]
      have := (c4 l q1 (by omega)).2.2.2.2.2.2.2.2.2.2.1
      omega
    · rw [ebl l (by omega), ebl j (by omega)]
      exact c5 l j q1 q2 (by omega)
theorem CF_al (C : CF hc h n n' s s') (hn : n ≤ n') (hn' : n' < 1000) (hs' : s' ≤ 12) (A : AL h h' n' X Y W B g) : CF hc h' n (n' + 1) s s' := by
  obtain ⟨-, -, -, -, -, -, -, -, -, a10, -⟩ := A
  intro c hc
  by_cases q : inR X Y W B c ∧ zi h 14 c = -1
  · have e := (a10 c hc).1 q.1 q.2
    refine Or.inr ⟨?_, Or.inl ⟨n', hn, by omega, e⟩⟩
    rcases C c hc with q1 | ⟨q1, -⟩
    · rw [← q1]; exact q.2
    · exact q1
  · have e := (a10 c hc).2 (by
      by_cases q1 : inR X Y W B c
      · exact Or.inr (fun q2 => q ⟨q1, q2⟩)
      · exact Or.inl q1)
    rw [e]
    rcases C c hc with q1 | ⟨q1, ⟨l, q2, q3, q4⟩ | q2⟩
    · exact Or.inl q1
    · exact Or.inr ⟨q1, Or.inl ⟨l, q2, by omega, q4⟩⟩
    · exact Or.inr ⟨q1, Or.inr q2⟩
/-- k lots of a block are laid -/
def LY (hc h h1 : zH) (n n' s s' x y w b : Nat) (g : Int32) (k : Nat) : Prop := CMa hc h1 n (n' + k) ∧ CF hc h1 n (n' + k) s s' ∧ BK 14 (zi h 14) x y w b n' k (zi h1 14) ∧ (∀ l j, l < n' → cf h1 l j = cf h l j) ∧ (∀ i, i < k → cf h1 (n' + i) 0 = nI (x + i * w) ∧ cf h1 (n' + i) 1 = nI y ∧ cf h1 (n' + i) 2 = nI w ∧ cf h1 (n' + i) 3 = nI b ∧ cf h1 (n' + i) 4 = g ∧ cf h1 (n' + i) 5 = 0) ∧ ∀ a, a < 45 → a ≠ 14 → a ≠ 16 → zi h1 a = zi h a
theorem w23 (h45 : 45 ≤ zn hc) (hs' : s' ≤ 12) (hN : n' + N ≤ 40) (hx : x + N * w ≤ 20) (hy : y + b ≤ 16) (fr : ∀ c, c < 320 → inR x y (N * w) b c → zi h 14 c = -1) (hg : g = 0 ∨ g = 1) {l2 : Int32} : ∀ (d k : Nat) (h1 : zH), k + d = N → LY hc h h1 n n' s s' x y w b g k → ∃ h2, zev 23 85 [some (vR (some 9)), some (vR (some 13)), some (vI l2), some (vI (nI N)), some (vI g), some (vI (nI x)), some (vI (nI y)), some (vI (nI w)), some (vI (nI b)), some (vI (nI k))] [] h1 = some (none, h2) ∧ LY hc h h2 n n' s s' x y w b g N := by
  intro d
  induction d with
  | zero =>
    intro k h1 hk Ly
    have : k = N := by omega
    subst this
    exact ⟨h1, by rw [b23_85, if_neg (nI_nlt (by omega) (by omega))], Ly⟩
  | succ d ih =>
    intro k h1 hk Ly
    obtain ⟨C, F, K, o, nw, fa⟩ := Ly
    have w1 := C.2.1
    have kN := Nat.mul_le_mul_right w (show k + 1 ≤ N by omega)
    rw [Nat.succ_mul] at kN
    obtain ⟨h2, c27, w2, A⟩ := q27 (X := x + k * w) (Y := y) (W := w) (B := b) (g := g) w1 (by omega) (by omega) hy hg
    rw [b23_85, if_pos (nI_lt (by omega) (by omega)), Cv13 w1.1, show nI x + nI k * nI w = nI (x + k * w) by rw [pk_mul, nI_add], cV_k c27, nI_1]
    obtain ⟨C2, ecf⟩ := CMa_al C w2 A h45
    refine ih (k + 1) h2 (by omega) ⟨C2, CF_al (n' := n' + k) F C.2.2.1 (by omega) hs' A, BK_s K (fun c hc q => ?_) (fun c hc q => ?_), fun l j hl => by rw [ecf l j (by omega), o l j hl], fun i hi => ?_, fun a q1 q2 q3 => ?_⟩
    · refine (A.2.2.2.2.2.2.2.2.2.1 c hc).1 q ?_
      obtain ⟨r1, r2, r3, r4⟩ := q
      rcases K c hc with ⟨i, hi, ⟨t1, t2, -⟩, -⟩ | ⟨-, t2⟩
      · have := rdis t1 t2 r1 r2
        omega
      · rw [t2]
        exact fr c hc ⟨by omega, by omega, r3, r4⟩
    · exact (A.2.2.2.2.2.2.2.2.2.1 c hc).2 (Or.inl q)
    · by_cases e : i = k
      · subst e
        have ec : ∀ j, cf h2 (n' + i) j = zi h2 (zn h1) j := fun j => by
          unfold cf
          rw [A.2.2.2.2.2.2.2.1]
        have a11 := A.2.2.2.2.2.2.2.2.2.2.1
        exact ⟨(ec 0).trans (a11 0), (ec 1).trans (a11 1), (ec 2).trans (a11 2), (ec 3).trans (a11 3), (ec 4).trans (a11 4), (ec 5).trans (a11 5)⟩
      · rw [ecf _ 0 (by omega), ecf _ 1 (by omega), ecf _ 2 (by omega), ecf _ 3 (by omega), ecf _ 4 (by omega), ecf _ 5 (by omega)]
        exact nw i (by omega)
    · have := w1.1.1
      rw [A.2.2.2.2.1 a (by omega) q2 q3]
      exact fa a q1 q2 q3
/-- the ground, when lots are laid -/
theorem RG_lots {G G' V : Nat → Int32} (R0 : RG h G V n' s') (hs' : s' ≤ 12) (hn : n' + N ≤ 40) (hw : 1 ≤ w) (hb : 1 ≤ b) (hx : x + N * w ≤ 20) (hy : y + b ≤ 16) (fr : ∀ c, c < 320 → inR x y (N * w) b c → G c = -1) (K1 : BK 14 (zi h 14) x y w b n' N (zi h1 14)) (K2 : BK 22 G x y w b n' N G') (o : ∀ l j, l < n' → cf h1 l j = cf h l j) (nw : ∀ i, i < N → cf h1 (n' + i) 0 = nI (x + i * w) ∧ cf h1 (n' + i) 1 = nI y ∧ cf h1 (n' + i) 2 = nI w ∧ cf h1 (n' + i) 3 = nI b) (e15 : zi h1 15 = zi h 15) : RG h1 G' V (n' + N) s' := by
  obtain ⟨g1, g2, g3, g4⟩ := R0
  have rin : ∀ i c, i < N → inR (x + i * w) y w b c → inR x y (N * w) b c := fun i c hi q => by
    have kN := Nat.mul_le_mul_right w (show i + 1 ≤ N from hi)
    rw [Nat.succ_mul] at kN
    obtain ⟨r1, r2, r3, r4⟩ := q
    exact ⟨by omega, by omega, r3, r4⟩
  have iw : ∀ i, i < N → x + i * w + w ≤ 20 := fun i hi => by
    have kN := Nat.mul_le_mul_right w (show i + 1 ≤ N from hi)
    rw [Nat.succ_mul] at kN
    omega
  refine ⟨fun l hl => ?_, fun j hj => ?_, by rw [e15]; exact g3, by rw [e15]; exact g4⟩
  · by_cases hl' : l < n'
    · obtain ⟨X, Y, W, H, q1, q2, q3, q4, q5, q6, q7, q8, q9⟩ := g1 l hl'
      refine ⟨X, Y, W, H, by rw [o l 0 hl']; exact q1, by rw [o l 1 hl']; exact q2, by rw [o l 2 hl']; exact q3, by rw [o l 3 hl']; exact q4, q5, q6, q7, q8, fun xx yy h1 h2 => ?_⟩
      rw [← q9 xx yy h1 h2]
      rcases K2 (20 * yy + xx) (by omega) with ⟨i, hi, t1, t2⟩ | ⟨-, t2⟩
      · rw [t2, fr _ (by omega) (rin i _ hi t1)]
        constructor
        · intro q
          have := (nI_eq (by omega) (by omega)).mp q
          omega
        · intro q
          exact absurd q.symm (nI_m1 (by omega))
      · rw [t2]
    · obtain ⟨i, rfl⟩ : ∃ i, l = n' + i := ⟨l - n', by omega⟩
      have hi : i < N := by omega
      obtain ⟨q1, q2, q3, q4⟩ := nw i hi
      refine ⟨x + i * w, y, w, b, q1, q2, q3, q4, hw, hb, iw i hi, hy, fun xx yy h1 h2 => ?_⟩
      rcases K2 (20 * yy + xx) (by omega) with ⟨i2, hi2, t1, t2⟩ | ⟨t1, t2⟩
      · rw [t2]
        constructor
        · intro q
          have e := (nI_eq (by omega) (by omega)).mp q
          have e2 : i2 = i := by omega
          subst e2
          unfold inR at t1
          omega
        · intro q
          unfold inR at t1
          have e2 : i2 = i := rdis (p := xx) (by omega) (by omega) q.1 q.2.1
          rw [e2]
      · rw [t2]
        constructor
        · intro q
          rcases g2 (20 * yy + xx) (by omega) with ⟨e, -⟩ | ⟨l2, hl2, e, -⟩ | ⟨u, hu, e, -⟩
          · exact absurd (q.symm.trans e) (nI_m1 (by omega))
          · have := (nI_eq (by omega) (by omega)).mp (q.symm.trans e)
            omega
          · have := (nI_eq (by omega) (by omega)).mp (q.symm.trans e)
            omega
        · intro q
          exfalso
          refine t1 i hi ?_
          unfold inR
          omega
  · rcases K2 j hj with ⟨i2, hi2, t1, t2⟩ | ⟨t1, t2⟩
    · rcases K1 j hj with ⟨i1, hi1, r1, r2⟩ | ⟨r1, -⟩
      · have e : i1 = i2 := rdis r1.1 r1.2.1 t1.1 t1.2.1
        subst e
        exact Or.inr (Or.inl ⟨n' + i1, by omega, t2, r2⟩)
      · exact absurd t1 (r1 i2 hi2)
    · rcases K1 j hj with ⟨i1, hi1, r1, -⟩ | ⟨-, r2⟩
      · exact absurd r1 (t1 i1 hi1)
      · rw [t2, r2]
        rcases g2 j hj with q | ⟨l2, hl2, q⟩ | q
        · exact Or.inl q
        · exact Or.inr (Or.inl ⟨l2, by omega, q⟩)
        · exact Or.inr (Or.inr q)
/-- the ground, when a street is laid -/
theorem RG_street {m m' : zH} {V : Nat → Int32} (R0 : RG h (zi m 22) V n' s') (hn : n' ≤ 40) (hs' : s' < 12) (hV : V s' = 0) {P : Nat → Prop} (K1 : MK 14 h h1 (nI (100 + s')) P) (K2 : MK 22 m m' (nI (100 + s')) P) (o : ∀ l j, l < n' → cf h1 l j = cf h l j) : RG h1 (zi m' 22) V n' (s' + 1) := by
  obtain ⟨g1, g2, g3, g4⟩ := R0
  have e15 : zi h1 15 = zi h 15 := K1.1.2.2.2.2 15 (by decide)
  have both : ∀ j, j < 320 → (zi m 22 j = -1 ↔ zi h 14 j = -1) := fun j hj => by
    rcases g2 j hj with ⟨e1, e2⟩ | ⟨l, hl, e1, e2⟩ | ⟨u, hu, e1, e2⟩
    · rw [e1, e2]
    · rw [e1, e2]
    · rw [e1, e2]
      constructor
      · intro q
        exact absurd q (nI_m1 (by omega))
      · intro q
        exact absurd q (nI_m1 (by split <;> omega))
  have gc : ∀ j, j < 320 → (zi m 22 j = -1 ∧ P j ∧ zi m' 22 j = nI (100 + s') ∧ zi h1 14 j = nI (100 + s')) ∨ (zi m' 22 j = zi m 22 j ∧ zi h1 14 j = zi h 14 j) := fun j hj => by
    by_cases q1 : zi m 22 j = -1
    · by_cases q2 : P j
      · exact Or.inl ⟨q1, q2, (K2.2 j hj).1 q2 q1, (K1.2 j hj).1 q2 ((both j hj).mp q1)⟩
      · exact Or.inr ⟨(K2.2 j hj).2 (Or.inl q2), (K1.2 j hj).2 (Or.inl q2)⟩
    · exact Or.inr ⟨(K2.2 j hj).2 (Or.inr q1), (K1.2 j hj).2 (Or.inr (fun q => q1 ((both j hj).mpr q)))⟩
  refine ⟨fun l hl => ?_, fun j hj => ?_, fun u hu => ?_, fun u h1 h2 => by rw [e15]; exact g4 u (by omega) h2⟩
  · obtain ⟨X, Y, W, H, q1, q2, q3, q4, q5, q6, q7, q8, q9⟩ := g1 l hl
    refine ⟨X, Y, W, H, by rw [o l 0 hl]; exact q1, by rw [o l 1 hl]; exact q2, by rw [o l 2 hl]; exact q3, by rw [o l 3 hl]; exact q4, q5, q6, q7, q8, fun xx yy h1 h2 => ?_⟩
    rw [← q9 xx yy h1 h2]
    rcases gc (20 * yy + xx) (by omega) with ⟨t1, -, t2, -⟩ | ⟨t1, -⟩
    · rw [t1, t2]
      constructor
      · intro q
        have := (nI_eq (by omega) (by omega)).mp q
        omega
      · intro q
        exact absurd q.symm (nI_m1 (by omega))
    · rw [t1]
  · rcases gc j hj with ⟨t1, -, t2, t3⟩ | ⟨t1, t2⟩
    · exact Or.inr (Or.inr ⟨s', by omega, t2, by rw [t3, if_pos hV]⟩)
    · rw [t1, t2]
      rcases g2 j hj with q | q | ⟨u, hu, q⟩
      · exact Or.inl q
      · exact Or.inr (Or.inl q)
      · exact Or.inr (Or.inr ⟨u, by omega, q⟩)
  · rw [e15]
    by_cases e : u = s'
    · rw [e, hV]
      exact ⟨g4 s' (Nat.le_refl _) hs', Or.inl rfl⟩
    · exact g3 u (by omega)
theorem CF_mk (C : CF hc h n n' s s') (hs : s ≤ s') (hs' : s' ≤ 12) {P : Nat → Prop} (M : MK 14 h h' (nI (100 + s')) P) : CF hc h' n n' s (s' + 1) := by
  intro c hc
  by_cases q : P c ∧ zi h 14 c = -1
  · have e := (M.2 c hc).1 q.1 q.2
    refine Or.inr ⟨?_, Or.inr ⟨s', hs, by omega, e⟩⟩
    rcases C c hc with q1 | ⟨q1, -⟩
    · rw [← q1]; exact q.2
    · exact q1
  · have e := (M.2 c hc).2 (by
      by_cases q1 : P c
      · exact Or.inr (fun q2 => q ⟨q1, q2⟩)
      · exact Or.inl q1)
    rw [e]
    rcases C c hc with q1 | ⟨q1, q2 | ⟨u, q2, q3, q4⟩⟩
    · exact Or.inl q1
    · exact Or.inr ⟨q1, Or.inl q2⟩
    · exact Or.inr ⟨q1, Or.inr ⟨u, q2, by omega, q4⟩⟩
end ZMI
