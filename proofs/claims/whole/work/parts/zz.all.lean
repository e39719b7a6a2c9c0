-- FILE 25b.mid
/-- what a drawing leaves of the class's heap -/
def DF (hc h : zH) (n : Nat) : Prop := zn hc ≤ zn h ∧ (∀ a, a < zn hc → zk h a = zk hc a) ∧ (∀ a, a < zn hc → a ≠ 9 → a ≠ 11 → a ≠ 13 → a ≠ 14 → a ≠ 16 → zi h a = zi hc a) ∧ (∀ a, a < zn hc → a ≠ 16 → a ≠ zed hc → zr h a = zr hc a) ∧ zi h 13 4 = zi hc 13 4 ∧ (∀ l, l < n → zla h l = zla hc l) ∧ (zed h = zed hc ∨ zn hc ≤ zed h) ∧ zi h 9 2 = zi hc 9 2
/-- a new lot -/
def FLt (hc h : zH) (l : Nat) : Prop := cf h l 7 = -1 ∧ cf h l 8 = -1 ∧ cf h l 10 = 0 ∧ cf h l 11 = 0 ∧ cf h l 12 = 0 ∧ cf h l 15 = 0 ∧ cf h l 16 = -1 ∧ zr h (zla h l) 9 = none ∧ zr h (zla h l) 6 = some (zbl h l) ∧ zn hc ≤ zbl h l ∧ zbl h l < zn h ∧ zk h (zbl h l) = (0, 3) ∧ zr h (zbl h l) 1 = some 7 ∧ zi h (zbl h l) 2 = 0 ∧ zn hc ≤ zla h l
def CMa (hc h : zH) (n n' : Nat) : Prop := DF hc h n ∧ LW h n' ∧ n ≤ n' ∧ (∀ l, n ≤ l → l < n' → FLt hc h l) ∧ (∀ l j, n ≤ l → l < j → j < n' → zbl h l ≠ zbl h j) ∧ zn h ≤ zn hc + 3 * (n' - n) ∧ zs h + 4 * (zk hc (zed hc)).2 ≤ zs hc + 20 * (n' - n) + 4 * (zk h (zed h)).2
/-- the class's cells since the drawing began -/
def CF (hc h : zH) (n n' s s' : Nat) : Prop := ∀ c, c < 320 → zi h 14 c = zi hc 14 c ∨ (zi hc 14 c = -1 ∧ ((∃ l, n ≤ l ∧ l < n' ∧ zi h 14 c = nI l) ∨ ∃ u, s ≤ u ∧ u < s' ∧ zi h 14 c = nI (100 + u)))
def Q4 (h h' : zH) : Prop := zn h' = zn h ∧ zs h' = zs h ∧ zk h' = zk h ∧ zr h' = zr h ∧ (∀ a, a ≠ 9 → a ≠ 11 → a ≠ 13 → a ≠ 14 → zi h' a = zi h a) ∧ zi h' 13 4 = zi h 13 4 ∧ zi h' 9 2 = zi h 9 2
section ZMI
variable {hc h h' h1 h2 : zH} {n n' s s' l j k a X Y W B x y w b N : Nat} {g v : Int32}
theorem Q4_la (A : Q4 h h') : zla h' l = zla h l := by unfold zla zed; rw [A.2.2.2.1]
theorem Q4_ed (A : Q4 h h') : zed h' = zed h := by unfold zed; rw [A.2.2.2.1]
theorem Q4_bl (A : Q4 h h') : zbl h' l = zbl h l := by unfold zbl; rw [Q4_la A, A.2.2.2.1]
theorem Q4_cs (A : Q4 h h') (H : CS h) : CS h' := by
  obtain ⟨a1, -, a3, a4, -⟩ := A
  unfold CS
  rw [a1, a3, a4]
  exact H
theorem Q4_LW (A : Q4 h h') (W : LW h n) : LW h' n := by
  obtain ⟨w1, w2, ⟨cap, w3⟩, w4, w5, w6⟩ := W
  have e1 := Q4_ed A
  obtain ⟨a1, a2, a3, a4, a5, a6⟩ := id A
  refine ⟨Q4_cs A w1, w2, ⟨cap, ?_⟩, by rw [e1]; exact w4, fun l hl => ?_, fun l j hl hj q => ?_⟩
  · rw [e1]
    have eo : ∀ y, zob h' y = zob h y := fun y => by unfold zob; rw [a1, a3]
    unfold zLi
    simp only [a1, a3, a4, a5 16 (by decide) (by decide) (by decide) (by decide), eo]
    exact w3
  · rw [Q4_la A, e1, a1, a3, a4]; exact w5 l hl
  · rw [Q4_la A, Q4_la A] at q; exact w6 l j hl hj q
theorem Q4_cf (A : Q4 h h') (W : LW h n) (hl : l < n) : cf h' l k = cf h l k := by
  have := (LW_la W hl).1
  unfold cf
  rw [Q4_la A, A.2.2.2.2.1 _ (by omega) (by omega) (by omega) (by omega)]
theorem CMa_q (C : CMa hc h n n') (A : Q4 h h') (h45 : 45 ≤ zn hc) : CMa hc h' n n' := by
  obtain ⟨⟨d1, d2, d3, d4, d5, d6, d7, d8⟩, c2, c3, c4, c5, c6, c7⟩ := C
  obtain ⟨a1, a2, a3, a4, a5, a6, a7⟩ := id A
  refine ⟨⟨by rw [a1]; exact d1, by rw [a3]; exact d2, fun a q1 q2 q3 q4 q5 q6 => by rw [a5 a q2 q3 q4 q5]; exact d3 a q1 q2 q3 q4 q5 q6, by rw [a4]; exact d4, by rw [a6]; exact d5, fun l hl => by rw [Q4_la A]; exact d6 l hl, by rw [Q4_ed A]; exact d7, by rw [a7]; exact d8⟩, Q4_LW A c2, c3, fun l h1 h2 => ?_, fun l j q1 q2 q3 => by rw [Q4_bl A, Q4_bl A]; exact c5 l j q1 q2 q3, by rw [a1]; exact c6, by rw [a2, a3, Q4_ed A]; exact c7⟩
  obtain ⟨f1, f2, f3, f4, f5, f6, f7, f8, f9, f10, f11, f12, f13, f14, f15⟩ := c4 l h1 h2
  have e := fun k => Q4_cf (k := k) A c2 h2
  unfold FLt
  rw [e, e, e, e, e, e, e, Q4_la A, Q4_bl A, a1, a3, a4, a5 (zbl h l) (by omega) (by omega) (by omega) (by omega)]
  exact ⟨f1, f2, f3, f4, f5, f6, f7, f8, f9, f10, f11, f12, f13, f14, f15⟩
theorem Q4_pc (A : PC h h') : Q4 h h' := ⟨A.1, A.2.1, A.2.2.1, A.2.2.2.1, fun a h1 h2 _ _ => A.2.2.2.2.1 a h1 h2, by rw [A.2.2.2.2.1 13 (by decide) (by decide)], A.2.2.2.2.2⟩
theorem CF_pc (C : CF hc h n n' s s') (A : PC h h') : CF hc h' n n' s s' := by
  unfold CF
  rw [A.2.2.2.2.1 14 (by decide) (by decide)]
  exact C
/-- a lot more -/
theorem CMa_al (C : CMa hc h n n') (W' : LW h' (n' + 1)) (A : AL h h' n' X Y W B g) (h45 : 45 ≤ zn hc) : CMa hc h' n (n' + 1) ∧ ∀ l k, l < n' → cf h' l k = cf h l k := by
  obtain ⟨⟨d1, d2, d3, d4, d5, d6, d7, d8⟩, c2, c3, c4, c5, c6, c7⟩ := C
  obtain ⟨a1, a2, a3, a4, a5, a6, a7, a8, a9, a10, a11, a12, a13, a14, a15, a16, a17⟩ := A
  have hed := LW_ed c2
  have ela : ∀ l, l < n' → zla h l < zn h ∧ 45 ≤ zla h l ∧ zla h l ≠ zed h := fun l hl => by
    obtain ⟨u1, u2, u3⟩ := LW_la c2 hl
    exact ⟨u2, u1, fun q => by rw [q] at u3; rw [u3] at hed; exact absurd hed.2.1 (by decide)⟩
  have ecf : ∀ l k, l < n' → cf h' l k = cf h l k := fun l k hl => by
    obtain ⟨u1, u2, u3⟩ := ela l hl
    unfold cf
    rw [a7 l hl, a5 _ u1 (by omega) (by omega)]
  have erl : ∀ l, l < n' → zr h' (zla h l) = zr h (zla h l) := fun l hl => by
    obtain ⟨u1, u2, u3⟩ := ela l hl
    exact a6 _ u1 (by omega) u3
  have ebl : ∀ l, l < n' → zbl h' l = zbl h l := fun l hl => by
    unfold zbl
    rw [a7 l hl, erl l hl]
  have ebn : zbl h' n' = zn h + 1 := by
    unfold zbl
    rw [a8, a12]
    rfl
  refine ⟨⟨⟨by omega, fun a ha => by rw [a4 a (by omega), d2 a ha], fun a q1 q2 q3 q4 q5 q6 => by rw [a5 a (by omega) q5 q6]; exact d3 a q1 q2 q3 q4 q5 q6, fun a q1 q2 q3 => ?_, by rw [a5 13 (by omega) (by decide) (by decide)]; exact d5, fun l hl => by rw [a7 l (by omega)]; exact d6 l hl, ?_, by rw [a5 9 (by omega) (by decide) (by decide)]; exact d8⟩, W', by omega, fun l h1 h2 => ?_, fun l j q1 q2 q3 => ?_, by omega, by omega⟩, ecf⟩
  · rw [a6 a (by omega) q2 (by rcases d7 with q | q <;> omega)]
    exact d4 a q1 q2 q3
  · rcases a9 with q | q
    · rw [q]; exact d7
    · exact Or.inr (by omega)
  · by_cases e : l = n'
    · subst e
      have ec : ∀ k, cf h' l k = zi h' (zn h) k := fun k => by
        unfold cf
        rw [a8]
      unfold FLt
      rw [a8, ebn]
      exact ⟨(ec 7).trans (a11 7), (ec 8).trans (a11 8), (ec 10).trans (a11 10), (ec 11).trans (a11 11), (ec 12).trans (a11 12), (ec 15).trans (a11 15), (ec 16).trans (a11 16), a13, a12, by omega, a14, a15, a16, a17, by omega⟩
    · have hl : l < n' := by omega
      obtain ⟨f1, f2, f3, f4, f5, f6, f7, f8, f9, f10, f11, f12, f13, f14, f15⟩ := c4 l h1 hl
      have n1 : zbl h l ≠ zed h := fun q => by rw [q] at f12; rw [f12] at hed; exact absurd hed.2.1 (by decide)
      unfold FLt
      rw [ecf l 7 hl, ecf l 8 hl, ecf l 10 hl, ecf l 11 hl, ecf l 12 hl, ecf l 15 hl, ecf l 16 hl, a7 l hl, erl l hl, ebl l hl, a4 _ f11, a5 _ f11 (by omega) (by omega), a6 _ f11 (by omega) n1]
      exact ⟨f1, f2, f3, f4, f5, f6, f7, f8, f9, f10, by omega, f12, f13, f14, f15⟩
  · by_cases e : j = n'
    · rw [e, ebn, ebl l (by omega)]
      have := (c4 l q1 (by omega)).2.2.2.2.2.2.2.2.2.2.1
      omega
    · rw [ebl l (by omega), ebl j (by omega)]
      exact c5 l j q1 q2 (by omega)
theorem CF_al (C : CF hc h n n' s s') (hn : n ≤ n') (hn' : n' < 1000) (hs' : s' ≤ 12) (A : AL h h' n' X Y W B g) : CF hc h' n (n' + 1) s s' := by
  obtain ⟨-, -, -, -, -, -, -, -, -, a10, -⟩ := A
  intro c hc
  by_cases q : inR X Y W B c ∧ zi h 14 c = -1
  · have e := (a10 c hc).1 q.1 q.2
    refine Or.inr ⟨?_, Or.inl ⟨n', hn, by omega, e⟩⟩
    rcases C c hc with q1 | ⟨q1, -⟩
    · rw [← q1]; exact q.2
    · exact q1
  · have e := (a10 c hc).2 (by
      by_cases q1 : inR X Y W B c
      · exact Or.inr (fun q2 => q ⟨q1, q2⟩)
      · exact Or.inl q1)
    rw [e]
    rcases C c hc with q1 | ⟨q1, ⟨l, q2, q3, q4⟩ | q2⟩
    · exact Or.inl q1
    · exact Or.inr ⟨q1, Or.inl ⟨l, q2, by omega, q4⟩⟩
    · exact Or.inr ⟨q1, Or.inr q2⟩
/-- k lots of a block are laid -/
def LY (hc h h1 : zH) (n n' s s' x y w b : Nat) (g : Int32) (k : Nat) : Prop := CMa hc h1 n (n' + k) ∧ CF hc h1 n (n' + k) s s' ∧ BK 14 (zi h 14) x y w b n' k (zi h1 14) ∧ (∀ l j, l < n' → cf h1 l j = cf h l j) ∧ (∀ i, i < k → cf h1 (n' + i) 0 = nI (x + i * w) ∧ cf h1 (n' + i) 1 = nI y ∧ cf h1 (n' + i) 2 = nI w ∧ cf h1 (n' + i) 3 = nI b ∧ cf h1 (n' + i) 4 = g ∧ cf h1 (n' + i) 5 = 0) ∧ ∀ a, a < 45 → a ≠ 14 → a ≠ 16 → zi h1 a = zi h a
theorem w23 (h45 : 45 ≤ zn hc) (hs' : s' ≤ 12) (hN : n' + N ≤ 40) (hx : x + N * w ≤ 20) (hy : y + b ≤ 16) (fr : ∀ c, c < 320 → inR x y (N * w) b c → zi h 14 c = -1) (hg : g = 0 ∨ g = 1) {l2 : Int32} : ∀ (d k : Nat) (h1 : zH), k + d = N → LY hc h h1 n n' s s' x y w b g k → ∃ h2, zev 23 85 [some (vR (some 9)), some (vR (some 13)), some (vI l2), some (vI (nI N)), some (vI g), some (vI (nI x)), some (vI (nI y)), some (vI (nI w)), some (vI (nI b)), some (vI (nI k))] [] h1 = some (none, h2) ∧ LY hc h h2 n n' s s' x y w b g N := by
  intro d
  induction d with
  | zero =>
    intro k h1 hk Ly
    have : k = N := by omega
    subst this
    exact ⟨h1, by rw [b23_85, if_neg (nI_nlt (by omega) (by omega))], Ly⟩
  | succ d ih =>
    intro k h1 hk Ly
    obtain ⟨C, F, K, o, nw, fa⟩ := Ly
    have w1 := C.2.1
    have kN := Nat.mul_le_mul_right w (show k + 1 ≤ N by omega)
    rw [Nat.succ_mul] at kN
    obtain ⟨h2, c27, w2, A⟩ := q27 (X := x + k * w) (Y := y) (W := w) (B := b) (g := g) w1 (by omega) (by omega) hy hg
    rw [b23_85, if_pos (nI_lt (by omega) (by omega)), Cv13 w1.1, show nI x + nI k * nI w = nI (x + k * w) by rw [pk_mul, nI_add], cV_k c27, nI_1]
    obtain ⟨C2, ecf⟩ := CMa_al C w2 A h45
    refine ih (k + 1) h2 (by omega) ⟨C2, CF_al (n' := n' + k) F C.2.2.1 (by omega) hs' A, BK_s K (fun c hc q => ?_) (fun c hc q => ?_), fun l j hl => by rw [ecf l j (by omega), o l j hl], fun i hi => ?_, fun a q1 q2 q3 => ?_⟩
    · refine (A.2.2.2.2.2.2.2.2.2.1 c hc).1 q ?_
      obtain ⟨r1, r2, r3, r4⟩ := q
      rcases K c hc with ⟨i, hi, ⟨t1, t2, -⟩, -⟩ | ⟨-, t2⟩
      · have := rdis t1 t2 r1 r2
        omega
      · rw [t2]
        exact fr c hc ⟨by omega, by omega, r3, r4⟩
    · exact (A.2.2.2.2.2.2.2.2.2.1 c hc).2 (Or.inl q)
    · by_cases e : i = k
      · subst e
        have ec : ∀ j, cf h2 (n' + i) j = zi h2 (zn h1) j := fun j => by
          unfold cf
          rw [A.2.2.2.2.2.2.2.1]
        have a11 := A.2.2.2.2.2.2.2.2.2.2.1
        exact ⟨(ec 0).trans (a11 0), (ec 1).trans (a11 1), (ec 2).trans (a11 2), (ec 3).trans (a11 3), (ec 4).trans (a11 4), (ec 5).trans (a11 5)⟩
      · rw [ecf _ 0 (by omega), ecf _ 1 (by omega), ecf _ 2 (by omega), ecf _ 3 (by omega), ecf _ 4 (by omega), ecf _ 5 (by omega)]
        exact nw i (by omega)
    · have := w1.1.1
      rw [A.2.2.2.2.1 a (by omega) q2 q3]
      exact fa a q1 q2 q3
/-- the ground, when lots are laid -/
theorem RG_lots {G G' V : Nat → Int32} (R0 : RG h G V n' s') (hs' : s' ≤ 12) (hn : n' + N ≤ 40) (hw : 1 ≤ w) (hb : 1 ≤ b) (hx : x + N * w ≤ 20) (hy : y + b ≤ 16) (fr : ∀ c, c < 320 → inR x y (N * w) b c → G c = -1) (K1 : BK 14 (zi h 14) x y w b n' N (zi h1 14)) (K2 : BK 22 G x y w b n' N G') (o : ∀ l j, l < n' → cf h1 l j = cf h l j) (nw : ∀ i, i < N → cf h1 (n' + i) 0 = nI (x + i * w) ∧ cf h1 (n' + i) 1 = nI y ∧ cf h1 (n' + i) 2 = nI w ∧ cf h1 (n' + i) 3 = nI b) (e15 : zi h1 15 = zi h 15) : RG h1 G' V (n' + N) s' := by
  obtain ⟨g1, g2, g3, g4⟩ := R0
  have rin : ∀ i c, i < N → inR (x + i * w) y w b c → inR x y (N * w) b c := fun i c hi q => by
    have kN := Nat.mul_le_mul_right w (show i + 1 ≤ N from hi)
    rw [Nat.succ_mul] at kN
    obtain ⟨r1, r2, r3, r4⟩ := q
    exact ⟨by omega, by omega, r3, r4⟩
  have iw : ∀ i, i < N → x + i * w + w ≤ 20 := fun i hi => by
    have kN := Nat.mul_le_mul_right w (show i + 1 ≤ N from hi)
    rw [Nat.succ_mul] at kN
    omega
  refine ⟨fun l hl => ?_, fun j hj => ?_, by rw [e15]; exact g3, by rw [e15]; exact g4⟩
  · by_cases hl' : l < n'
    · obtain ⟨X, Y, W, H, q1, q2, q3, q4, q5, q6, q7, q8, q9⟩ := g1 l hl'
      refine ⟨X, Y, W, H, by rw [o l 0 hl']; exact q1, by rw [o l 1 hl']; exact q2, by rw [o l 2 hl']; exact q3, by rw [o l 3 hl']; exact q4, q5, q6, q7, q8, fun xx yy h1 h2 => ?_⟩
      rw [← q9 xx yy h1 h2]
      rcases K2 (20 * yy + xx) (by omega) with ⟨i, hi, t1, t2⟩ | ⟨-, t2⟩
      · rw [t2, fr _ (by omega) (rin i _ hi t1)]
        constructor
        · intro q
          have := (nI_eq (by omega) (by omega)).mp q
          omega
        · intro q
          exact absurd q.symm (nI_m1 (by omega))
      · rw [t2]
    · obtain ⟨i, rfl⟩ : ∃ i, l = n' + i := ⟨l - n', by omega⟩
      have hi : i < N := by omega
      obtain ⟨q1, q2, q3, q4⟩ := nw i hi
      refine ⟨x + i * w, y, w, b, q1, q2, q3, q4, hw, hb, iw i hi, hy, fun xx yy h1 h2 => ?_⟩
      rcases K2 (20 * yy + xx) (by omega) with ⟨i2, hi2, t1, t2⟩ | ⟨t1, t2⟩
      · rw [t2]
        constructor
        · intro q
          have e := (nI_eq (by omega) (by omega)).mp q
          have e2 : i2 = i := by omega
          subst e2
          unfold inR at t1
          omega
        · intro q
          unfold inR at t1
          have e2 : i2 = i := rdis (p := xx) (by omega) (by omega) q.1 q.2.1
          rw [e2]
      · rw [t2]
        constructor
        · intro q
          rcases g2 (20 * yy + xx) (by omega) with ⟨e, -⟩ | ⟨l2, hl2, e, -⟩ | ⟨u, hu, e, -⟩
          · exact absurd (q.symm.trans e) (nI_m1 (by omega))
          · have := (nI_eq (by omega) (by omega)).mp (q.symm.trans e)
            omega
          · have := (nI_eq (by omega) (by omega)).mp (q.symm.trans e)
            omega
        · intro q
          exfalso
          refine t1 i hi ?_
          unfold inR
          omega
  · rcases K2 j hj with ⟨i2, hi2, t1, t2⟩ | ⟨t1, t2⟩
    · rcases K1 j hj with ⟨i1, hi1, r1, r2⟩ | ⟨r1, -⟩
      · have e : i1 = i2 := rdis r1.1 r1.2.1 t1.1 t1.2.1
        subst e
        exact Or.inr (Or.inl ⟨n' + i1, by omega, t2, r2⟩)
      · exact absurd t1 (r1 i2 hi2)
    · rcases K1 j hj with ⟨i1, hi1, r1, -⟩ | ⟨-, r2⟩
      · exact absurd r1 (t1 i1 hi1)
      · rw [t2, r2]
        rcases g2 j hj with q | ⟨l2, hl2, q⟩ | q
        · exact Or.inl q
        · exact Or.inr (Or.inl ⟨l2, by omega, q⟩)
        · exact Or.inr (Or.inr q)
/-- the ground, when a street is laid -/
theorem RG_street {m m' : zH} {V : Nat → Int32} (R0 : RG h (zi m 22) V n' s') (hn : n' ≤ 40) (hs' : s' < 12) (hV : V s' = 0) {P : Nat → Prop} (K1 : MK 14 h h1 (nI (100 + s')) P) (K2 : MK 22 m m' (nI (100 + s')) P) (o : ∀ l j, l < n' → cf h1 l j = cf h l j) : RG h1 (zi m' 22) V n' (s' + 1) := by
  obtain ⟨g1, g2, g3, g4⟩ := R0
  have e15 : zi h1 15 = zi h 15 := K1.1.2.2.2.2 15 (by decide)
  have both : ∀ j, j < 320 → (zi m 22 j = -1 ↔ zi h 14 j = -1) := fun j hj => by
    rcases g2 j hj with ⟨e1, e2⟩ | ⟨l, hl, e1, e2⟩ | ⟨u, hu, e1, e2⟩
    · rw [e1, e2]
    · rw [e1, e2]
    · rw [e1, e2]
      constructor
      · intro q
        exact absurd q (nI_m1 (by omega))
      · intro q
        exact absurd q (nI_m1 (by split <;> omega))
  have gc : ∀ j, j < 320 → (zi m 22 j = -1 ∧ P j ∧ zi m' 22 j = nI (100 + s') ∧ zi h1 14 j = nI (100 + s')) ∨ (zi m' 22 j = zi m 22 j ∧ zi h1 14 j = zi h 14 j) := fun j hj => by
    by_cases q1 : zi m 22 j = -1
    · by_cases q2 : P j
      · exact Or.inl ⟨q1, q2, (K2.2 j hj).1 q2 q1, (K1.2 j hj).1 q2 ((both j hj).mp q1)⟩
      · exact Or.inr ⟨(K2.2 j hj).2 (Or.inl q2), (K1.2 j hj).2 (Or.inl q2)⟩
    · exact Or.inr ⟨(K2.2 j hj).2 (Or.inr q1), (K1.2 j hj).2 (Or.inr (fun q => q1 ((both j hj).mpr q)))⟩
  refine ⟨fun l hl => ?_, fun j hj => ?_, fun u hu => ?_, fun u h1 h2 => by rw [e15]; exact g4 u (by omega) h2⟩
  · obtain ⟨X, Y, W, H, q1, q2, q3, q4, q5, q6, q7, q8, q9⟩ := g1 l hl
    refine ⟨X, Y, W, H, by rw [o l 0 hl]; exact q1, by rw [o l 1 hl]; exact q2, by rw [o l 2 hl]; exact q3, by rw [o l 3 hl]; exact q4, q5, q6, q7, q8, fun xx yy h1 h2 => ?_⟩
    rw [← q9 xx yy h1 h2]
    rcases gc (20 * yy + xx) (by omega) with ⟨t1, -, t2, -⟩ | ⟨t1, -⟩
    · rw [t1, t2]
      constructor
      · intro q
        have := (nI_eq (by omega) (by omega)).mp q
        omega
      · intro q
        exact absurd q.symm (nI_m1 (by omega))
    · rw [t1]
  · rcases gc j hj with ⟨t1, -, t2, t3⟩ | ⟨t1, t2⟩
    · exact Or.inr (Or.inr ⟨s', by omega, t2, by rw [t3, if_pos hV]⟩)
    · rw [t1, t2]
      rcases g2 j hj with q | q | ⟨u, hu, q⟩
      · exact Or.inl q
      · exact Or.inr (Or.inl q)
      · exact Or.inr (Or.inr ⟨u, by omega, q⟩)
  · rw [e15]
    by_cases e : u = s'
    · rw [e, hV]
      exact ⟨g4 s' (Nat.le_refl _) hs', Or.inl rfl⟩
    · exact g3 u (by omega)
theorem CF_mk (C : CF hc h n n' s s') (hs : s ≤ s') (hs' : s' ≤ 12) {P : Nat → Prop} (M : MK 14 h h' (nI (100 + s')) P) : CF hc h' n n' s (s' + 1) := by
  intro c hc
  by_cases q : P c ∧ zi h 14 c = -1
  · have e := (M.2 c hc).1 q.1 q.2
    refine Or.inr ⟨?_, Or.inr ⟨s', hs, by omega, e⟩⟩
    rcases C c hc with q1 | ⟨q1, -⟩
    · rw [← q1]; exact q.2
    · exact q1
  · have e := (M.2 c hc).2 (by
      by_cases q1 : P c
      · exact Or.inr (fun q2 => q ⟨q1, q2⟩)
      · exact Or.inl q1)
    rw [e]
    rcases C c hc with q1 | ⟨q1, q2 | ⟨u, q2, q3, q4⟩⟩
    · exact Or.inl q1
    · exact Or.inr ⟨q1, Or.inl q2⟩
    · exact Or.inr ⟨q1, Or.inr ⟨u, q2, by omega, q4⟩⟩
end ZMI
-- FILE 25c.order
/-- what reading leaves of the reference, whatever comes of it -/
def MM0 (hm m : zH) : Prop := MF hm m ∧ (∀ a, 20 ≤ a → a ≤ 41 → a ≠ 22 → zi m a = zi hm a) ∧ ∀ k, k ≠ 2 → k ≠ 35 → k ≠ 36 → k ≠ 37 → zi m 19 k = zi hm 19 k
def NW (h m : zH) (n n' : Nat) : Prop := ∀ l, n ≤ l → l < n' → cArea h l = 2 * zi m 43 l ∧ cf h l 4 = zi m 44 l ∧ (zi m 44 l = 0 ∨ zi m 44 l = 1)
/-- which streets are vacated, while a text is drawn -/
def VV (hm : zH) (s : Nat) (u : Nat) : Int32 := if u < s then zi hm 33 u else 0
/-- drawn so far, here and there (without the reading) -/
def DG (hc hm : zH) (n s : Nat) (h m : zH) (n' s' : Nat) : Prop := CMa hc h n n' ∧ s ≤ s' ∧ s' ≤ 12 ∧ CF hc h n n' s s' ∧ zi h 13 3 = nI s' ∧ MM0 hm m ∧ zi m 19 36 = nI n' ∧ zi m 19 37 = nI s' ∧ NW h m n n' ∧ RG h (zi m 22) (VV hm s) n' s'
/-- after a fault -/
def DX (hc hm : zH) (n s : Nat) (h m : zH) (n' s' : Nat) : Prop := CMa hc h n n' ∧ s ≤ s' ∧ s' ≤ 12 ∧ CF hc h n n' s s' ∧ MM0 hm m
section ZOR
variable {hc hm h h' h2 m m' m2 : zH} {n n' s s' T P Q F i k : Nat} {x y : Int32} {f : Nat}
theorem MM0_pm (A : MM0 hm m) (B : PM m m') : MM0 hm m' := by
  obtain ⟨⟨a1, a2, a3, a4, a5⟩, a6, a7⟩ := A
  obtain ⟨b1, b2, b3, b4, b5, b6⟩ := B
  exact ⟨⟨b1.trans a1, b2.trans a2, b3.trans a3, b4.trans a4, fun a ha => (b5 a (by omega) (by omega)).trans (a5 a ha)⟩, fun a h1 h2 h3 => (b5 a (by omega) (by omega)).trans (a6 a h1 h2 h3), fun k h1 h2 h3 h4 => (b6 k h1 h2).trans (a7 k h1 h2 h3 h4)⟩
theorem MM0_u (A : MM0 hm m) {a : Nat} (ha : a = 22 ∨ (42 ≤ a ∧ a ≤ 44) ∨ (a = 19 ∧ (k = 2 ∨ k = 35 ∨ k = 36 ∨ k = 37))) : MM0 hm (zui m a k x) := by
  obtain ⟨a5, a6, a7⟩ := A
  refine ⟨MF_u a5 (by omega) (by omega), fun b h1 h2 h3 => ?_, fun j h1 h2 h3 h4 => ?_⟩
  · rw [zi_f (by omega)]; exact a6 b h1 h2 h3
  · rw [zi_ui, if_neg (by omega)]; exact a7 j h1 h2 h3 h4
theorem MM0_f (A : MM0 hm m) (B : F1 22 m m') : MM0 hm m' := by
  obtain ⟨⟨a1, a2, a3, a4, a5⟩, a6, a7⟩ := A
  obtain ⟨b1, b2, b3, b4, b5⟩ := B
  exact ⟨⟨b1.trans a1, b2.trans a2, b3.trans a3, b4.trans a4, fun a ha => (b5 a (by omega)).trans (a5 a ha)⟩, fun a h1 h2 h3 => (b5 a h3).trans (a6 a h1 h2 h3), fun k h1 h2 h3 h4 => by rw [b5 19 (by decide)]; exact a7 k h1 h2 h3 h4⟩
theorem RG_pc {G V : Nat → Int32} (A : RG h G V n' s') (W : LW h n') (B : PC h h') : RG h' G V n' s' := RG_cg A (fun l k hl _ => Q4_cf (Q4_pc B) W hl) (B.2.2.2.2.1 14 (by decide) (by decide)) (B.2.2.2.2.1 15 (by decide) (by decide))
theorem DG_pc (D : DG hc hm n s h m n' s') (h45 : 45 ≤ zn hc) (A : PC h h') (B : PM m m') : DG hc hm n s h' m' n' s' := by
  obtain ⟨d1, d2, d3, d4, d5, d6, d7, d8, d9, d10⟩ := D
  refine ⟨CMa_q d1 (Q4_pc A) h45, d2, d3, CF_pc d4 A, by rw [A.2.2.2.2.1 13 (by decide) (by decide)]; exact d5, MM0_pm d6 B, by rw [B.2.2.2.2.2 36 (by decide) (by decide)]; exact d7, by rw [B.2.2.2.2.2 37 (by decide) (by decide)]; exact d8, fun l h1 h2 => ?_, ?_⟩
  · have e := fun k => Q4_cf (k := k) (Q4_pc A) d1.2.1 h2
    rw [cA_cg e, e 4, B.2.2.2.2.1 43 (by decide) (by decide), B.2.2.2.2.1 44 (by decide) (by decide)]
    exact d9 l h1 h2
  · rw [B.2.2.2.2.1 22 (by decide) (by decide)]
    exact RG_pc d10 d1.2.1 A
theorem DX_of (D : DG hc hm n s h m n' s') : DX hc hm n s h m n' s' := ⟨D.1, D.2.1, D.2.2.1, D.2.2.2.1, D.2.2.2.2.2.1⟩
theorem DX_pc (D : DX hc hm n s h m n' s') (h45 : 45 ≤ zn hc) (A : PC h h') (B : PM m m') : DX hc hm n s h' m' n' s' := ⟨CMa_q D.1 (Q4_pc A) h45, D.2.1, D.2.2.1, CF_pc D.2.2.2.1 A, MM0_pm D.2.2.2.2 B⟩
theorem Cn {f : Int32 → Option (Option zV × zH)} (H : CS h) (hx : x = nI k) (hk : k < 5) : zaI h (some 11) x f = f (zi h 11 k) := by
  rw [hx]
  exact Ca11 H hk
theorem Mn {f : Int32 → Option (Option zV × zH)} (H : MS m) (hx : x = nI k) (hk : k < 5) : zaI m (some 42) x f = f (zi m 42 k) := by
  rw [hx]
  exact Ma_numbers H hk
/-- what comes of an order: it is drawn, or a fault is told -/
def OUT (hc hm : zH) (n s T P : Nat) (ec : Option (Option zV × zH)) (em : Option (Option zV × zH)) : Prop := (∃ Q n' s' h' m', ec = some (none, h') ∧ em = some (some (vI 0), m') ∧ SS h' m' T Q ∧ DG hc hm n s h' m' n' s' ∧ P < Q) ∨ ∃ f n' s' h' m', ec = some (none, h') ∧ em = some (some (vI (nI f)), m') ∧ FT h' m' f ∧ DX hc hm n s h' m' n' s'
/-- a fault, and the order ends -/
theorem o_bad (h45 : 45 ≤ zn hc) (H : CS h) (D : DX hc hm n s h m n' s') (F : FT h m f) {em : Option (Option zV × zH)} {z : Int32} (e : em = some (some (vI (nI f)), m)) : OUT hc hm n s T P (zev 18 137 [some (vR (some 9)), some (vR (some 13)), some (vI z)] [] h) em := by
  refine Or.inr ⟨f, n', s', h, m, ?_, e, F, D⟩
  obtain ⟨f1, f2, f3, f4⟩ := F
  rw [b18_137, Ci9_4 H, f3, if_neg (nI_ne0 (by omega) (by omega))]
theorem o_fail (h45 : 45 ≤ zn hc) (S : SS h m T Q) (D : DX hc hm n s h m n' s') (hf1 : 1 ≤ f) (hf2 : f ≤ 4) (F : Nat) {z : Int32} : OUT hc hm n s T P (zcV 20 [vR (some 9), vI (nI f), vI (nI F)] h fun h9 => zev 18 137 [some (vR (some 9)), some (vR (some 13)), some (vI z)] [] h9) (zcI 118 [vR (some 19), vI (nI f), vI (nI F)] m fun x7 h6 => some (some (vI x7), h6)) := by
  rw [cV_k (q20 S.1), cI_k (q118 S.2.1)]
  exact o_bad h45 (show CS (zui (zui h 9 4 (nI f)) 9 3 (nI F)) from S.1) (DX_pc D h45 PC_f (PM_19 (Or.inl rfl))) (FT_mk hf1 hf2) rfl
/-- behind an order: a blank, or the end -/
theorem o_tail (h45 : 45 ≤ zn hc) (S : SS h m T Q) (D : DG hc hm n s h m n' s') (hP : P < Q) {z l1 l2 l3 l4 l5 l6 : Int32} : OUT hc hm n s T P (zev 18 137 [some (vR (some 9)), some (vR (some 13)), some (vI z)] [] h) (zev 117 254 [some (vR (some 19)), some (vI l1), some (vI l2), some (vI l3), some (vI l4), some (vI l5), some (vI l6)] [] m) := by
  obtain ⟨s1, s2, s3, s4, s5, s6, s7, s8, s9, s10, s11, s12⟩ := id S
  rw [b18_137, Ci9_4 s1, s10, if_pos rfl, Ci9_5 s1, Ci9_2 s1, s8, s5, b117_254, Mi_at s2, Mi_texted s2, s9, s6]
  by_cases g : Q < T
  · have h17 := q17 (i := Q) S (by omega)
    rw [if_pos g] at h17
    rw [if_pos (nI_lt g (by omega)), if_pos (nI_lt g (by omega)), Ci9_5 s1, s8, Cv9 s1, cI_k h17, Mr_text s2, Mi_at s2, s9, Ma_text s2 (by omega)]
    by_cases g2 : zi m 20 Q = 32
    · rw [if_pos g2, if_pos g2]
      exact Or.inl ⟨Q, n', s', h, m, rfl, rfl, S, D, hP⟩
    · rw [if_neg g2, if_neg g2, Ci9_5 s1, s8, Cv9 s1, Mi_at s2, s9, M_v s2]
      refine Or.inr ⟨1, n', s', _, _, ?_, ?_, FT_mk (h := h) (m := m) (f := 1) (x := nI Q) (by omega) (by omega), DX_pc (DX_of D) h45 PC_f (PM_19 (Or.inl rfl))⟩
      · rw [cV_k (q20 s1)]
        rfl
      · rw [cI_k (q118 s2)]
        rfl
  · rw [if_neg (nI_nlt (by omega) (by omega)), if_neg (nI_nlt (by omega) (by omega))]
    exact Or.inl ⟨Q, n', s', h, m, rfl, rfl, S, D, hP⟩
/-- the new lots are told in the reference -/
theorem w117 (S2 : MS m) {N w b L : Nat} (hL : L + N ≤ 40) (e2 : zi m 42 2 = nI w) (e3 : zi m 42 3 = nI b) (eL : zi m 19 36 = nI L) {l1 l2 l3 l5 : Int32} (h115 : ¬ l2 = 115) : ∀ (d k : Nat) (m1 : zH), k + d = N → MS m1 → zi m1 42 = zi m 42 → zi m1 19 36 = nI (L + k) → MM0 hm m1 → (∀ j, j ≠ 36 → zi m1 19 j = zi m 19 j) → (∀ a, a ≠ 19 → a ≠ 43 → a ≠ 44 → zi m1 a = zi m a) → (∀ l, zi m1 43 l = if L ≤ l ∧ l < L + k then nI (w * b) else zi m 43 l) → (∀ l, zi m1 44 l = if L ≤ l ∧ l < L + k then (if l2 = 103 then 1 else 0) else zi m 44 l) → ∃ m2, zev 117 183 [some (vR (some 19)), some (vI l1), some (vI l2), some (vI l3), some (vI (nI N)), some (vI l5), some (vI (nI k))] [] m1 = zev 117 254 [some (vR (some 19)), some (vI l1), some (vI l2), some (vI l3), some (vI (nI N)), some (vI l5), some (vI (nI N))] [] m2 ∧ MS m2 ∧ zi m2 19 36 = nI (L + N) ∧ MM0 hm m2 ∧ (∀ j, j ≠ 36 → zi m2 19 j = zi m 19 j) ∧ (∀ a, a ≠ 19 → a ≠ 43 → a ≠ 44 → zi m2 a = zi m a) ∧ (∀ l, zi m2 43 l = if L ≤ l ∧ l < L + N then nI (w * b) else zi m 43 l) ∧ ∀ l, zi m2 44 l = if L ≤ l ∧ l < L + N then (if l2 = 103 then 1 else 0) else zi m 44 l := by
  intro d
  induction d with
  | zero =>
    intro k m1 hk c1 c2 c3 c4 c5 c6 c7 c8
    have : k = N := by omega
    subst this
    refine ⟨m1, ?_, c1, c3, c4, c5, c6, c7, c8⟩
    rw [b117_183, if_neg (nI_nlt (by omega) (by omega))]
  | succ d ih =>
    intro k m1 hk c1 c2 c3 c4 c5 c6 c7 c8
    have M1 : MS (zui m1 43 (L + k) (nI (w * b))) := c1
    have em : nI w * nI b = nI (w * b) := pk_mul w b
    have gen : ∀ z : Int32, (z = if l2 = 103 then 1 else 0) → zev 117 183 [some (vR (some 19)), some (vI l1), some (vI l2), some (vI l3), some (vI (nI N)), some (vI l5), some (vI (nI k))] [] m1 = zev 117 183 [some (vR (some 19)), some (vI l1), some (vI l2), some (vI l3), some (vI (nI N)), some (vI l5), some (vI (nI (k + 1)))] [] (zui (zui (zui m1 43 (L + k) (nI (w * b))) 44 (L + k) z) 19 36 (nI (L + (k + 1)))) → ∃ m2, zev 117 183 [some (vR (some 19)), some (vI l1), some (vI l2), some (vI l3), some (vI (nI N)), some (vI l5), some (vI (nI k))] [] m1 = zev 117 254 [some (vR (some 19)), some (vI l1), some (vI l2), some (vI l3), some (vI (nI N)), some (vI l5), some (vI (nI N))] [] m2 ∧ MS m2 ∧ zi m2 19 36 = nI (L + N) ∧ MM0 hm m2 ∧ (∀ j, j ≠ 36 → zi m2 19 j = zi m 19 j) ∧ (∀ a, a ≠ 19 → a ≠ 43 → a ≠ 44 → zi m2 a = zi m a) ∧ (∀ l, zi m2 43 l = if L ≤ l ∧ l < L + N then nI (w * b) else zi m 43 l) ∧ ∀ l, zi m2 44 l = if L ≤ l ∧ l < L + N then (if l2 = 103 then 1 else 0) else zi m 44 l := by
      intro z hz e
      rw [e]
      refine ih (k + 1) _ (by omega) c1 (by rw [zi_f (by decide), zi_f (by decide), zi_f (by decide)]; exact c2) zi_us (MM0_u (MM0_u (MM0_u c4 (by omega)) (by omega)) (by omega)) (fun j hj => by rw [zi_uk hj, zi_ua (by decide), zi_ua (by decide)]; exact c5 j hj) (fun a q1 q2 q3 => by rw [zi_f (Ne.symm q1), zi_f (Ne.symm q3), zi_f (Ne.symm q2)]; exact c6 a q1 q2 q3) (fun l => ?_) (fun l => ?_)
      · rw [zi_ua (by decide), zi_ua (by decide), zi_ui, c7 l]
        by_cases q : l = L + k
        · rw [if_pos ⟨rfl, q⟩, if_pos (show L ≤ l ∧ l < L + (k + 1) by omega)]
        · rw [if_neg (fun q2 => q q2.2)]
          by_cases q2 : L ≤ l ∧ l < L + k
          · rw [if_pos q2, if_pos (show L ≤ l ∧ l < L + (k + 1) by omega)]
          · rw [if_neg q2, if_neg (show ¬ (L ≤ l ∧ l < L + (k + 1)) by omega)]
      · rw [zi_ua (by decide), zi_ui, zi_ua (by decide), c8 l]
        by_cases q : l = L + k
        · rw [if_pos ⟨rfl, q⟩, if_pos (show L ≤ l ∧ l < L + (k + 1) by omega), hz]
        · rw [if_neg (fun q2 => q q2.2)]
          by_cases q2 : L ≤ l ∧ l < L + k
          · rw [if_pos q2, if_pos (show L ≤ l ∧ l < L + (k + 1) by omega)]
          · rw [if_neg q2, if_neg (show ¬ (L ≤ l ∧ l < L + (k + 1)) by omega)]
    have E := b117_183 (some 19) l1 l2 l3 (nI N) l5 (nI k) m1
    rw [if_pos (nI_lt (by omega) (by omega)), if_neg h115, Mr_newCells c1, Mi_newLots c1, c3, Mr_numbers c1, Mn (x := 2) (k := 2) c1 rfl (by decide), c2, e2, Mr_numbers c1, Mn (x := 3) (k := 3) c1 rfl (by decide), c2, e3, em, Mt_newCells c1 (by omega), Mr_newGift M1, Mi_newLots M1, zi_ua (by decide), c3, Mt_newGift M1 (by omega) (Or.inr rfl), Mt_newGift M1 (by omega) (Or.inl rfl), nI_1] at E
    by_cases g : l2 = 103
    · have M2 : MS (zui (zui m1 43 (L + k) (nI (w * b))) 44 (L + k) 1) := c1
      rw [if_pos g, Mi_newLots M2, zi_ua (by decide), zi_ua (by decide), c3, Mp_newLots M2, nI_1] at E
      exact gen 1 (by rw [if_pos g]) E
    · have M2 : MS (zui (zui m1 43 (L + k) (nI (w * b))) 44 (L + k) 0) := c1
      rw [if_neg g, Mi_newLots M2, zi_ua (by decide), zi_ua (by decide), c3, Mp_newLots M2, nI_1] at E
      exact gen 0 (by rw [if_neg g]) E
end ZOR
-- FILE 25d.order
section ZOS
variable {hc hm h h' h2 m m' m2 : zH} {n n' s s' T P Q F i k : Nat} {x y : Int32} {f : Nat}
theorem okc_0 {z : Int32} : okc 0 z ↔ z = -1 := ⟨fun q => q.elim id (fun q => absurd rfl q.1), Or.inl⟩
/-- free here, free there -/
theorem free_eq {G V : Nat → Int32} (R0 : RG h G V n' s') (hn : n' ≤ 40) (hs : s' ≤ 12) {c : Nat} (hc : c < 320) : (zi h 14 c = -1 ↔ G c = -1) ∧ (okc 1 (zi h 14 c) ↔ okc 1 (G c)) := by
  rcases R0.2.1 c hc with ⟨e1, e2⟩ | ⟨l, hl, e1, e2⟩ | ⟨u, hu, e1, e2⟩
  · rw [e1, e2]
    exact ⟨Iff.rfl, Iff.rfl⟩
  · rw [e1, e2]
    exact ⟨Iff.rfl, Iff.rfl⟩
  · rw [e1, e2]
    have h1 : ¬ nI (100 + u) < (100 : Int32) := nI_nlt (a := 100 + u) (b := 100) (by omega) (by omega)
    refine ⟨⟨fun q => absurd q (nI_m1 (by split <;> omega)), fun q => absurd q (nI_m1 (by omega))⟩, ⟨fun _ => Or.inr ⟨by decide, h1⟩, fun _ => Or.inr ⟨by decide, ?_⟩⟩⟩
    split
    · exact h1
    · exact nI_nlt (a := 200 + u) (b := 100) (by omega) (by omega)
theorem o_f2 (h45 : 45 ≤ zn hc) (S : SS h m T Q) (D : DG hc hm n s h m n' s') (A : F1 22 m m2) (hf1 : 1 ≤ f) (hf2 : f ≤ 4) {z : Int32} : OUT hc hm n s T P (zev 18 137 [some (vR (some 9)), some (vR (some 13)), some (vI z)] [] (zui (zui h 9 4 (nI f)) 9 3 (nI F))) (some (some (vI (nI f)), zui m2 19 2 (nI F))) := by
  have D1 := DX_of D
  exact o_bad h45 (show CS (zui (zui h 9 4 (nI f)) 9 3 (nI F)) from S.1) ⟨CMa_q D1.1 (Q4_pc PC_f) h45, D1.2.1, D1.2.2.1, CF_pc D1.2.2.2.1 PC_f, MM0_u (MM0_f D1.2.2.2.2 A) (by omega)⟩ (FT_mk hf1 hf2) rfl
/-- a block, or a gift -/
theorem o_block (h45 : 45 ≤ zn hc) (S : SS h m T Q) (D : DG hc hm n s h m n' s') (hP : P < Q) {X Y W B N : Nat} (hX : X ≤ 19) (hY : Y ≤ 15) (hW : 1 ≤ W ∧ W ≤ 9) (hB : 1 ≤ B ∧ B ≤ 9) (hN : 1 ≤ N ∧ N ≤ 9) (a0 : zi h 11 0 = nI X ∧ zi m 42 0 = nI X) (a1 : zi h 11 1 = nI Y ∧ zi m 42 1 = nI Y) (a2 : zi h 11 2 = nI W ∧ zi m 42 2 = nI W) (a3 : zi h 11 3 = nI B ∧ zi m 42 3 = nI B) {l2 l3 g : Int32} {u5 u6 : Option zV} (h115 : ¬ l2 = 115) (hg : g = if l2 = 103 then 1 else 0) : OUT hc hm n s T P (zcV 23 [vR (some 9), vR (some 13), vI (nI P), vI (nI N), vI g] h fun h5 => zev 18 137 [some (vR (some 9)), some (vR (some 13)), some (vI (nI P))] [] h5) (zcI 123 [vR (some 19), vI (nI N)] m fun x8 h7 => zev 117 113 [some (vR (some 19)), some (vI (nI P)), some (vI l2), some (vI l3), some (vI (nI N)), u5, u6] [vI x8] h7) := by
  obtain ⟨s1, s2, s3, s4, s5, s6, s7, s8, s9, s10, s11, s12⟩ := id S
  obtain ⟨d1, d2, d3, d4, d5, d6, d7, d8, d9, d10⟩ := id D
  have w := d1.2.1
  have hn40 := w.2.1
  have hg' : g = 0 ∨ g = 1 := by
    rw [hg]
    split
    · exact Or.inr rfl
    · exact Or.inl rfl
  have NW9 : N * W ≤ 81 := Nat.le_trans (Nat.mul_le_mul hN.2 hW.2) (by decide)
  have E123 : zcall 123 [vR (some 19), vI (nI N)] m = zev 123 4 [some (vR (some 19)), some (vI (nI N)), some (vI 1), some (vI (nI 0))] [] m := by rw [e123, nI_0]
  have FRB : FR h X Y (N * W) B 0 ↔ FB m X Y W B N := by
    unfold FR FB
    exact and_congr Iff.rfl (and_congr Iff.rfl ⟨fun q c hc r => ((free_eq d10 hn40 d3 hc).1).mp (okc_0.mp (q c hc r)), fun q c hc r => okc_0.mpr (((free_eq d10 hn40 d3 hc).1).mpr (q c hc r))⟩)
  have E := e23 (some 9) (some 13) (nI P) (nI N) g h
  rw [Cr9_1 s1, Cn (x := 0) (k := 0) s1 rfl (by decide), a0.1, Cr9_1 s1, Cn (x := 1) (k := 1) s1 rfl (by decide), a1.1, Cr9_1 s1, Cn (x := 2) (k := 2) s1 rfl (by decide), a2.1, Cr9_1 s1, Cn (x := 3) (k := 3) s1 rfl (by decide), a3.1, Cv13 s1, pk_mul] at E
  have Mx := w123 (N := N) s2 a0.2 a1.2 a2.2 a3.2 d7 (by omega) (by omega) (by omega) (by omega) hW.1 hB.1 (by omega) hN.1 hn40 N 0 m (by omega) F1_rfl (fun c hc => Or.inr ⟨fun i hi => absurd hi (by omega), rfl⟩) (fun i hi => absurd hi (by omega))
  rw [← E123] at Mx
  rcases q24 (x := X) (y := Y) (w := N * W) (b := B) (cr := 0) s1 (by omega) (by omega) (by omega) (by omega) with ⟨q1, q2⟩ | ⟨q1, q2⟩
  · rw [cI_k q1, if_neg (by decide), Cr13_2 s1, Lv16 w, Lsz w, nI_add] at E
    rcases Mx with ⟨m2, f1, f2, f3, f4⟩ | ⟨m2, f1, f2, f3⟩
    · have M2 := F1_ms f2 s2
      have z19 : zi m2 19 = zi m 19 := f2.2.2.2.2 19 (by decide)
      rw [cI_k f1, b117_113, if_neg (by decide), if_neg h115, Mi_newLots M2, z19, d7, nI_add]
      by_cases g1 : n' + N ≤ 40
      · have g1' : ¬ (40 : Int32) < nI (n' + N) := nI_nlt (a := 40) (b := n' + N) g1 (by decide)
        rw [if_neg g1'] at E ⊢
        have fr : ∀ c, c < 320 → inR X Y (N * W) B c → zi h 14 c = -1 := fun c hc r => okc_0.mp (q2.2.2 c hc r)
        obtain ⟨h5, y1, Ly⟩ := w23 (l2 := nI P) (n := n) (s := s) (hc := hc) h45 d3 g1 q2.1 q2.2.1 fr hg' N 0 h (by omega) ⟨d1, d4, fun c hc => Or.inr ⟨fun i hi => absurd hi (by omega), rfl⟩, fun _ _ _ => rfl, fun i hi => absurd hi (by omega), fun _ _ _ _ => rfl⟩
        rw [nI_0] at y1
        rw [y1] at E
        obtain ⟨L1, L2, L3, L4, L5, L6⟩ := Ly
        obtain ⟨m3, v1, v2, v3, v4, v5, v6, v7, v8⟩ := w117 (hm := hm) (m := m2) (l1 := nI P) (l2 := l2) (l3 := l3) (l5 := 1) M2 g1 (by rw [f2.2.2.2.2 42 (by decide)]; exact a2.2) (by rw [f2.2.2.2.2 42 (by decide)]; exact a3.2) (by rw [z19]; exact d7) h115 N 0 m2 (by omega) M2 rfl (by rw [z19]; exact d7) (MM0_f d6 f2) (fun _ _ => rfl) (fun _ _ _ _ => rfl) (fun l => by rw [if_neg (by omega)]) (fun l => by rw [if_neg (by omega)])
        rw [nI_0] at v1
        rw [cV_k E, b117_164, if_neg h115, v1]
        refine o_tail h45 (n' := n' + N) (s' := s') (Q := Q) ⟨L1.2.1.1, v2, s3, s4, by rw [L6 9 (by decide) (by decide) (by decide)]; exact s5, by rw [v5 1 (by decide), z19]; exact s6, fun i hi => by rw [v6 20 (by decide) (by decide) (by decide), f2.2.2.2.2 20 (by decide), L6 10 (by decide) (by decide) (by decide)]; exact s7 i hi, by rw [L6 9 (by decide) (by decide) (by decide)]; exact s8, by rw [v5 35 (by decide), z19]; exact s9, by rw [L6 9 (by decide) (by decide) (by decide)]; exact s10, by rw [L6 9 (by decide) (by decide) (by decide)]; exact s11, by rw [v5 2 (by decide), z19]; exact s12⟩ ⟨L1, d2, d3, L2, by rw [L6 13 (by decide) (by decide) (by decide)]; exact d5, v4, v3, by rw [v5 37 (by decide), z19]; exact d8, fun l h1 h2 => ?_, ?_⟩ hP
        · rw [v7 l, v8 l]
          by_cases e : l < n'
          · rw [if_neg (by omega), if_neg (by omega), f2.2.2.2.2 43 (by decide), f2.2.2.2.2 44 (by decide), cA_cg (fun k => L4 l k e), L4 l 4 e]
            exact d9 l h1 e
          · obtain ⟨i, rfl⟩ : ∃ i, l = n' + i := ⟨l - n', by omega⟩
            obtain ⟨t1, t2, t3, t4, t5, t6⟩ := L5 i (by omega)
            rw [if_pos (by omega), if_pos (by omega), t5]
            refine ⟨?_, hg, by rw [← hg]; exact hg'⟩
            show 2 * cf h5 (n' + i) 2 * cf h5 (n' + i) 3 + cf h5 (n' + i) 5 = _
            rw [t3, t4, t6, Int32.mul_assoc, pk_mul, Int32.add_zero]
        · rw [v6 22 (by decide) (by decide) (by decide)]
          exact RG_lots d10 d3 g1 hW.1 hB.1 q2.1 q2.2.1 f4.2.2 L3 f3 L4 (fun i hi => ⟨(L5 i hi).1, (L5 i hi).2.1, (L5 i hi).2.2.1, (L5 i hi).2.2.2.1⟩) (L6 15 (by decide) (by decide) (by decide))
      · have g1' : (40 : Int32) < nI (n' + N) := nI_lt (a := 40) (b := n' + N) (by omega) (by omega)
        rw [if_pos g1', Cv9 s1, cV_k (q20 s1)] at E
        rw [if_pos g1', cV_k E, M_v M2, cI_k (q118 M2)]
        exact o_f2 (f := 4) h45 S D f2 (by omega) (by omega)
    · exact absurd (FRB.mp q2) f3
  · rw [cI_k q1, if_pos rfl, Cv9 s1, cV_k (q20 s1)] at E
    rcases Mx with ⟨m2, f1, f2, f3, f4⟩ | ⟨m2, f1, f2, f3⟩
    · exact absurd (FRB.mpr f4) q2
    · have M2 := F1_ms f2 s2
      rw [cI_k f1, b117_113, if_pos rfl, cV_k E, M_v M2, cI_k (q118 M2)]
      exact o_f2 (f := 3) h45 S D f2 (by omega) (by omega)
/-- a street -/
theorem o_street (h45 : 45 ≤ zn hc) (S : SS h m T Q) (D : DG hc hm n s h m n' s') (hP : P < Q) {X Y d N : Nat} (hX : X ≤ 19) (hY : Y ≤ 15) (hd : d ≤ 1) (hN : 1 ≤ N ∧ N ≤ 20) (a0 : zi h 11 0 = nI X ∧ zi m 42 0 = nI X) (a1 : zi h 11 1 = nI Y ∧ zi m 42 1 = nI Y) (a2 : zi h 11 2 = nI d ∧ zi m 42 2 = nI d) (a3 : zi h 11 3 = nI N ∧ zi m 42 3 = nI N) {l3 : Int32} {u5 u6 : Option zV} : OUT hc hm n s T P (zcV 40 [vR (some 9), vR (some 13), vI (nI P)] h fun h5 => zev 18 137 [some (vR (some 9)), some (vR (some 13)), some (vI (nI P))] [] h5) (zcI 122 [vR (some 19)] m fun x8 h7 => zev 117 113 [some (vR (some 19)), some (vI (nI P)), some (vI 115), some (vI l3), some (vI 1), u5, u6] [vI x8] h7) := by
  obtain ⟨s1, s2, s3, s4, s5, s6, s7, s8, s9, s10, s11, s12⟩ := id S
  obtain ⟨d1, d2, d3, d4, d5, d6, d7, d8, d9, d10⟩ := id D
  have w := d1.2.1
  have hn40 := w.2.1
  obtain ⟨WW, BB, sx, sy, hsz, hW⟩ : ∃ WW BB sx sy : Nat, ((d = 0 ∧ WW = N ∧ BB = 1 ∧ sx = 1 ∧ sy = 0) ∨ (d = 1 ∧ WW = 1 ∧ BB = N ∧ sx = 0 ∧ sy = 1)) ∧ WW ≤ 20 := by
    rcases (show d = 0 ∨ d = 1 by omega) with q | q
    · exact ⟨N, 1, 1, 0, Or.inl ⟨q, rfl, rfl, rfl, rfl⟩, hN.2⟩
    · exact ⟨1, N, 0, 1, Or.inr ⟨q, rfl, rfl, rfl, rfl⟩, by omega⟩
  have hB : BB ≤ 20 := by omega
  have E : zcall 40 [vR (some 9), vR (some 13), vI (nI P)] h = (zcI 24 [vR (some 13), vI (nI X), vI (nI Y), vI (nI WW), vI (nI BB), vI 1] h fun x2 h1 => (if x2 = 0 then (zvr h1 (some 9) 6 (zcV 20 [vR (some 9), vI 3, vI (nI P)] h1 fun h3 => some (none, h3))) else (zgI h1 (some 13) 5 3 fun x4 => (if x4 < 12 then (zvr h1 (some 13) 5 (zcV 41 [vR (some 13), vI (nI X), vI (nI Y), vI (nI WW), vI (nI BB)] h1 fun h5 => some (none, h5))) else (zvr h1 (some 9) 6 (zcV 20 [vR (some 9), vI 4, vI (nI P)] h1 fun h6 => some (none, h6))))))) := by
    have n3 : ∀ (f : Int32 → Option (Option zV × zH)), zaI h (some 11) 3 f = f (nI N) := fun f => by rw [Cn (x := 3) (k := 3) s1 rfl (by decide), a3.1]
    have n2 : ∀ (f : Int32 → Option (Option zV × zH)), zaI h (some 11) 2 f = f (nI d) := fun f => by rw [Cn (x := 2) (k := 2) s1 rfl (by decide), a2.1]
    rw [e40, Cr9_1 s1, Cn (x := 0) (k := 0) s1 rfl (by decide), a0.1, Cr9_1 s1, Cn (x := 1) (k := 1) s1 rfl (by decide), a1.1, Cr9_1 s1, n2]
    rcases hsz with ⟨q, q1, q2, -, -⟩ | ⟨q, q1, q2, -, -⟩
    · subst q q1 q2
      rw [if_pos (by decide), Cr9_1 s1, n3, Cr9_1 s1, n2, if_pos (by decide), b40_55, Cv13 s1]
      rfl
    · subst q q1 q2
      rw [if_neg (by decide), Cr9_1 s1, n2, if_neg (by decide), Cr9_1 s1, n3, b40_55, Cv13 s1]
      rfl
  have E122 : zcall 122 [vR (some 19)] m = zev 122 4 [some (vR (some 19)), some (vI 1), some (vI (nI 0)), none, none] [] m := by rw [e122, nI_0]
  have Mx := w122 (N := N) (x := X) (y := Y) (s := s') (sx := sx) (sy := sy) s2 (by
    rcases hsz with ⟨q, -, -, q1, q2⟩ | ⟨q, -, -, q1, q2⟩
    · exact Or.inl ⟨q1, q2, by rw [a2.2, q]⟩
    · exact Or.inr ⟨q1, q2, by rw [a2.2, q]⟩) a0.2 a1.2 a3.2 d8 (by omega) (by omega) hN.2 d3 N 0 m none none (by omega) (MK_0 (fun c hc q => by obtain ⟨i, hi, -⟩ := q; omega)) (fun i hi => absurd hi (by omega))
  rw [← E122] at Mx
  -- the same cells
  have cells : ∀ c, c < 320 → ((∃ i, i < N ∧ c % 20 = X + sx * i ∧ c / 20 = Y + sy * i) ↔ inR X Y WW BB c) := fun c hc => by
    unfold inR
    rcases hsz with ⟨-, q1, q2, q3, q4⟩ | ⟨-, q1, q2, q3, q4⟩
    · subst q1 q2 q3 q4
      constructor
      · rintro ⟨i, hi, r1, r2⟩
        omega
      · intro q
        exact ⟨c % 20 - X, by omega, by omega, by omega⟩
    · subst q1 q2 q3 q4
      constructor
      · rintro ⟨i, hi, r1, r2⟩
        omega
      · intro q
        exact ⟨c / 20 - Y, by omega, by omega, by omega⟩
  have FRS : FR h X Y WW BB 1 ↔ ∀ i, i < N → X + sx * i < 20 ∧ Y + sy * i < 16 ∧ okc 1 (zi m 22 (20 * (Y + sy * i) + (X + sx * i))) := by
    constructor
    · rintro ⟨r1, r2, r3⟩ i hi
      have b1 : X + sx * i < 20 := by
        rcases hsz with ⟨-, q1, q2, q3, q4⟩ | ⟨-, q1, q2, q3, q4⟩ <;> subst q1 q2 q3 q4 <;> omega
      have b2 : Y + sy * i < 16 := by
        rcases hsz with ⟨-, q1, q2, q3, q4⟩ | ⟨-, q1, q2, q3, q4⟩ <;> subst q1 q2 q3 q4 <;> omega
      refine ⟨b1, b2, ((free_eq d10 hn40 d3 (by omega)).2).mp (r3 _ (by omega) ((cells _ (by omega)).mp ⟨i, hi, by omega, by omega⟩))⟩
    · intro q
      have e1 : X + WW ≤ 20 ∧ Y + BB ≤ 16 := by
        have := q (N - 1) (by omega)
        rcases hsz with ⟨-, q1, q2, q3, q4⟩ | ⟨-, q1, q2, q3, q4⟩ <;> subst q1 q2 q3 q4 <;> omega
      refine ⟨e1.1, e1.2, fun c hc r => ?_⟩
      obtain ⟨i, hi, t1, t2⟩ := (cells c hc).mpr r
      have := (q i hi).2.2
      rw [← t1, ← t2, show 20 * (c / 20) + c % 20 = c by omega] at this
      exact ((free_eq d10 hn40 d3 hc).2).mpr this
  rcases q24 (x := X) (y := Y) (w := WW) (b := BB) (cr := 1) s1 (by omega) (by omega) (by omega) (by omega) with ⟨q1, q2⟩ | ⟨q1, q2⟩
  · rw [cI_k q1, if_neg (by decide), Ci13_3 s1, d5] at E
    rcases Mx with ⟨m2, f1, f2, f3⟩ | ⟨m2, f1, f2, i, hi, f3⟩
    · have M2 := F1_ms f2.1 s2
      have z19 : zi m2 19 = zi m 19 := f2.1.2.2.2.2 19 (by decide)
      rw [cI_k f1, b117_113, if_neg (by decide), if_pos rfl, Mi_newStreets M2, z19, d8]
      by_cases g1 : s' < 12
      · rw [if_pos (show nI s' < (12 : Int32) from nI_lt (a := s') (b := 12) g1 (by decide)), Cv13 s1] at E
        have C3 : CS (zui h 13 3 (nI (s' + 1))) := s1
        obtain ⟨h5, y1, K1⟩ := q39 (x := X) (y := Y) (w := WW) (b := BB) (v := nI (100 + s')) C3 q2.1 q2.2.1
        have h41 : zcall 41 [vR (some 13), vI (nI X), vI (nI Y), vI (nI WW), vI (nI BB)] h = some (none, h5) := by
          rw [e41, Ci13_3 s1, Ci13_3 s1, d5, Cp13_3 s1, nI_1, Cv13 C3, show (100 : Int32) + nI s' = nI (100 + s') from nI_add 100 s', cV_k y1]
        rw [cV_k h41] at E
        have K2 : MK 22 m m2 (nI (100 + s')) (inR X Y WW BB) := MK_cg f2 cells
        have M3 : MS (zui m2 19 37 (nI (s' + 1))) := M2
        rw [if_neg (show ¬ nI s' = (12 : Int32) from fun q => by have := (nI_eq (a := s') (b := 12) (by omega) (by decide)).mp q; omega), cV_k E, b117_164, if_pos rfl, Mi_newStreets M2, z19, d8, Mp_newStreets M2, nI_1, b117_183, if_pos (by decide), if_pos rfl]
        have A4 : Q4 h h5 := ⟨K1.1.1, K1.1.2.1, K1.1.2.2.1, K1.1.2.2.2.1, fun a r1 r2 r3 r4 => by rw [K1.1.2.2.2.2 a r4]; exact zi_f (Ne.symm r3), by rw [K1.1.2.2.2.2 13 (by decide), zi_uk (by decide)], by rw [K1.1.2.2.2.2 9 (by decide), zi_ua (by decide)]⟩
        have za : ∀ a, a ≠ 13 → a ≠ 14 → zi h5 a = zi h a := fun a r1 r2 => by rw [K1.1.2.2.2.2 a r2]; exact zi_f (Ne.symm r1)
        have ma : ∀ a, a ≠ 19 → a ≠ 22 → zi (zui m2 19 37 (nI (s' + 1))) a = zi m a := fun a r1 r2 => by rw [zi_f (Ne.symm r1), f2.1.2.2.2.2 a r2]
        have m19 : ∀ j, j ≠ 37 → zi (zui m2 19 37 (nI (s' + 1))) 19 j = zi m 19 j := fun j r => by rw [zi_uk r, z19]
        have eK : MK 14 h h5 (nI (100 + s')) (inR X Y WW BB) ∨ True := Or.inr trivial
        have C1 := CMa_q d1 A4 h45
        have K1c : ∀ c, c < 320 → (inR X Y WW BB c → zi h 14 c = -1 → zi h5 14 c = nI (100 + s')) ∧ (¬ inR X Y WW BB c ∨ zi h 14 c ≠ -1 → zi h5 14 c = zi h 14 c) := fun c hc => by
          have := K1.2 c hc
          rw [zi_ua (show (14 : Nat) ≠ 13 by decide)] at this
          exact this
        refine o_tail h45 (n' := n') (s' := s' + 1) (Q := Q) ⟨Q4_cs A4 s1, M3, s3, s4, by rw [za 9 (by decide) (by decide)]; exact s5, by rw [m19 1 (by decide)]; exact s6, fun i hi => by rw [ma 20 (by decide) (by decide), za 10 (by decide) (by decide)]; exact s7 i hi, by rw [za 9 (by decide) (by decide)]; exact s8, by rw [m19 35 (by decide)]; exact s9, by rw [za 9 (by decide) (by decide)]; exact s10, by rw [za 9 (by decide) (by decide)]; exact s11, by rw [m19 2 (by decide)]; exact s12⟩ ⟨C1, by omega, by omega, ?_, by rw [K1.1.2.2.2.2 13 (by decide), zi_us], MM0_u (MM0_f d6 f2.1) (by omega), by rw [m19 36 (by decide)]; exact d7, zi_us, fun l h1 h2 => ?_, ?_⟩ hP
        · intro c hc
          by_cases q : inR X Y WW BB c ∧ zi h 14 c = -1
          · have e := (K1c c hc).1 q.1 q.2
            refine Or.inr ⟨?_, Or.inr ⟨s', d2, by omega, e⟩⟩
            rcases d4 c hc with r1 | ⟨r1, -⟩
            · rw [← r1]; exact q.2
            · exact r1
          · have e := (K1c c hc).2 (by
              by_cases r1 : inR X Y WW BB c
              · exact Or.inr (fun r2 => q ⟨r1, r2⟩)
              · exact Or.inl r1)
            rw [e]
            rcases d4 c hc with r1 | ⟨r1, r2 | ⟨u, r2, r3, r4⟩⟩
            · exact Or.inl r1
            · exact Or.inr ⟨r1, Or.inl r2⟩
            · exact Or.inr ⟨r1, Or.inr ⟨u, r2, by omega, r4⟩⟩
        · have e := fun k => Q4_cf (k := k) A4 w h2
          rw [cA_cg e, e 4, ma 43 (by decide) (by decide), ma 44 (by decide) (by decide)]
          exact d9 l h1 h2
        · rw [zi_f (by decide)]
          have R1 : RG (zui h 13 3 (nI (s' + 1))) (zi m 22) (VV hm s) n' s' := RG_cg d10 (fun l k hl _ => cf_a w (by decide) hl) (zi_f (by decide)) (zi_f (by decide))
          refine RG_street R1 hn40 g1 (by unfold VV; rw [if_neg (by omega)]) K1 K2 (fun l j hl => ?_)
          rw [Q4_cf A4 w hl]
          exact (cf_a w (by decide) hl).symm
      · rw [if_neg (show ¬ nI s' < (12 : Int32) from nI_nlt (a := s') (b := 12) (by omega) (by omega)), Cv9 s1, cV_k (q20 s1)] at E
        rw [if_pos (show nI s' = (12 : Int32) by rw [show s' = 12 by omega]; rfl), cV_k E, M_v M2, cI_k (q118 M2)]
        exact o_f2 (f := 4) h45 S D f2.1 (by omega) (by omega)
    · exact absurd (FRS.mp q2 i hi) f3
  · rw [cI_k q1, if_pos rfl, Cv9 s1, cV_k (q20 s1)] at E
    rcases Mx with ⟨m2, f1, f2, f3⟩ | ⟨m2, f1, f2, f3⟩
    · exact absurd (FRS.mpr f3) q2
    · have M2 := F1_ms f2 s2
      rw [cI_k f1, b117_113, if_pos rfl, cV_k E, M_v M2, cI_k (q118 M2)]
      exact o_f2 (f := 3) h45 S D f2 (by omega) (by omega)
end ZOS
