section ZGS
variable {h h1 h2 m m1 m2 : zH} {a x y w b i j c X Y W B N L s T : Nat} {cr v : Int32} {P Q : Nat → Prop} {u7 u8 u3 u4 : Option zV}
/-- not free, by the reference's draft -/
def BAD (m : zH) (X Y W B : Nat) : Prop := 20 < X + W ∨ 16 < Y + B ∨ ∃ c, c < 320 ∧ inR X Y W B c ∧ zi m 22 c ≠ -1
theorem t124 (H : MS m1) {j' : Int32} (hj : True) : zev 124 27 [some (vR (some 19)), some (vI (nI X)), some (vI (nI Y)), some (vI (nI W)), some (vI (nI B)), some (vI v), some (vI 0), some (vI j'), u8] [] m1 = some (some (vI 0), m1) := by
  rw [b124_27, if_pos rfl, bo_0]
  split <;> rfl
theorem w124i (H : MS m) (hX : X + W ≤ 20) (hY : Y + B ≤ 16) (hj : Y ≤ j) (hj2 : j < Y + B) : ∀ (k i : Nat) (m1 : zH), i + k = X + W → X ≤ i → MK 22 m m1 v (fun c => inR X Y W B c ∧ (c / 20 < j ∨ c / 20 = j ∧ c % 20 < i)) → (∀ c, c < 320 → inR X Y W B c → (c / 20 < j ∨ c / 20 = j ∧ c % 20 < i) → zi m 22 c = -1) → (∃ m2 u, zev 124 44 [some (vR (some 19)), some (vI (nI X)), some (vI (nI Y)), some (vI (nI W)), some (vI (nI B)), some (vI v), some (vI 1), some (vI (nI j)), some (vI (nI i))] [] m1 = zev 124 27 [some (vR (some 19)), some (vI (nI X)), some (vI (nI Y)), some (vI (nI W)), some (vI (nI B)), some (vI v), some (vI 1), some (vI (nI (j + 1))), u] [] m2 ∧ MK 22 m m2 v (fun c => inR X Y W B c ∧ (c / 20 < j + 1 ∨ c / 20 = j + 1 ∧ c % 20 < X)) ∧ ∀ c, c < 320 → inR X Y W B c → (c / 20 < j + 1 ∨ c / 20 = j + 1 ∧ c % 20 < X) → zi m 22 c = -1) ∨ ∃ m2, zev 124 44 [some (vR (some 19)), some (vI (nI X)), some (vI (nI Y)), some (vI (nI W)), some (vI (nI B)), some (vI v), some (vI 1), some (vI (nI j)), some (vI (nI i))] [] m1 = some (some (vI 0), m2) ∧ F1 22 m m2 ∧ BAD m X Y W B := by
  intro k
  induction k with
  | zero =>
    intro i m1 hi hXi M fr
    refine Or.inl ⟨m1, some (vI (nI i)), ?_, MK_cg M (fun c hc => ?_), fun c hc q1 q2 => fr c hc q1 ?_⟩
    · rw [b124_44, nI_add, if_neg (nI_nlt (by omega) (by omega)), nI_1]
    · unfold inR
      omega
    · unfold inR at q1
      omega
  | succ k ih =>
    intro i m1 hi hXi M fr
    have H1 := F1_ms M.1 H
    have e0 : zi m1 22 (20 * j + i) = zi m 22 (20 * j + i) := (M.2 (20 * j + i) (by omega)).2 (Or.inl (by unfold inR; omega))
    rw [b124_44, nI_add, if_pos (nI_lt (by omega) (by omega)), if_neg (by decide), Mr_draft H1, zcel, Ma_draft H1 (by omega), e0, Mr_draft H1, Mt_draft H1 (by omega), nI_1]
    by_cases g : zi m 22 (20 * j + i) = -1
    · rw [if_pos g]
      refine ih (i + 1) _ (by omega) (by omega) (MK_u M (by omega) (by unfold inR; omega) g (fun d hd => ?_)) (fun c hc q1 q2 => ?_)
      · unfold inR
        omega
      · by_cases e : c = 20 * j + i
        · rw [e]; exact g
        · exact fr c hc q1 (by unfold inR at q1; omega)
    · rw [if_neg g]
      refine Or.inr ⟨zui m1 22 (20 * j + i) v, ?_, F1_u M.1, Or.inr (Or.inr ⟨20 * j + i, by omega, by unfold inR; omega, g⟩)⟩
      have H2 : MS (zui m1 22 (20 * j + i) v) := H1
      rw [Mr_draft H1, Mt_draft H1 (by omega), b124_44, nI_add, if_pos rfl, t124 H2 trivial]
      split <;> rfl
theorem w124o (H : MS m) (hX : X + W ≤ 20) (hY : Y + B ≤ 16) : ∀ (k j : Nat) (m1 : zH) (u : Option zV), j + k = Y + B → Y ≤ j → MK 22 m m1 v (fun c => inR X Y W B c ∧ (c / 20 < j ∨ c / 20 = j ∧ c % 20 < X)) → (∀ c, c < 320 → inR X Y W B c → (c / 20 < j ∨ c / 20 = j ∧ c % 20 < X) → zi m 22 c = -1) → (∃ m2, zev 124 27 [some (vR (some 19)), some (vI (nI X)), some (vI (nI Y)), some (vI (nI W)), some (vI (nI B)), some (vI v), some (vI 1), some (vI (nI j)), u] [] m1 = some (some (vI 1), m2) ∧ MK 22 m m2 v (inR X Y W B) ∧ ∀ c, c < 320 → inR X Y W B c → zi m 22 c = -1) ∨ ∃ m2, zev 124 27 [some (vR (some 19)), some (vI (nI X)), some (vI (nI Y)), some (vI (nI W)), some (vI (nI B)), some (vI v), some (vI 1), some (vI (nI j)), u] [] m1 = some (some (vI 0), m2) ∧ F1 22 m m2 ∧ BAD m X Y W B := by
  intro k
  induction k with
  | zero =>
    intro j m1 u hj hYj M fr
    refine Or.inl ⟨m1, ?_, MK_cg M (fun c hc => ?_), fun c hc q => fr c hc q ?_⟩
    · rw [b124_27, nI_add, if_neg (nI_nlt (by omega) (by omega)), bo_1]
    · unfold inR
      omega
    · unfold inR at q
      omega
  | succ k ih =>
    intro j m1 u hj hYj M fr
    rw [b124_27, nI_add, if_pos (nI_lt (by omega) (by omega)), if_neg (by decide)]
    rcases w124i (v := v) H hX hY hYj (by omega) W X m1 (by omega) (Nat.le_refl _) M fr with ⟨m2, u2, e2, M2, fr2⟩ | ⟨m2, e2, q1, q2⟩
    · rw [e2]
      exact ih (j + 1) m2 u2 (by omega) (by omega) M2 fr2
    · rw [e2]
      exact Or.inr ⟨m2, rfl, q1, q2⟩
theorem q124 (H : MS m) (hX : X < 1000) (hW : W < 1000) (hY : Y < 1000) (hB : B < 1000) : (∃ m2, zcall 124 [vR (some 19), vI (nI X), vI (nI Y), vI (nI W), vI (nI B), vI v] m = some (some (vI 1), m2) ∧ MK 22 m m2 v (inR X Y W B) ∧ X + W ≤ 20 ∧ Y + B ≤ 16 ∧ ∀ c, c < 320 → inR X Y W B c → zi m 22 c = -1) ∨ ∃ m2, zcall 124 [vR (some 19), vI (nI X), vI (nI Y), vI (nI W), vI (nI B), vI v] m = some (some (vI 0), m2) ∧ F1 22 m m2 ∧ BAD m X Y W B := by
  have e0 := e124 (some 19) (nI X) (nI Y) (nI W) (nI B) v m
  rw [nI_add, nI_add, t124 H trivial] at e0
  by_cases g1 : X + W ≤ 20
  · rw [if_neg (show ¬ (20 : Int32) < nI (X + W) from nI_nlt (a := 20) (b := X + W) g1 (by decide))] at e0
    by_cases g2 : Y + B ≤ 16
    · rw [if_neg (show ¬ (16 : Int32) < nI (Y + B) from nI_nlt (a := 16) (b := Y + B) g2 (by decide))] at e0
      rcases w124o (v := v) H g1 g2 B Y m none (by omega) (Nat.le_refl _) (MK_0 (fun c hc q => by have := q.1; have := q.2; unfold inR at *; omega)) (fun c hc q1 q2 => by unfold inR at q1; omega) with ⟨m2, e2, q1, q2⟩ | ⟨m2, e2, q1, q2⟩
      · exact Or.inl ⟨m2, e0.trans e2, q1, g1, g2, q2⟩
      · exact Or.inr ⟨m2, e0.trans e2, q1, q2⟩
    · rw [if_pos (show (16 : Int32) < nI (Y + B) from nI_lt (a := 16) (b := Y + B) (by omega) (by omega))] at e0
      exact Or.inr ⟨m, e0, F1_rfl, Or.inr (Or.inl (by omega))⟩
  · rw [if_pos (show (20 : Int32) < nI (X + W) from nI_lt (a := 20) (b := X + W) (by omega) (by omega))] at e0
    exact Or.inr ⟨m, e0, F1_rfl, Or.inl (by omega)⟩
theorem rdis {p : Nat} (h1 : x + i * w ≤ p) (h2 : p < x + i * w + w) (h3 : x + j * w ≤ p) (h4 : p < x + j * w + w) : i = j := by
  rcases Nat.lt_trichotomy i j with q | q | q
  · have := Nat.mul_le_mul_right w (show i + 1 ≤ j from q)
    rw [Nat.succ_mul] at this
    omega
  · exact q
  · have := Nat.mul_le_mul_right w (show j + 1 ≤ i from q)
    rw [Nat.succ_mul] at this
    omega
/-- k lots of a block stand in the row a -/
def BK (a : Nat) (g : Nat → Int32) (x y w b L k : Nat) (g' : Nat → Int32) : Prop := ∀ c, c < 320 → (∃ i, i < k ∧ inR (x + i * w) y w b c ∧ g' c = nI (L + i)) ∨ ((∀ i, i < k → ¬ inR (x + i * w) y w b c) ∧ g' c = g c)
theorem BK_s {g g1 g2 : Nat → Int32} {k : Nat} (A : BK a g x y w b L k g1) (h1 : ∀ c, c < 320 → inR (x + k * w) y w b c → g2 c = nI (L + k)) (h2 : ∀ c, c < 320 → ¬ inR (x + k * w) y w b c → g2 c = g1 c) : BK a g x y w b L (k + 1) g2 := by
  intro c hc
  by_cases q : inR (x + k * w) y w b c
  · exact Or.inl ⟨k, by omega, q, h1 c hc q⟩
  · rcases A c hc with ⟨i, hi, q1, q2⟩ | ⟨q1, q2⟩
    · exact Or.inl ⟨i, by omega, q1, (h2 c hc q).trans q2⟩
    · refine Or.inr ⟨fun i hi => ?_, (h2 c hc q).trans q2⟩
      by_cases e : i = k
      · rw [e]; exact q
      · exact q1 i (by omega)
/-- free for a block, by the draft -/
def FB (m : zH) (x y w b N : Nat) : Prop := x + N * w ≤ 20 ∧ y + b ≤ 16 ∧ ∀ c, c < 320 → inR x y (N * w) b c → zi m 22 c = -1
theorem w123 (H : MS m) (e0 : zi m 42 0 = nI x) (e1 : zi m 42 1 = nI y) (e2 : zi m 42 2 = nI w) (e3 : zi m 42 3 = nI b) (eL : zi m 19 36 = nI L) (hx : x < 20) (hy : y < 16) (hw : w < 10) (hb : b < 10) (hw1 : 1 ≤ w) (hb1 : 1 ≤ b) (hN : N < 10) (hN1 : 1 ≤ N) (hL : L ≤ 40) : ∀ (d k : Nat) (m1 : zH), k + d = N → F1 22 m m1 → BK 22 (zi m 22) x y w b L k (zi m1 22) → (∀ i, i < k → x + i * w + w ≤ 20 ∧ y + b ≤ 16 ∧ ∀ c, c < 320 → inR (x + i * w) y w b c → zi m 22 c = -1) → (∃ m2, zev 123 4 [some (vR (some 19)), some (vI (nI N)), some (vI 1), some (vI (nI k))] [] m1 = some (some (vI 1), m2) ∧ F1 22 m m2 ∧ BK 22 (zi m 22) x y w b L N (zi m2 22) ∧ FB m x y w b N) ∨ ∃ m2, zev 123 4 [some (vR (some 19)), some (vI (nI N)), some (vI 1), some (vI (nI k))] [] m1 = some (some (vI 0), m2) ∧ F1 22 m m2 ∧ ¬ FB m x y w b N := by
  intro d
  induction d with
  | zero =>
    intro k m1 hk A K fr
    have : k = N := by omega
    subst this
    refine Or.inl ⟨m1, ?_, A, K, ?_⟩
    · rw [b123_4, if_neg (nI_nlt (by omega) (by omega)), bo_1]
    · obtain ⟨q1, q2, -⟩ := fr (k - 1) (by omega)
      refine ⟨?_, q2, fun c hc q => ?_⟩
      · have e : k * w = (k - 1) * w + w := by
          obtain ⟨k', rfl⟩ : ∃ k', k = k' + 1 := ⟨k - 1, by omega⟩
          rw [Nat.succ_mul]
          rfl
        omega
      · obtain ⟨r1, r2, r3, r4⟩ := q
        have d1 := Nat.div_add_mod (c % 20 - x) w
        have d2 := Nat.mod_lt (c % 20 - x) (show 0 < w by omega)
        have d3 : (c % 20 - x) / w < k := by
          rw [Nat.div_lt_iff_lt_mul (by omega)]
          omega
        rw [Nat.mul_comm] at d1
        refine (fr _ d3).2.2 c hc ⟨?_, ?_, r3, r4⟩
        · omega
        · omega
  | succ d ih =>
    intro k m1 hk A K fr
    have H1 := F1_ms A H
    have z42 : zi m1 42 = zi m 42 := A.2.2.2.2 42 (by decide)
    have z19 : zi m1 19 = zi m 19 := A.2.2.2.2 19 (by decide)
    have em : nI x + nI k * nI w = nI (x + k * w) := by rw [pk_mul, nI_add]
    have kw : k * w ≤ 81 := Nat.le_trans (Nat.mul_le_mul (show k ≤ 9 by omega) (show w ≤ 9 by omega)) (by decide)
    have i0 : ∀ (f : Int32 → Option (Option zV × zH)), zaI m1 (some 42) 0 f = f (nI x) := fun f => by
      have := Ma_numbers (i := 0) (f := f) H1 (by decide)
      rw [nI_0, z42, e0] at this
      exact this
    have i1 : ∀ (f : Int32 → Option (Option zV × zH)), zaI m1 (some 42) 1 f = f (nI y) := fun f => by
      have := Ma_numbers (i := 1) (f := f) H1 (by decide)
      rw [z42, e1] at this
      exact this
    have i2 : ∀ (f : Int32 → Option (Option zV × zH)), zaI m1 (some 42) 2 f = f (nI w) := fun f => by
      have := Ma_numbers (i := 2) (f := f) H1 (by decide)
      rw [z42, e2] at this
      exact this
    have i3 : ∀ (f : Int32 → Option (Option zV × zH)), zaI m1 (some 42) 3 f = f (nI b) := fun f => by
      have := Ma_numbers (i := 3) (f := f) H1 (by decide)
      rw [z42, e3] at this
      exact this
    rw [b123_4, if_pos (nI_lt (by omega) (by omega)), if_neg (by decide), Mr_numbers H1, i0, Mr_numbers H1, i2, Mr_numbers H1, i1, Mr_numbers H1, i2, Mr_numbers H1, i3, Mi_newLots H1, z19, eL, em, nI_add, M_v H1, nI_1]
    rcases q124 (X := x + k * w) (Y := y) (W := w) (B := b) (v := nI (L + k)) H1 (by omega) (by omega) (by omega) (by omega) with ⟨m2, f1, f2, f3, f4, f5⟩ | ⟨m2, f1, f2, f3⟩
    · rw [cI_k f1]
      have old : ∀ c, c < 320 → inR (x + k * w) y w b c → zi m 22 c = -1 := fun c hc q => by
        have g := f5 c hc q
        rcases K c hc with ⟨i, hi, q1, q2⟩ | ⟨-, q2⟩
        · exact absurd (q2.symm.trans g) (nI_m1 (by omega))
        · rw [← q2]; exact g
      refine ih (k + 1) m2 (by omega) (F1_tr A f2.1) (BK_s K (fun c hc q => (f2.2 c hc).1 q (f5 c hc q)) (fun c hc q => (f2.2 c hc).2 (Or.inl q))) (fun i hi => ?_)
      by_cases e : i = k
      · rw [e]; exact ⟨f3, f4, old⟩
      · exact fr i (by omega)
    · rw [cI_k f1]
      refine Or.inr ⟨m2, ?_, F1_tr A f2, fun q => ?_⟩
      · rw [b123_4, if_pos rfl, bo_0]
        split <;> rfl
      · have kN := Nat.mul_le_mul_right w (show k + 1 ≤ N by omega)
        rw [Nat.succ_mul] at kN
        obtain ⟨q1, q2, q3⟩ := q
        rcases f3 with g | g | ⟨c, hc, g1, g2⟩
        · omega
        · omega
        · obtain ⟨r1, r2, r3, r4⟩ := g1
          have g3 := q3 c hc ⟨by omega, by omega, r3, r4⟩
          rcases K c hc with ⟨i, hi, ⟨t1, t2, -⟩, -⟩ | ⟨-, t2⟩
          · have := rdis t1 t2 r1 r2
            omega
          · exact g2 (t2.trans g3)
/-- the cells of a street, k of them -/
theorem w122 (H : MS m) {sx sy : Nat} (hs : (sx = 1 ∧ sy = 0 ∧ zi m 42 2 = nI 0) ∨ (sx = 0 ∧ sy = 1 ∧ zi m 42 2 = nI 1)) (e0 : zi m 42 0 = nI x) (e1 : zi m 42 1 = nI y) (e3 : zi m 42 3 = nI N) (eL : zi m 19 37 = nI s) (hx : x < 20) (hy : y < 16) (hN : N ≤ 20) (hsn : s ≤ 12) : ∀ (d k : Nat) (m1 : zH) (u3 u4 : Option zV), k + d = N → MK 22 m m1 (nI (100 + s)) (fun c => ∃ i, i < k ∧ c % 20 = x + sx * i ∧ c / 20 = y + sy * i) → (∀ i, i < k → x + sx * i < 20 ∧ y + sy * i < 16 ∧ okc 1 (zi m 22 (20 * (y + sy * i) + (x + sx * i)))) → (∃ m2, zev 122 4 [some (vR (some 19)), some (vI 1), some (vI (nI k)), u3, u4] [] m1 = some (some (vI 1), m2) ∧ MK 22 m m2 (nI (100 + s)) (fun c => ∃ i, i < N ∧ c % 20 = x + sx * i ∧ c / 20 = y + sy * i) ∧ ∀ i, i < N → x + sx * i < 20 ∧ y + sy * i < 16 ∧ okc 1 (zi m 22 (20 * (y + sy * i) + (x + sx * i)))) ∨ ∃ m2, zev 122 4 [some (vR (some 19)), some (vI 1), some (vI (nI k)), u3, u4] [] m1 = some (some (vI 0), m2) ∧ F1 22 m m2 ∧ ∃ i, i < N ∧ ¬ (x + sx * i < 20 ∧ y + sy * i < 16 ∧ okc 1 (zi m 22 (20 * (y + sy * i) + (x + sx * i)))) := by
  intro d
  induction d with
  | zero =>
    intro k m1 u3 u4 hk M fr
    have : k = N := by omega
    subst this
    have H1 := F1_ms M.1 H
    have i3 := Ma_numbers (i := 3) (f := fun x2 => (if nI k < x2 then (if (1 : Int32) = 0 then zbo 1 (some (some (vI 1), m1)) else (zgR m1 (some 19) 9 38 fun x3 => (zaI m1 x3 0 fun x4 => (zgR m1 (some 19) 9 38 fun x5 => (zaI m1 x5 2 fun x6 => (if x6 = 0 then zev 122 38 [some (vR (some 19)), some (vI 1), some (vI (nI k)), u3, u4] [vI (nI k), vI x4] m1 else zev 122 38 [some (vR (some 19)), some (vI 1), some (vI (nI k)), u3, u4] [vI 0, vI x4] m1)))))) else zbo 1 (some (some (vI 1), m1)) : Option (Option zV × zH))) H1 (by decide)
    refine Or.inl ⟨m1, ?_, M, fr⟩
    rw [b122_4, Mr_numbers H1]
    refine Eq.trans i3 ?_
    rw [M.1.2.2.2.2 42 (by decide), e3, if_neg (nI_nlt (by omega) (by omega)), bo_1]
  | succ d ih =>
    intro k m1 u3 u4 hk M fr
    have H1 := F1_ms M.1 H
    have z42 : zi m1 42 = zi m 42 := M.1.2.2.2.2 42 (by decide)
    have z19 : zi m1 19 = zi m 19 := M.1.2.2.2.2 19 (by decide)
    have i0 : ∀ (f : Int32 → Option (Option zV × zH)), zaI m1 (some 42) 0 f = f (nI x) := fun f => by
      have := Ma_numbers (i := 0) (f := f) H1 (by decide)
      rw [nI_0, z42, e0] at this
      exact this
    have i1 : ∀ (f : Int32 → Option (Option zV × zH)), zaI m1 (some 42) 1 f = f (nI y) := fun f => by
      have := Ma_numbers (i := 1) (f := f) H1 (by decide)
      rw [z42, e1] at this
      exact this
    have i2 : ∀ (f : Int32 → Option (Option zV × zH)), zaI m1 (some 42) 2 f = f (zi m 42 2) := fun f => by
      have := Ma_numbers (i := 2) (f := f) H1 (by decide)
      rw [z42] at this
      exact this
    have i3 : ∀ (f : Int32 → Option (Option zV × zH)), zaI m1 (some 42) 3 f = f (nI N) := fun f => by
      have := Ma_numbers (i := 3) (f := f) H1 (by decide)
      rw [z42, e3] at this
      exact this
    have hsk : sx * k ≤ 20 ∧ sy * k ≤ 20 := by
      rcases hs with ⟨r1, r2, -⟩ | ⟨r1, r2, -⟩ <;> subst r1 <;> subst r2 <;> omega
    -- the cell
    have E : zev 122 4 [some (vR (some 19)), some (vI 1), some (vI (nI k)), u3, u4] [] m1 = zev 122 61 [some (vR (some 19)), some (vI 1), some (vI (nI k)), some (vI (nI (x + sx * k))), u4] [vI (nI (sy * k)), vI (nI y)] m1 := by
      rw [b122_4, Mr_numbers H1, i3, if_pos (nI_lt (by omega) (by omega)), if_neg (by decide), Mr_numbers H1, i0, Mr_numbers H1, i2]
      rcases hs with ⟨r1, r2, r3⟩ | ⟨r1, r2, r3⟩
      · subst r1 r2
        rw [r3, if_pos (by decide), b122_38, Mr_numbers H1, i1, Mr_numbers H1, i2, r3, if_neg (by decide), nI_add, Nat.one_mul, Nat.zero_mul]
        rfl
      · subst r1 r2
        rw [r3, if_neg (by decide), b122_38, Mr_numbers H1, i1, Mr_numbers H1, i2, r3, if_pos (by decide), Int32.add_zero, Nat.one_mul, Nat.zero_mul]
        rfl
    rw [b122_61, nI_add] at E
    have stop : ∀ m3 u5 u6, zev 122 4 [some (vR (some 19)), some (vI 1), some (vI (nI k)), u3, u4] [] m1 = zev 122 4 [some (vR (some 19)), some (vI 0), some (vI (nI k + 1)), u5, u6] [] m3 → F1 22 m m3 → zev 122 4 [some (vR (some 19)), some (vI 1), some (vI (nI k)), u3, u4] [] m1 = some (some (vI 0), m3) := by
      intro m3 u5 u6 q A
      have H3 := F1_ms A H
      have j3 : ∀ (f : Int32 → Option (Option zV × zH)), zaI m3 (some 42) 3 f = f (nI N) := fun f => by
        have := Ma_numbers (i := 3) (f := f) H3 (by decide)
        rw [A.2.2.2.2 42 (by decide), e3] at this
        exact this
      rw [q, b122_4, Mr_numbers H3, j3, if_pos rfl, bo_0]
      split <;> rfl
    have cont : ∀ m3 u5 u6, zev 122 4 [some (vR (some 19)), some (vI 1), some (vI (nI k)), u3, u4] [] m1 = zev 122 4 [some (vR (some 19)), some (vI 1), some (vI (nI k + 1)), u5, u6] [] m3 → MK 22 m m3 (nI (100 + s)) (fun c => ∃ i, i < k + 1 ∧ c % 20 = x + sx * i ∧ c / 20 = y + sy * i) → (x + sx * k < 20 ∧ y + sy * k < 16 ∧ okc 1 (zi m 22 (20 * (y + sy * k) + (x + sx * k)))) → _ := fun m3 u5 u6 q A f => by
      have := ih (k + 1) m3 u5 u6 (by omega) A (fun i hi => by
        by_cases e : i = k
        · rw [e]; exact f
        · exact fr i (by omega))
      rw [← nI_1, ← q] at this
      exact this
    by_cases g1 : x + sx * k < 20
    · rw [if_pos (show nI (x + sx * k) < (20 : Int32) from nI_lt (a := x + sx * k) (b := 20) g1 (by decide))] at E
      by_cases g2 : y + sy * k < 16
      · have e9 : zi m1 22 (20 * (y + sy * k) + (x + sx * k)) = zi m 22 (20 * (y + sy * k) + (x + sx * k)) := (M.2 _ (by omega)).2 (Or.inl (by
          rintro ⟨i, hi, q1, q2⟩
          rcases hs with ⟨r1, r2, -⟩ | ⟨r1, r2, -⟩ <;> subst r1 <;> subst r2 <;> omega))
        rw [if_pos (show nI (y + sy * k) < (16 : Int32) from nI_lt (a := y + sy * k) (b := 16) g2 (by decide)), Mr_draft H1, zcel, Ma_draft H1 (by omega), e9, Mr_draft H1, Ma_draft H1 (by omega), e9, b122_115, b122_115, if_pos rfl, if_neg (show ¬ (1 : Int32) = 0 by decide), Mr_draft H1, zcel, Ma_draft H1 (by omega), e9, Mr_draft H1, Mi_newStreets H1, z19, eL, show (100 : Int32) + nI s = nI (100 + s) from nI_add 100 s, Mt_draft H1 (by omega)] at E
        have hq : ∀ dd, dd < 320 → ((∃ i, i < k + 1 ∧ dd % 20 = x + sx * i ∧ dd / 20 = y + sy * i) ↔ (∃ i, i < k ∧ dd % 20 = x + sx * i ∧ dd / 20 = y + sy * i) ∨ dd = 20 * (y + sy * k) + (x + sx * k)) := fun dd hd => by
          constructor
          · rintro ⟨i, hi, q1, q2⟩
            by_cases e : i = k
            · subst e
              exact Or.inr (by omega)
            · exact Or.inl ⟨i, by omega, q1, q2⟩
          · rintro (⟨i, hi, q⟩ | q)
            · exact ⟨i, by omega, q⟩
            · exact ⟨k, by omega, by omega, by omega⟩
        have hnp : ¬ ∃ i, i < k ∧ (20 * (y + sy * k) + (x + sx * k)) % 20 = x + sx * i ∧ (20 * (y + sy * k) + (x + sx * k)) / 20 = y + sy * i := by
          rintro ⟨i, hi, q1, q2⟩
          rcases hs with ⟨r1, r2, -⟩ | ⟨r1, r2, -⟩ <;> subst r1 <;> subst r2 <;> omega
        by_cases g3 : zi m 22 (20 * (y + sy * k) + (x + sx * k)) = -1
        · rw [if_pos g3, if_pos g3] at E
          exact cont _ _ _ E (MK_u M (by omega) hnp g3 hq) ⟨g1, g2, Or.inl g3⟩
        · rw [if_neg g3, if_neg g3] at E
          by_cases g4 : zi m 22 (20 * (y + sy * k) + (x + sx * k)) < 100
          · rw [if_pos g4] at E
            exact Or.inr ⟨m1, stop _ _ _ E M.1, M.1, k, by omega, fun q => q.2.2.elim g3 (fun q => q.2 g4)⟩
          · rw [if_neg g4] at E
            exact cont _ _ _ E (MK_k M g3 hq) ⟨g1, g2, Or.inr ⟨by decide, g4⟩⟩
      · rw [if_neg (show ¬ nI (y + sy * k) < (16 : Int32) from nI_nlt (a := y + sy * k) (b := 16) (by omega) (by omega)), b122_115, if_pos rfl] at E
        exact Or.inr ⟨m1, stop _ _ _ E M.1, M.1, k, by omega, fun q => g2 q.2.1⟩
    · rw [if_neg (show ¬ nI (x + sx * k) < (20 : Int32) from nI_nlt (a := x + sx * k) (b := 20) (by omega) (by omega)), b122_115, if_pos rfl] at E
      exact Or.inr ⟨m1, stop _ _ _ E M.1, M.1, k, by omega, fun q => g1 q.1⟩
end ZGS
