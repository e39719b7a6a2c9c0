/-- what reading leaves of the reference, whatever comes of it -/
def MM0 (hm m : zH) : Prop := MF hm m ∧ (∀ a, 20 ≤ a → a ≤ 41 → a ≠ 22 → zi m a = zi hm a) ∧ ∀ k, k ≠ 2 → k ≠ 35 → k ≠ 36 → k ≠ 37 → zi m 19 k = zi hm 19 k
def NW (h m : zH) (n n' : Nat) : Prop := ∀ l, n ≤ l → l < n' → cArea h l = 2 * zi m 43 l ∧ cf h l 4 = zi m 44 l ∧ (zi m 44 l = 0 ∨ zi m 44 l = 1)
/-- which streets are vacated, while a text is drawn -/
def VV (hm : zH) (s : Nat) (u : Nat) : Int32 := if u < s then zi hm 33 u else 0
/-- drawn so far, here and there (without the reading) -/
def DG (hc hm : zH) (n s : Nat) (h m : zH) (n' s' : Nat) : Prop := CMa hc h n n' ∧ s ≤ s' ∧ s' ≤ 12 ∧ CF hc h n n' s s' ∧ zi h 13 3 = nI s' ∧ MM0 hm m ∧ zi m 19 36 = nI n' ∧ zi m 19 37 = nI s' ∧ NW h m n n' ∧ RG h (zi m 22) (VV hm s) n' s'
/-- after a fault -/
def DX (hc hm : zH) (n s : Nat) (h m : zH) (n' s' : Nat) : Prop := CMa hc h n n' ∧ s ≤ s' ∧ s' ≤ 12 ∧ CF hc h n n' s s' ∧ MM0 hm m
section ZOR
variable {hc hm h h' h2 m m' m2 : zH} {n n' s s' T P Q F i k : Nat} {x y : Int32} {f : Nat}
theorem MM0_pm (A : MM0 hm m) (B : PM m m') : MM0 hm m' := by
  obtain ⟨⟨a1, a2, a3, a4, a5⟩, a6, a7⟩ := A
  obtain ⟨b1, b2, b3, b4, b5, b6⟩ := B
  exact ⟨⟨b1.trans a1, b2.trans a2, b3.trans a3, b4.trans a4, fun a ha => (b5 a (by omega) (by omega)).trans (a5 a ha)⟩, fun a h1 h2 h3 => (b5 a (by omega) (by omega)).trans (a6 a h1 h2 h3), fun k h1 h2 h3 h4 => (b6 k h1 h2).trans (a7 k h1 h2 h3 h4)⟩
theorem MM0_u (A : MM0 hm m) {a : Nat} (ha : a = 22 ∨ (42 ≤ a ∧ a ≤ 44) ∨ (a = 19 ∧ (k = 2 ∨ k = 35 ∨ k = 36 ∨ k = 37))) : MM0 hm (zui m a k x) := by
  obtain ⟨a5, a6, a7⟩ := A
  refine ⟨MF_u a5 (by omega) (by omega), fun b h1 h2 h3 => ?_, fun j h1 h2 h3 h4 => ?_⟩
  · rw [zi_f (by omega)]; exact a6 b h1 h2 h3
  · rw [zi_ui, if_neg (by omega)]; exact a7 j h1 h2 h3 h4
theorem MM0_f (A : MM0 hm m) (B : F1 22 m m') : MM0 hm m' := by
  obtain ⟨⟨a1, a2, a3, a4, a5⟩, a6, a7⟩ := A
  obtain ⟨b1, b2, b3, b4, b5⟩ := B
  exact ⟨⟨b1.trans a1, b2.trans a2, b3.trans a3, b4.trans a4, fun a ha => (b5 a (by omega)).trans (a5 a ha)⟩, fun a h1 h2 h3 => (b5 a h3).trans (a6 a h1 h2 h3), fun k h1 h2 h3 h4 => by rw [b5 19 (by decide)]; exact a7 k h1 h2 h3 h4⟩
theorem RG_pc {G V : Nat → Int32} (A : RG h G V n' s') (W : LW h n') (B : PC h h') : RG h' G V n' s' := RG_cg A (fun l k hl _ => Q4_cf (Q4_pc B) W hl) (B.2.2.2.2.1 14 (by decide) (by decide)) (B.2.2.2.2.1 15 (by decide) (by decide))
theorem DG_pc (D : DG hc hm n s h m n' s') (h45 : 45 ≤ zn hc) (A : PC h h') (B : PM m m') : DG hc hm n s h' m' n' s' := by
  obtain ⟨d1, d2, d3, d4, d5, d6, d7, d8, d9, d10⟩ := D
  refine ⟨CMa_q d1 (Q4_pc A) h45, d2, d3, CF_pc d4 A, by rw [A.2.2.2.2.1 13 (by decide) (by decide)]; exact d5, MM0_pm d6 B, by rw [B.2.2.2.2.2 36 (by decide) (by decide)]; exact d7, by rw [B.2.2.2.2.2 37 (by decide) (by decide)]; exact d8, fun l h1 h2 => ?_, ?_⟩
  · have e := fun k => Q4_cf (k := k) (Q4_pc A) d1.2.1 h2
    rw [cA_cg e, e 4, B.2.2.2.2.1 43 (by decide) (by decide), B.2.2.2.2.1 44 (by decide) (by decide)]
    exact d9 l h1 h2
  · rw [B.2.2.2.2.1 22 (by decide) (by decide)]
    exact RG_pc d10 d1.2.1 A
theorem DX_of (D : DG hc hm n s h m n' s') : DX hc hm n s h m n' s' := ⟨D.1, D.2.1, D.2.2.1, D.2.2.2.1, D.2.2.2.2.2.1⟩
theorem DX_pc (D : DX hc hm n s h m n' s') (h45 : 45 ≤ zn hc) (A : PC h h') (B : PM m m') : DX hc hm n s h' m' n' s' := ⟨CMa_q D.1 (Q4_pc A) h45, D.2.1, D.2.2.1, CF_pc D.2.2.2.1 A, MM0_pm D.2.2.2.2 B⟩
theorem Cn {f : Int32 → Option (Option zV × zH)} (H : CS h) (hx : x = nI k) (hk : k < 5) : zaI h (some 11) x f = f (zi h 11 k) := by
  rw [hx]
  exact Ca11 H hk
theorem Mn {f : Int32 → Option (Option zV × zH)} (H : MS m) (hx : x = nI k) (hk : k < 5) : zaI m (some 42) x f = f (zi m 42 k) := by
  rw [hx]
  exact Ma_numbers H hk
/-- what comes of an order: it is drawn, or a fault is told -/
def OUT (hc hm : zH) (n s T P : Nat) (ec : Option (Option zV × zH)) (em : Option (Option zV × zH)) : Prop := (∃ Q n' s' h' m', ec = some (none, h') ∧ em = some (some (vI 0), m') ∧ SS h' m' T Q ∧ DG hc hm n s h' m' n' s' ∧ P < Q) ∨ ∃ f n' s' h' m', ec = some (none, h') ∧ em = some (some (vI (nI f)), m') ∧ FT h' m' f ∧ DX hc hm n s h' m' n' s'
/-- a fault, and the order ends -/
theorem o_bad (h45 : 45 ≤ zn hc) (H : CS h) (D : DX hc hm n s h m n' s') (F : FT h m f) {em : Option (Option zV × zH)} {z : Int32} (e : em = some (some (vI (nI f)), m)) : OUT hc hm n s T P (zev 18 137 [some (vR (some 9)), some (vR (some 13)), some (vI z)] [] h) em := by
  refine Or.inr ⟨f, n', s', h, m, ?_, e, F, D⟩
  obtain ⟨f1, f2, f3, f4⟩ := F
  rw [b18_137, Ci9_4 H, f3, if_neg (nI_ne0 (by omega) (by omega))]
theorem o_fail (h45 : 45 ≤ zn hc) (S : SS h m T Q) (D : DX hc hm n s h m n' s') (hf1 : 1 ≤ f) (hf2 : f ≤ 4) (F : Nat) {z : Int32} : OUT hc hm n s T P (zcV 20 [vR (some 9), vI (nI f), vI (nI F)] h fun h9 => zev 18 137 [some (vR (some 9)), some (vR (some 13)), some (vI z)] [] h9) (zcI 118 [vR (some 19), vI (nI f), vI (nI F)] m fun x7 h6 => some (some (vI x7), h6)) := by
  rw [cV_k (q20 S.1), cI_k (q118 S.2.1)]
  exact o_bad h45 (show CS (zui (zui h 9 4 (nI f)) 9 3 (nI F)) from S.1) (DX_pc D h45 PC_f (PM_19 (Or.inl rfl))) (FT_mk hf1 hf2) rfl
/-- behind an order: a blank, or the end -/
theorem o_tail (h45 : 45 ≤ zn hc) (S : SS h m T Q) (D : DG hc hm n s h m n' s') (hP : P < Q) {z l1 l2 l3 l4 l5 l6 : Int32} : OUT hc hm n s T P (zev 18 137 [some (vR (some 9)), some (vR (some 13)), some (vI z)] [] h) (zev 117 254 [some (vR (some 19)), some (vI l1), some (vI l2), some (vI l3), some (vI l4), some (vI l5), some (vI l6)] [] m) := by
  obtain ⟨s1, s2, s3, s4, s5, s6, s7, s8, s9, s10, s11, s12⟩ := id S
  rw [b18_137, Ci9_4 s1, s10, if_pos rfl, Ci9_5 s1, Ci9_2 s1, s8, s5, b117_254, Mi_at s2, Mi_texted s2, s9, s6]
  by_cases g : Q < T
  · have h17 := q17 (i := Q) S (by omega)
    rw [if_pos g] at h17
    rw [if_pos (nI_lt g (by omega)), if_pos (nI_lt g (by omega)), Ci9_5 s1, s8, Cv9 s1, cI_k h17, Mr_text s2, Mi_at s2, s9, Ma_text s2 (by omega)]
    by_cases g2 : zi m 20 Q = 32
    · rw [if_pos g2, if_pos g2]
      exact Or.inl ⟨Q, n', s', h, m, rfl, rfl, S, D, hP⟩
    · rw [if_neg g2, if_neg g2, Ci9_5 s1, s8, Cv9 s1, Mi_at s2, s9, M_v s2]
      refine Or.inr ⟨1, n', s', _, _, ?_, ?_, FT_mk (h := h) (m := m) (f := 1) (x := nI Q) (by omega) (by omega), DX_pc (DX_of D) h45 PC_f (PM_19 (Or.inl rfl))⟩
      · rw [cV_k (q20 s1)]
        rfl
      · rw [cI_k (q118 s2)]
        rfl
  · rw [if_neg (nI_nlt (by omega) (by omega)), if_neg (nI_nlt (by omega) (by omega))]
    exact Or.inl ⟨Q, n', s', h, m, rfl, rfl, S, D, hP⟩
/-- the new lots are told in the reference -/
theorem w117 (S2 : MS m) {N w b L : Nat} (hL : L + N ≤ 40) (e2 : zi m 42 2 = nI w) (e3 : zi m 42 3 = nI b) (eL : zi m 19 36 = nI L) {l1 l2 l3 l5 : Int32} (h115 : ¬ l2 = 115) : ∀ (d k : Nat) (m1 : zH), k + d = N → MS m1 → zi m1 42 = zi m 42 → zi m1 19 36 = nI (L + k) → MM0 hm m1 → (∀ j, j ≠ 36 → zi m1 19 j = zi m 19 j) → (∀ a, a ≠ 19 → a ≠ 43 → a ≠ 44 → zi m1 a = zi m a) → (∀ l, zi m1 43 l = if L ≤ l ∧ l < L + k then nI (w * b) else zi m 43 l) → (∀ l, zi m1 44 l = if L ≤ l ∧ l < L + k then (if l2 = 103 then 1 else 0) else zi m 44 l) → ∃ m2, zev 117 183 [some (vR (some 19)), some (vI l1), some (vI l2), some (vI l3), some (vI (nI N)), some (vI l5), some (vI (nI k))] [] m1 = zev 117 254 [some (vR (some 19)), some (vI l1), some (vI l2), some (vI l3), some (vI (nI N)), some (vI l5), some (vI (nI N))] [] m2 ∧ MS m2 ∧ zi m2 19 36 = nI (L + N) ∧ MM0 hm m2 ∧ (∀ j, j ≠ 36 → zi m2 19 j = zi m 19 j) ∧ (∀ a, a ≠ 19 → a ≠ 43 → a ≠ 44 → zi m2 a = zi m a) ∧ (∀ l, zi m2 43 l = if L ≤ l ∧ l < L + N then nI (w * b) else zi m 43 l) ∧ ∀ l, zi m2 44 l = if L ≤ l ∧ l < L + N then (if l2 = 103 then 1 else 0) else zi m 44 l := by
  intro d
  induction d with
  | zero =>
    intro k m1 hk c1 c2 c3 c4 c5 c6 c7 c8
    have : k = N := by omega
    subst this
    refine ⟨m1, ?_, c1, c3, c4, c5, c6, c7, c8⟩
    rw [b117_183, if_neg (nI_nlt (by omega) (by omega))]
  | succ d ih =>
    intro k m1 hk c1 c2 c3 c4 c5 c6 c7 c8
    have M1 : MS (zui m1 43 (L + k) (nI (w * b))) := c1
    have em : nI w * nI b = nI (w * b) := pk_mul w b
    have gen : ∀ z : Int32, (z = if l2 = 103 then 1 else 0) → zev 117 183 [some (vR (some 19)), some (vI l1), some (vI l2), some (vI l3), some (vI (nI N)), some (vI l5), some (vI (nI k))] [] m1 = zev 117 183 [some (vR (some 19)), some (vI l1), some (vI l2), some (vI l3), some (vI (nI N)), some (vI l5), some (vI (nI (k + 1)))] [] (zui (zui (zui m1 43 (L + k) (nI (w * b))) 44 (L + k) z) 19 36 (nI (L + (k + 1)))) → ∃ m2, zev 117 183 [some (vR (some 19)), some (vI l1), some (vI l2), some (vI l3), some (vI (nI N)), some (vI l5), some (vI (nI k))] [] m1 = zev 117 254 [some (vR (some 19)), some (vI l1), some (vI l2), some (vI l3), some (vI (nI N)), some (vI l5), some (vI (nI N))] [] m2 ∧ MS m2 ∧ zi m2 19 36 = nI (L + N) ∧ MM0 hm m2 ∧ (∀ j, j ≠ 36 → zi m2 19 j = zi m 19 j) ∧ (∀ a, a ≠ 19 → a ≠ 43 → a ≠ 44 → zi m2 a = zi m a) ∧ (∀ l, zi m2 43 l = if L ≤ l ∧ l < L + N then nI (w * b) else zi m 43 l) ∧ ∀ l, zi m2 44 l = if L ≤ l ∧ l < L + N then (if l2 = 103 then 1 else 0) else zi m 44 l := by
      intro z hz e
      rw [e]
      refine ih (k + 1) _ (by omega) c1 (by rw [zi_f (by decide), zi_f (by decide), zi_f (by decide)]; exact c2) zi_us (MM0_u (MM0_u (MM0_u c4 (by omega)) (by omega)) (by omega)) (fun j hj => by rw [zi_uk hj, zi_ua (by decide), zi_ua (by decide)]; exact c5 j hj) (fun a q1 q2 q3 => by rw [zi_f (Ne.symm q1), zi_f (Ne.symm q3), zi_f (Ne.symm q2)]; exact c6 a q1 q2 q3) (fun l => ?_) (fun l => ?_)
      · rw [zi_ua (by decide), zi_ua (by decide), zi_ui, c7 l]
        by_cases q : l = L + k
        · rw [if_pos ⟨rfl, q⟩, if_pos (show L ≤ l ∧ l < L + (k + 1) by omega)]
        · rw [if_neg (fun q2 => q q2.2)]
          by_cases q2 : L ≤ l ∧ l < L + k
          · rw [if_pos q2, if_pos (show L ≤ l ∧ l < L + (k + 1) by omega)]
          · rw [if_neg q2, if_neg (show ¬ (L ≤ l ∧ l < L + (k + 1)) by omega)]
      · rw [zi_ua (by decide), zi_ui, zi_ua (by decide), c8 l]
        by_cases q : l = L + k
        · rw [if_pos ⟨rfl, q⟩, if_pos (show L ≤ l ∧ l < L + (k + 1) by omega), hz]
        · rw [if_neg (fun q2 => q q2.2)]
          by_cases q2 : L ≤ l ∧ l < L + k
          · rw [if_pos q2, if_pos (show L ≤ l ∧ l < L + (k + 1) by omega)]
          · rw [if_neg q2, if_neg (show ¬ (L ≤ l ∧ l < L + (k + 1)) by omega)]
    have E := b117_183 (some 19) l1 l2 l3 (nI N) l5 (nI k) m1
    rw [if_pos (nI_lt (by omega) (by omega)), if_neg h115, Mr_newCells c1, Mi_newLots c1, c3, Mr_numbers c1, Mn (x := 2) (k := 2) c1 rfl (by decide), c2, e2, Mr_numbers c1, Mn (x := 3) (k := 3) c1 rfl (by decide), c2, e3, em, Mt_newCells c1 (by omega), Mr_newGift M1, Mi_newLots M1, zi_ua (by decide), c3, Mt_newGift M1 (by omega) (Or.inr rfl), Mt_newGift M1 (by omega) (Or.inl rfl), nI_1] at E
    by_cases g : l2 = 103
    · have M2 : MS (zui (zui m1 43 (L + k) (nI (w * b))) 44 (L + k) 1) := c1
      rw [if_pos g, Mi_newLots M2, zi_ua (by decide), zi_ua (by decide), c3, Mp_newLots M2, nI_1] at E
      exact gen 1 (by rw [if_pos g]) E
    · have M2 : MS (zui (zui m1 43 (L + k) (nI (w * b))) 44 (L + k) 0) := c1
      rw [if_neg g, Mi_newLots M2, zi_ua (by decide), zi_ua (by decide), c3, Mp_newLots M2, nI_1] at E
      exact gen 0 (by rw [if_neg g]) E
end ZOR
