/-- both read the text at P -/
def SS (h m : zH) (T P : Nat) : Prop := CS h ∧ MS m ∧ T ≤ 200 ∧ P ≤ T ∧ zi h 9 2 = nI T ∧ zi m 19 1 = nI T ∧ (∀ i, i < T → zi m 20 i = zi h 10 i &&& 255) ∧ zi h 9 5 = nI P ∧ zi m 19 35 = nI P ∧ zi h 9 4 = 0 ∧ zi h 9 3 = -1 ∧ zi m 19 2 = -1
/-- what reading leaves, here and there -/
def PC (h h' : zH) : Prop := zn h' = zn h ∧ zs h' = zs h ∧ zk h' = zk h ∧ zr h' = zr h ∧ (∀ a, a ≠ 9 → a ≠ 11 → zi h' a = zi h a) ∧ zi h' 9 2 = zi h 9 2
def PM (m m' : zH) : Prop := zn m' = zn m ∧ zs m' = zs m ∧ zk m' = zk m ∧ zr m' = zr m ∧ (∀ a, a ≠ 19 → a ≠ 42 → zi m' a = zi m a) ∧ ∀ k, k ≠ 2 → k ≠ 35 → zi m' 19 k = zi m 19 k
/-- a fault, told alike -/
def FT (h' m' : zH) (f : Nat) : Prop := 1 ≤ f ∧ f ≤ 4 ∧ zi h' 9 4 = nI f ∧ zi h' 9 3 = zi m' 19 2
section ZSC
variable {h h' h2 m m' m2 : zH} {T P Q F i k : Nat} {x y : Int32}
theorem PC_rfl : PC h h := ⟨rfl, rfl, rfl, rfl, fun _ _ _ => rfl, rfl⟩
theorem PM_rfl : PM m m := ⟨rfl, rfl, rfl, rfl, fun _ _ _ => rfl, fun _ _ _ => rfl⟩
theorem PC_tr (A : PC h h') (B : PC h' h2) : PC h h2 := ⟨B.1.trans A.1, B.2.1.trans A.2.1, B.2.2.1.trans A.2.2.1, B.2.2.2.1.trans A.2.2.2.1, fun a h1 h2 => (B.2.2.2.2.1 a h1 h2).trans (A.2.2.2.2.1 a h1 h2), B.2.2.2.2.2.trans A.2.2.2.2.2⟩
theorem PM_tr (A : PM m m') (B : PM m' m2) : PM m m2 := ⟨B.1.trans A.1, B.2.1.trans A.2.1, B.2.2.1.trans A.2.2.1, B.2.2.2.1.trans A.2.2.2.1, fun a h1 h2 => (B.2.2.2.2.1 a h1 h2).trans (A.2.2.2.2.1 a h1 h2), fun k h1 h2 => (B.2.2.2.2.2 k h1 h2).trans (A.2.2.2.2.2 k h1 h2)⟩
theorem PC_9 (hk : k ≠ 2) : PC h (zui h 9 k x) := ⟨rfl, rfl, rfl, rfl, fun a h1 _ => zi_f (Ne.symm h1), zi_uk (Ne.symm hk)⟩
theorem PC_11 : PC h (zui h 11 k x) := ⟨rfl, rfl, rfl, rfl, fun a _ h1 => zi_f (Ne.symm h1), zi_ua (by decide)⟩
theorem PM_19 (hk : k = 2 ∨ k = 35) : PM m (zui m 19 k x) := ⟨rfl, rfl, rfl, rfl, fun a h1 _ => zi_f (Ne.symm h1), fun j h1 h2 => zi_uk (by omega)⟩
theorem PM_42 : PM m (zui m 42 k x) := ⟨rfl, rfl, rfl, rfl, fun a _ h1 => zi_f (Ne.symm h1), fun j _ _ => zi_ua (by decide)⟩
theorem PC_cs (A : PC h h') (H : CS h) : CS h' := by
  obtain ⟨a1, -, a3, a4, -⟩ := A
  unfold CS
  rw [a1, a3, a4]
  exact H
theorem PM_ms (A : PM m m') (H : MS m) : MS m' := by
  obtain ⟨a1, -, a3, a4, -⟩ := A
  unfold MS
  rw [a1, a3, a4]
  exact H
theorem SS_p (S : SS h m T P) (hQ : Q ≤ T) : SS (zui h 9 5 (nI Q)) (zui m 19 35 (nI Q)) T Q := by
  obtain ⟨s1, s2, s3, s4, s5, s6, s7, s8, s9, s10, s11, s12⟩ := S
  exact ⟨s1, s2, s3, hQ, by rw [zi_uk (by decide)]; exact s5, by rw [zi_uk (by decide)]; exact s6, fun i hi => by rw [zi_ua (by decide), zi_ua (by decide)]; exact s7 i hi, zi_us, zi_us, by rw [zi_uk (by decide)]; exact s10, by rw [zi_uk (by decide)]; exact s11, by rw [zi_uk (by decide)]; exact s12⟩
theorem SS_n (S : SS h m T P) : SS (zui h 11 k x) (zui m 42 i y) T P := by
  obtain ⟨s1, s2, s3, s4, s5, s6, s7, s8, s9, s10, s11, s12⟩ := S
  exact ⟨s1, s2, s3, s4, by rw [zi_ua (by decide)]; exact s5, by rw [zi_ua (by decide)]; exact s6, fun i hi => by rw [zi_ua (by decide), zi_ua (by decide)]; exact s7 i hi, by rw [zi_ua (by decide)]; exact s8, by rw [zi_ua (by decide)]; exact s9, by rw [zi_ua (by decide)]; exact s10, by rw [zi_ua (by decide)]; exact s11, by rw [zi_ua (by decide)]; exact s12⟩
theorem q17 (S : SS h m T P) (hi : i ≤ 200) : zcall 17 [vR (some 9), vI (nI i)] h = some (some (vI (if i < T then zi m 20 i else -1)), h) := by
  obtain ⟨s1, s2, s3, s4, s5, s6, s7, s8, s9, s10, s11, s12⟩ := S
  rw [e17, if_neg (nI_nn (by omega)), Ci9_2 s1, s5]
  by_cases g : i < T
  · rw [if_pos (nI_lt g (by omega)), Cr9_0 s1, Cl10 s1, if_pos (nI_lt (by omega) (by decide)), Cr9_0 s1, Ca10 s1 (by omega), if_pos g, s7 i g]
  · rw [if_neg (nI_nlt (by omega) (by omega)), if_neg g]
theorem w16 : ∀ (k P : Nat) (h m : zH), P + k = T → SS h m T P → ∃ Q h' m', zev 16 0 [some (vR (some 9))] [] h = some (none, h') ∧ zev 116 0 [some (vR (some 19))] [] m = some (none, m') ∧ SS h' m' T Q ∧ PC h h' ∧ PM m m' ∧ P ≤ Q ∧ (Q < T → zi m 20 Q ≠ 32) ∧ zi h' 11 = zi h 11 ∧ zi m' 42 = zi m 42 := by
  intro k
  induction k with
  | zero =>
    intro P h m hk S
    obtain ⟨s1, s2, s3, s4, s5, s6, s7, s8, s9, s10, s11, s12⟩ := id S
    refine ⟨P, h, m, ?_, ?_, S, PC_rfl, PM_rfl, Nat.le_refl _, fun q => absurd q (by omega), rfl, rfl⟩
    · rw [b16_0, Ci9_5 s1, Ci9_2 s1, s8, s5, if_neg (nI_nlt (by omega) (by omega))]
    · rw [b116_0, Mi_at s2, Mi_texted s2, s9, s6, if_neg (nI_nlt (by omega) (by omega))]
  | succ k ih =>
    intro P h m hk S
    obtain ⟨s1, s2, s3, s4, s5, s6, s7, s8, s9, s10, s11, s12⟩ := id S
    have h17 := q17 (i := P) S (by omega)
    rw [if_pos (by omega)] at h17
    rw [b16_0, Ci9_5 s1, Ci9_2 s1, s8, s5, if_pos (nI_lt (by omega) (by omega)), Ci9_5 s1, s8, Cv9 s1, cI_k h17, b116_0, Mi_at s2, Mi_texted s2, s9, s6, if_pos (nI_lt (by omega) (by omega)), Mr_text s2, Mi_at s2, s9, Ma_text s2 (by omega)]
    by_cases g : zi m 20 P = 32
    · rw [if_pos g, if_pos g, Ci9_5 s1, s8, Cp9_5 s1, Mi_at s2, s9, Mp_at s2, nI_1]
      obtain ⟨Q, h', m', e1, e2, S', A, B, c1, c2, c3, c4⟩ := ih (P + 1) _ _ (by omega) (SS_p S (show P + 1 ≤ T by omega))
      refine ⟨Q, h', m', e1, e2, S', PC_tr (PC_9 (by decide)) A, PM_tr (PM_19 (Or.inr rfl)) B, by omega, fun q => ?_, c3.trans (zi_f (by decide)), c4.trans (zi_f (by decide))⟩
      have := c2 q
      rw [zi_ua (by decide)] at this
      exact this
    · rw [if_neg g, if_neg g]
      exact ⟨P, h, m, rfl, rfl, S, PC_rfl, PM_rfl, Nat.le_refl _, fun _ => g, rfl, rfl⟩
theorem q16 (S : SS h m T P) : ∃ Q h' m', zcall 16 [vR (some 9)] h = some (none, h') ∧ zcall 116 [vR (some 19)] m = some (none, m') ∧ SS h' m' T Q ∧ PC h h' ∧ PM m m' ∧ P ≤ Q ∧ (Q < T → zi m 20 Q ≠ 32) ∧ zi h' 11 = zi h 11 ∧ zi m' 42 = zi m 42 := by
  obtain ⟨Q, h', m', e1, e2, q⟩ := w16 (T - P) P h m (by have := S.2.2.2.1; omega) S
  exact ⟨Q, h', m', ((e16 _ _).trans (b16_0 _ _).symm).trans e1, ((e116 _ _).trans (b116_0 _ _).symm).trans e2, q⟩
theorem q22 : zcall 22 [vI x] h = some (some (vI (if 48 ≤ x.toInt ∧ x.toInt ≤ 57 then 1 else 0)), h) := by
  rw [e22]
  simp only [Int32.lt_iff_toInt_lt, show (48 : Int32).toInt = 48 by decide, show (57 : Int32).toInt = 57 by decide, bo_0, bo_1]
  repeat' split
  all_goals first | rfl | (exfalso; omega)
/-- the figures of a number -/
theorem w21 {l1 l2 o mn kk : Int32} : ∀ (k P : Nat) (h m : zH) (V V' : Int32), P + k = T → SS h m T P → F ≤ P → (P - F ≤ 2 → V = V') → ∃ Q h' m' V1 V2, zev 21 8 [some (vR (some 9)), some (vI l1), some (vI l2), some (vI (nI F)), some (vI V)] [] h = zev 21 65 [some (vR (some 9)), some (vI l1), some (vI l2), some (vI (nI F)), some (vI V1)] [] h' ∧ zev 119 20 [some (vR (some 19)), some (vI o), some (vI mn), some (vI kk), some (vI (nI F)), some (vI V')] [] m = zev 119 102 [some (vR (some 19)), some (vI o), some (vI mn), some (vI kk), some (vI (nI F)), some (vI V2)] [] m' ∧ SS h' m' T Q ∧ PC h h' ∧ PM m m' ∧ P ≤ Q ∧ (Q - F ≤ 2 → V1 = V2) ∧ zi h' 11 = zi h 11 ∧ zi m' 42 = zi m 42 := by
  intro k
  induction k with
  | zero =>
    intro P h m V V' hk S hF hV
    obtain ⟨s1, s2, s3, s4, s5, s6, s7, s8, s9, s10, s11, s12⟩ := id S
    refine ⟨P, h, m, V, V', ?_, ?_, S, PC_rfl, PM_rfl, Nat.le_refl _, hV, rfl, rfl⟩
    · rw [b21_8, Ci9_5 s1, Ci9_2 s1, s8, s5, if_neg (nI_nlt (by omega) (by omega))]
    · rw [b119_20, Mi_at s2, Mi_texted s2, s9, s6, if_neg (nI_nlt (by omega) (by omega))]
  | succ k ih =>
    intro P h m V V' hk S hF hV
    obtain ⟨s1, s2, s3, s4, s5, s6, s7, s8, s9, s10, s11, s12⟩ := id S
    have h17 := q17 (i := P) S (by omega)
    rw [if_pos (by omega)] at h17
    rw [b21_8, Ci9_5 s1, Ci9_2 s1, s8, s5, if_pos (nI_lt (by omega) (by omega)), Ci9_5 s1, s8, Cv9 s1, cI_k h17, cI_k q22, Ci9_5 s1, s8, Cv9 s1, cI_k h17, Ci9_5 s1, s8, Cp9_5 s1, nI_1, b119_20, Mi_at s2, Mi_texted s2, s9, s6, if_pos (nI_lt (by omega) (by omega)), Mr_text s2, Mi_at s2, s9, Ma_text s2 (by omega), cI_k (q113 _ _ _ _), Mi_at s2, s9, Mr_text s2, Mi_at s2, s9, Ma_text s2 (by omega), Mi_at s2, s9, Mp_at s2, Mi_at s2, s9, Mp_at s2, nI_1]
    simp only [z64, show (48 : Int64).toInt = 48 by decide, show (57 : Int64).toInt = 57 by decide]
    by_cases g : 48 ≤ (zi m 20 P).toInt ∧ (zi m 20 P).toInt ≤ 57
    · rw [if_pos g, if_neg (show ¬ (1 : Int32) = 0 by decide), if_neg (show ¬ (1 : Int32) = 0 by decide)]
      have SP := SS_p S (show P + 1 ≤ T by omega)
      have esub : nI P - nI F = nI (P - F) := pk_sub hF
      rw [esub]
      by_cases g2 : P - F < 2
      · rw [if_pos (show nI (P - F) < (2 : Int32) from nI_lt (a := P - F) (b := 2) g2 (by decide))]
        obtain ⟨Q, h', m', V1, V2, e1, e2, S', A, B, c1, c2, c3, c4⟩ := ih (P + 1) _ _ (10 * V + zi m 20 P - 48) (10 * V' + zi m 20 P - 48) (by omega) SP (by omega) (fun _ => by rw [hV (by omega)])
        exact ⟨Q, h', m', V1, V2, e1, e2, S', PC_tr (PC_9 (by decide)) A, PM_tr (PM_19 (Or.inr rfl)) B, by omega, c2, c3.trans (zi_f (by decide)), c4.trans (zi_f (by decide))⟩
      · rw [if_neg (show ¬ nI (P - F) < (2 : Int32) from nI_nlt (a := P - F) (b := 2) (by omega) (by omega))]
        obtain ⟨Q, h', m', V1, V2, e1, e2, S', A, B, c1, c2, c3, c4⟩ := ih (P + 1) _ _ (10 * V + zi m 20 P - 48) V' (by omega) SP (by omega) (fun q => absurd q (by omega))
        exact ⟨Q, h', m', V1, V2, e1, e2, S', PC_tr (PC_9 (by decide)) A, PM_tr (PM_19 (Or.inr rfl)) B, by omega, c2, c3.trans (zi_f (by decide)), c4.trans (zi_f (by decide))⟩
    · rw [if_neg g, if_pos rfl, if_pos rfl]
      exact ⟨P, h, m, V, V', rfl, rfl, S, PC_rfl, PM_rfl, Nat.le_refl _, hV, rfl, rfl⟩
theorem q20 (H : CS h) {f : Int32} : zcall 20 [vR (some 9), vI f, vI x] h = some (none, zui (zui h 9 4 f) 9 3 x) := by
  rw [e20, Cp9_4 H, Cp9_3 (show CS (zui h 9 4 f) from H)]
theorem q118 (H : MS m) {f : Int32} : zcall 118 [vR (some 19), vI f, vI x] m = some (some (vI f), zui m 19 2 x) := by
  rw [e118, Mp_faultPlace H]
theorem FT_mk {f : Nat} (h1 : 1 ≤ f) (h4 : f ≤ 4) : FT (zui (zui h 9 4 (nI f)) 9 3 x) (zui m 19 2 x) f := ⟨h1, h4, by rw [zi_uk (by decide), zi_us], by rw [zi_us, zi_us]⟩
theorem FT_n {f : Nat} (A : FT h m f) : FT (zui h 11 k x) m f := by
  obtain ⟨a1, a2, a3, a4⟩ := A
  exact ⟨a1, a2, by rw [zi_ua (by decide)]; exact a3, by rw [zi_ua (by decide)]; exact a4⟩
theorem PC_f {f : Int32} : PC h (zui (zui h 9 4 f) 9 3 x) := PC_tr (PC_9 (by decide)) (PC_9 (by decide))
end ZSC
