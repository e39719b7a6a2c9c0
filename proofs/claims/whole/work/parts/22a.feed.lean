theorem byte_and (w : Int64) : w.toInt32.toInt8.toInt32.toInt8.toInt32 &&& 255 = (w &&& 255).toInt32 := by
  have a32 : ∀ i, i < 32 → (255#32).getLsbD i = decide (i < 8) := by decide
  have a64 : ∀ i, i < 32 → (255#64).getLsbD i = decide (i < 8) := by decide
  rw [Int8.toInt8_toInt32, Int64.toInt8_toInt32]
  apply Int32.toBitVec_inj.mp
  apply BitVec.eq_of_getLsbD_eq
  intro i hi
  show ((BitVec.signExtend 32 (BitVec.signExtend 8 w.toBitVec)) &&& 255#32).getLsbD i = (BitVec.signExtend 32 (w.toBitVec &&& 255#64)).getLsbD i
  rw [BitVec.getLsbD_and, BitVec.getLsbD_signExtend, BitVec.getLsbD_signExtend, BitVec.getLsbD_signExtend, BitVec.getLsbD_and, a32 i hi, a64 i hi]
  have h64 : i < 64 := by omega
  by_cases g : i < 8
  · simp [g, hi, h64]
  · simp [g, h64]
section ZFE
variable {hc hm : zH} {n p s c t T : Nat} {x y : Int32} {z : Int64}
/-- a byte more -/
theorem R_byte (r : R hc hm n p s c t) (e1 : zi hc 9 2 = nI T) (hT : T < 200) (hxy : y = x &&& 255) : R (zui (zui hc 10 T x) 9 2 (nI (T + 1))) (zui (zui hm 20 T y) 19 1 (nI (T + 1))) n p s c t := by
  obtain ⟨w, rm, rk, rx, rmo, rl, rd, rh, rg, rb, bs, rt, ro⟩ := id r
  have ht := (R_c r).2
  have F : Fr hc (zui (zui hc 10 T x) 9 2 (nI (T + 1))) := Fx (Fx (Fr_rfl w.1) (by decide) w.1) (by decide) w.1
  have N : MF hm (zui (zui hm 20 T y) 19 1 (nI (T + 1))) := MF_u (MF_ui (by decide) (by decide)) (by decide) (by decide)
  obtain ⟨k1, k2, k3, k4, k5, k6, k7, k8, k9, k10, k11, k12, k13, k14, k15, k16, k19⟩ := rk
  obtain ⟨T', t1, t2, t3, t4⟩ := rx
  have eT : T' = T := (nI_eq (by omega) (by omega)).mp (t2.symm.trans e1)
  subst eT
  refine R_fix r F N (fun l k hl => ?_) (fun _ _ => rfl) (by rw [zi_f (by decide), zi_f (by decide)]) (by rw [zi_f (by decide), zi_f (by decide)]) (fun a h1 h2 h3 => by rw [zi_f (by omega), zi_f (by omega)]) ?_ ⟨T' + 1, by omega, zi_us, zi_us, fun i hi => ?_⟩ (RM_cg rmo (by rw [zi_f (by decide), zi_f (by decide)]) (by rw [zi_f (by decide), zi_f (by decide)])) (Nat.le_refl _) ht rfl rfl
  · show zi (zui (zui hc 10 T' x) 9 2 (nI (T' + 1))) (zla hc l) k = zi hc (zla hc l) k
    rw [zl_a w hl (by decide), zl_a w hl (by decide)]
  · exact ⟨k1, k2, k3, k4, k5, k6, k7, k8, k9, k10, k11, k12, k13, k14, k15, k16, k19⟩
  · rw [zi_ua (show (20 : Nat) ≠ 19 by decide), zi_ua (show (10 : Nat) ≠ 9 by decide), zi_ui, zi_ui]
    by_cases g : i = T'
    · rw [if_pos ⟨rfl, g⟩, if_pos ⟨rfl, g⟩, hxy]
    · rw [if_neg (fun q => g q.2), if_neg (fun q => g q.2)]
      exact t4 i (by omega)
theorem w11 : ∀ (k T : Nat) (hc hm : zH), R hc hm n p s c t → zi hc 9 2 = nI T → T + k ≤ 200 → k ≤ 8 → ∃ hc' hm', zev 11 21 [some (vR (some 9)), some (vI x), some (vL z), none, some (vI (nI k + -1))] [] hc = some (some (vI 1), hc') ∧ zev 112 37 [some (vR (some 19)), some (vI x), some (vL z), none, some (vI (nI k + -1))] [] hm = some (some (vI (nI (T + k))), hm') ∧ R hc' hm' n p s c t ∧ zi hc' 9 2 = nI (T + k) ∧ FO hc hc' ∧ MF hm hm' := by
  intro k
  induction k with
  | zero =>
    intro T hc hm r e hT hk
    obtain ⟨w, rm, rk, rx, -⟩ := id r
    obtain ⟨T', t1, t2, t3, t4⟩ := rx
    refine ⟨hc, hm, ?_, ?_, r, e, FO_rfl, MF_rfl⟩
    · rw [b11_21, if_pos (by decide), bo_1]
    · rw [b112_37, if_pos (by decide), Mi_texted rm, t3, ← t2, e]
      rfl
  | succ k ih =>
    intro T hc hm r e hT hk
    obtain ⟨w, rm, rk, rx, -⟩ := id r
    obtain ⟨T', t1, t2, t3, t4⟩ := id rx
    have eT : T' = T := (nI_eq (by omega) (by omega)).mp (t2.symm.trans e)
    subst eT
    generalize hb : z >>> (Int32.toInt64 (8 * nI k) &&& 63) = b
    have r1 := R_byte (x := b.toInt32.toInt8.toInt32.toInt8.toInt32) (y := (b &&& 255).toInt32) r e (by omega) (byte_and b).symm
    have H1 : CS (zui hc 10 T' b.toInt32.toInt8.toInt32.toInt8.toInt32) := w.1
    have M1 : MS (zui hm 20 T' (b &&& 255).toInt32) := rm
    obtain ⟨h2, m2, f1, f2, f3, f4, f5, f6⟩ := ih (T' + 1) _ _ r1 zi_us (by omega) (by omega)
    have F1 : FO hc (zui (zui hc 10 T' b.toInt32.toInt8.toInt32.toInt8.toInt32) 9 2 (nI (T' + 1))) := FO_tr (FO_ui (by decide)) (FO_ui (by decide))
    rw [show T' + 1 + k = T' + (k + 1) by omega] at f2 f4
    refine ⟨h2, m2, ?_, ?_, f3, f4, FO_tr F1 f5, MF_tr (MF_u (MF_ui (by decide) (by decide)) (by decide) (by decide)) f6⟩
    · rw [pk_m1, b11_21, if_neg (nI_nn (by omega)), Ci9_2 w.1, e, Cr9_0 w.1, Cl10 w.1, if_pos (nI_lt (by omega) (by decide)), Cr9_0 w.1, Ci9_2 w.1, e, hb, Ct10 w.1 (by omega), Ci9_2 H1, zi_ua (by decide), e, Cp9_2 H1, nI_1]
      exact f1
    · rw [pk_m1, b112_37, if_neg (nI_nn (by omega)), Mr_text rm, Mi_texted rm, t3, hb, Mt_text rm (by omega), Mi_texted M1, zi_ua (by decide), t3, Mp_texted M1, nI_1]
      exact f2
theorem J_feed : JG 10 112 [vI x, vL z] := by
  intro hc hm n p s c t r ht
  obtain ⟨w, rm, rk, rx, -⟩ := id r
  obtain ⟨T, t1, t2, t3, t4⟩ := id rx
  have e1 := e10 (some 8) x z hc
  have e2 := e112 (some 19) x z hm
  rw [cI_k (q113 _ _ _ _)] at e2
  simp only [z64, show (1 : Int64).toInt = 1 by decide, show (8 : Int64).toInt = 8 by decide] at e2
  by_cases hx : 1 ≤ x.toInt ∧ x.toInt ≤ 8
  · obtain ⟨N, hN, rfl, hN2⟩ := zof (x := x) (n := 9) (by decide) ⟨by omega, by omega⟩
    rw [if_pos hx, if_neg (by decide), Mi_texted rm, t3, nI_add, sub1] at e2
    rw [if_neg (show ¬ nI N < (1 : Int32) from nI_nlt (a := N) (b := 1) (by omega) (by omega)), if_neg (show ¬ (8 : Int32) < nI N from nI_nlt (a := 8) (b := N) (by omega) (by decide)), Cr8_0 w.1, Cv9 w.1] at e1
    by_cases g : T + N ≤ 200
    · have g' : ¬ (200 : Int32) < nI (T + N) := nI_nlt (a := 200) (b := T + N) g (by decide)
      rw [if_neg g'] at e2
      obtain ⟨h2, m2, f1, f2, f3, f4, f5, f6⟩ := w11 (x := nI N) (z := z) N T hc hm r t2 g (by omega)
      have h11 : zcall 11 [vR (some 9), vI (nI N), vL z] hc = some (some (vI 1), h2) := by
        rw [e11, Ci9_2 w.1, t2, Cr9_0 w.1, Cl10 w.1, nI_add, if_neg (nI_nlt g (by decide)), sub1]
        exact f1
      have w2 := f3.1
      rw [cI_k h11, if_neg (by decide), Cr8_0 w2.1, Ci9_2 w2.1, f4] at e1
      exact ⟨_, h2, m2, n, p, s, c, e1, e2.trans f2, R_t f3 (by omega) (by omega), f5, f6⟩
    · have g' : (200 : Int32) < nI (T + N) := nI_lt (a := 200) (b := T + N) (by omega) (by omega)
      rw [if_pos g'] at e2
      have h11 : zcall 11 [vR (some 9), vI (nI N), vL z] hc = some (some (vI 0), hc) := by
        rw [e11, Ci9_2 w.1, t2, Cr9_0 w.1, Cl10 w.1, nI_add, if_pos (nI_lt (by omega) (by omega)), bo_0]
      rw [cI_k h11, if_pos rfl] at e1
      exact J_no r ht e1 e2
  · rw [if_neg hx, if_pos rfl] at e2
    refine J_no r ht ?_ e2
    rw [e1]
    simp only [Int32.lt_iff_toInt_lt, show (1 : Int32).toInt = 1 by decide, show (8 : Int32).toInt = 8 by decide]
    by_cases g : x.toInt < 1
    · rw [if_pos g]
    · rw [if_neg g, if_pos (by omega)]
end ZFE
