/-- while street u is vacated: cells below j are done -/
def VM (hc hm : zH) (n u j : Nat) (h m : zH) : Prop := Fr hc h ∧ MF hm m ∧ (∀ a, a < 45 → a ≠ 14 → zi h a = zi (zui hc 15 u 1) a) ∧ (∀ i, i < 320 → zi h 14 i = if i < j ∧ zi hm 21 i = nI (100 + u) then nI (200 + u) else zi hc 14 i) ∧ (∀ l k, l < n → k ≠ 5 → cf h l k = cf hc l k) ∧ (∀ l, l < n → zr h (zla hc l) 9 = zr hc (zla hc l) 9) ∧ zn h = zn hc ∧ zs h = zs hc ∧ (∀ a, 19 ≤ a → a ≤ 44 → a ≠ 23 → zi m a = zi (zui hm 33 u 1) a) ∧ ∀ l, l < n → cArea h l = zi m 23 l
section ZVB
variable {h m hc hm : zH} {a b n p s c t i l x y u j : Nat} {z z1 z2 : Int32} {g v : Nat → Int32}
theorem cA_add {h h' : zH} {d : Int32} (C : ∀ k, k ≠ 5 → cf h' l k = cf h l k) (e : cf h' l 5 = cf h l 5 + d) : cArea h' l = cArea h l + d := by
  show 2 * cf h' l 2 * cf h' l 3 + cf h' l 5 = 2 * cf h l 2 * cf h l 3 + cf h l 5 + d
  rw [C 2 (by decide), C 3 (by decide), e, Int32.add_assoc]
theorem two_1 (z : Int32) : z + 1 + 1 = z + 2 := by rw [Int32.add_assoc]; rfl
/-- halves: here and there -/
theorem hv_eq (w : LW h n) (ha : a < n) (hb : b < 40 → b < n) (hab : a < b) (A : ∀ l, l < n → cArea h l = zi m 23 l) : Fr h (cHv h a b) ∧ MF m (mHv m a b) ∧ (∀ l k, l < n → k ≠ 5 → cf (cHv h a b) l k = cf h l k) ∧ (∀ a', a' < 45 → zi (cHv h a b) a' = zi h a') ∧ zr (cHv h a b) = zr h ∧ zn (cHv h a b) = zn h ∧ zs (cHv h a b) = zs h ∧ (∀ a', a' ≠ 23 → zi (mHv m a b) a' = zi m a') ∧ ∀ l, l < n → cArea (cHv h a b) l = zi (mHv m a b) 23 l := by
  have N : MF m (mHv m a b) := MF_u (MF_ui (by decide) (by decide)) (by decide) (by decide)
  have Nm : ∀ a', a' ≠ 23 → zi (mHv m a b) a' = zi m a' := fun a' q => by
    unfold mHv
    rw [zi_f (Ne.symm q), zi_f (Ne.symm q)]
  by_cases gb : b < 40
  · have hb' := hb gb
    have F1 : Fr h (zui h (zla h a) 5 (zi h (zla h a) 5 + 1)) := Fl w (Fr_rfl w.1) ha
    have ec : cHv h a b = zui (zui h (zla h a) 5 (zi h (zla h a) 5 + 1)) (zla h b) 5 (zi (zui h (zla h a) 5 (zi h (zla h a) 5 + 1)) (zla h b) 5 + 1) := if_pos gb
    have C : ∀ l k, l < n → cf (cHv h a b) l k = if l = b ∧ k = 5 then cf h b 5 + 1 else if l = a ∧ k = 5 then cf h a 5 + 1 else cf h l k := fun l k hl => by
      rw [ec]
      show zi (zui (zui h (zla h a) 5 (zi h (zla h a) 5 + 1)) (zla h b) 5 (zi (zui h (zla h a) 5 (zi h (zla h a) 5 + 1)) (zla h b) 5 + 1)) (zla h l) k = _
      rw [zl_l w hl hb', zl_l w hb' ha, if_neg (show ¬ (b = a ∧ 5 = 5) by omega), zl_l w hl ha]
      rfl
    have em : ∀ l, zi (mHv m a b) 23 l = if l = b then zi m 23 b + 1 else if l = a then zi m 23 a + 1 else zi m 23 l := fun l => by
      unfold mHv
      rw [if_pos gb, zi_ui, zi_ui, zi_ui, if_neg (show ¬ (23 = 23 ∧ b = a) by omega)]
      simp
    refine ⟨by rw [ec]; exact Fl w F1 hb', N, fun l k hl hk => by rw [C l k hl, if_neg (fun q => hk q.2), if_neg (fun q => hk q.2)], fun a' q => ?_, by rw [ec]; rfl, by rw [ec]; rfl, by rw [ec]; rfl, Nm, fun l hl => ?_⟩
    · rw [ec]
      funext k
      rw [zl_f w hb' q, zl_f w ha q]
    · rw [em]
      by_cases e1 : l = b
      · subst e1
        rw [if_pos rfl, ← A l hl]
        exact cA_add (fun k hk => by rw [C l k hl, if_neg (fun q => hk q.2), if_neg (fun q => hk q.2)]) (by rw [C l 5 hl, if_pos ⟨rfl, rfl⟩])
      · rw [if_neg e1]
        by_cases e2 : l = a
        · subst e2
          rw [if_pos rfl, ← A l hl]
          exact cA_add (fun k hk => by rw [C l k hl, if_neg (fun q => hk q.2), if_neg (fun q => hk q.2)]) (by rw [C l 5 hl, if_neg (fun q => e1 q.1), if_pos ⟨rfl, rfl⟩])
        · rw [if_neg e2, ← A l hl]
          exact cA_cg (fun k => by rw [C l k hl, if_neg (fun q => e1 q.1), if_neg (fun q => e2 q.1)])
  · have ec : cHv h a b = zui h (zla h a) 5 (zi h (zla h a) 5 + 2) := if_neg gb
    have C : ∀ l k, l < n → cf (cHv h a b) l k = if l = a ∧ k = 5 then cf h a 5 + 2 else cf h l k := fun l k hl => by
      rw [ec]
      exact cf_l w hl ha
    have em : ∀ l, zi (mHv m a b) 23 l = if l = a then zi m 23 a + 2 else zi m 23 l := fun l => by
      unfold mHv
      rw [if_neg gb, zi_ui, zi_us, two_1, zi_ui]
      by_cases q : l = a
      · simp [q]
      · simp [q]
    refine ⟨by rw [ec]; exact Fl w (Fr_rfl w.1) ha, N, fun l k hl hk => by rw [C l k hl, if_neg (fun q => hk q.2)], fun a' q => ?_, by rw [ec]; rfl, by rw [ec]; rfl, by rw [ec]; rfl, Nm, fun l hl => ?_⟩
    · rw [ec]
      funext k
      rw [zl_f w ha q]
    · rw [em]
      by_cases e2 : l = a
      · subst e2
        rw [if_pos rfl, ← A l hl]
        exact cA_add (fun k hk => by rw [C l k hl, if_neg (fun q => hk q.2)]) (by rw [C l 5 hl, if_pos ⟨rfl, rfl⟩])
      · rw [if_neg e2, ← A l hl]
        exact cA_cg (fun k => by rw [C l k hl, if_neg (fun q => e2 q.1)])
theorem st_same (G : RG hc g v n s) (hn : n ≤ 40) (hs : s ≤ 12) (hu : u < s) (hv : v u = 0) (hj : j < 320) : zi hc 14 j = nI (100 + u) ↔ g j = nI (100 + u) := by
  rcases G.2.1 j hj with ⟨e1, e2⟩ | ⟨l, hl, e1, e2⟩ | ⟨u2, hu2, e1, e2⟩
  · rw [e1, e2]
  · rw [e1, e2]
  · rw [e1, e2]
    by_cases q : u2 = u
    · subst q
      rw [if_pos hv]
    · constructor
      · intro q2
        split at q2
        · exact q2
        · have := (nI_eq (by omega) (by omega)).mp q2
          omega
      · intro q2
        have := (nI_eq (by omega) (by omega)).mp q2
        omega
theorem w62 (r : R hc hm n p s c t) (hu : u < s) (hv : zi hm 33 u = 0) : ∀ (k j : Nat) (z : Int32) (h m : zH) (u4 u5 u6 u7 : Option zV), j + k = 320 → VM hc hm n u j h m → ∃ z' h' m', zev 62 26 [some (vR (some 13)), some (vI (nI u)), some (vI z), some (vI (nI j))] [] h = some (some (vI z'), h') ∧ zev 136 44 [some (vR (some 19)), some (vI (nI u)), some (vI z), some (vI (nI j)), u4, u5, u6, u7] [] m = some (some (vI z'), m') ∧ VM hc hm n u 320 h' m' := by
  obtain ⟨w, rm, rk, rx, rmo, rl, rd, rh, rg, rb, bs, rt, ro⟩ := id r
  have hn := w.2.1
  have hs : s ≤ 12 := rk.2.2.2.2.2.2.1
  obtain ⟨f, hf⟩ := rects rg
  have V := gval_of rg
  intro k
  induction k with
  | zero =>
    intro j z h m u4 u5 u6 u7 hj M
    have : j = 320 := by omega
    subst this
    obtain ⟨F, N, -⟩ := id M
    have rm' := MF_ms N rm
    refine ⟨z, h, m, ?_, ?_, M⟩
    · rw [b62_26, Cr13_0 F.2.1, Cl14 F.2.1, if_neg (nI_nlt (Nat.le_refl _) (by decide))]
    · rw [b136_44, if_neg (by decide)]
  | succ k ih =>
    intro j z h m u4 u5 u6 u7 hj M
    obtain ⟨F, N, M1, M2, M3, M4, M5, M6, M7, M8⟩ := id M
    have rm' := MF_ms N rm
    have w' := Fr_LW w F
    have e21 : zi m 21 = zi hm 21 := by rw [M7 21 (by decide) (by decide) (by decide)]; exact zi_f (by decide)
    have e14 : zi h 14 j = zi hc 14 j := by rw [M2 j (by omega), if_neg (by omega)]
    have eu : (100 : Int32) + nI u = nI (100 + u) := nI_add 100 u
    have eu2 : (200 : Int32) + nI u = nI (200 + u) := nI_add 200 u
    rw [b62_26, Cr13_0 F.2.1, Cl14 F.2.1, if_pos (nI_lt (by omega) (by decide)), Cr13_0 F.2.1, Ca14 F.2.1 (by omega), b136_44, if_pos (show nI j < (320 : Int32) from nI_lt (a := j) (b := 320) (by omega) (by decide)), Mr_cells rm', Ma_cells rm' (by omega), eu, eu2, e14, e21, nI_1]
    have hss := st_same rg hn hs hu hv (show j < 320 by omega)
    by_cases g1 : zi hm 21 j = nI (100 + u)
    · rw [if_pos (hss.mpr g1), if_pos g1]
      -- the cell's own change
      have F6 : Fr hc (zui h 14 j (nI (200 + u))) := Fx F (by decide) w.1
      have w6 := Fr_LW w F6
      have C6 : ∀ l k, l < n → cf (zui h 14 j (nI (200 + u))) l k = cf h l k := fun l k hl => cf_a w' (by decide) hl
      have hrecs : recs (zui h 14 j (nI (200 + u))) n f := fun l hl => by
        obtain ⟨q1, q2, q3, q4, q5⟩ := rct_rec (hf l hl)
        refine ⟨?_, ?_, ?_, ?_, q5⟩
        · rw [C6 l 0 hl, M3 l 0 hl (by decide)]; exact q1
        · rw [C6 l 1 hl, M3 l 1 hl (by decide)]; exact q2
        · rw [C6 l 2 hl, M3 l 2 hl (by decide)]; exact q3
        · rw [C6 l 3 hl, M3 l 3 hl (by decide)]; exact q4
      have ej : j = 20 * (j / 20) + j % 20 := by omega
      obtain ⟨a, b, T1, E1⟩ := q63 (x := j % 20) (y := j / 20) w6 hrecs (by omega) (by omega)
      obtain ⟨a2, b2, v4, v5, v6, v7, T2, E2⟩ := t136 (z1 := nI u) (z2 := z) (u7 := u7) rm' (by rw [e21]; exact V) hn hs (show j < 320 by omega)
      have T2' : two2 (fun j_1 => j_1 < n ∧ bes (f j_1).1 (f j_1).2.1 (f j_1).2.2.1 (f j_1).2.2.2 (j % 20) (j / 20) 1 1) a2 b2 := two_cg T2 (fun k hk => by
        rw [e21]
        have := side_iff (x := j % 20) (y := j / 20) V hf hn (by omega) (by omega) hs (show u < 12 by omega) (by rw [← ej]; exact g1) hk
        rw [← ej] at this
        exact this)
      obtain ⟨ea, eb⟩ := two_u T1 T2'
      subst ea eb
      rw [Cr13_0 F.2.1, Ct14 F.2.1 (by omega), dv_k (by decide), dv_k (by decide), Cv13 F6.2.1, show nI j - nI j / 20 * 20 = nI (j % 20) from pk_rem (a := j) (d := 20) (by omega) (by decide) (by decide), show nI j / 20 = nI (j / 20) from pk_div (a := j) (d := 20) (by omega) (by decide) (by decide), E2]
      have M6a : ∀ l, l < n → cArea (zui h 14 j (nI (200 + u))) l = zi m 23 l := fun l hl => by rw [← M8 l hl]; exact cA_cg (fun k => C6 l k hl)
      have M14 : ∀ i, i < 320 → zi (zui h 14 j (nI (200 + u))) 14 i = if i < j + 1 ∧ zi hm 21 i = nI (100 + u) then nI (200 + u) else zi hc 14 i := fun i hi => by
        rw [zi_ui]
        by_cases q : i = j
        · subst q
          rw [if_pos ⟨rfl, rfl⟩, if_pos ⟨by omega, g1⟩]
        · rw [if_neg (fun q2 => q q2.2), M2 i hi]
          by_cases q2 : zi hm 21 i = nI (100 + u)
          · by_cases q3 : i < j
            · rw [if_pos ⟨q3, q2⟩, if_pos ⟨by omega, q2⟩]
            · rw [if_neg (fun q4 => q3 q4.1), if_neg (fun q4 => by omega)]
          · rw [if_neg (fun q4 => q2 q4.2), if_neg (fun q4 => q2 q4.2)]
      by_cases ga : a < 40
      · have ha := (T1.2.2.2.1 ga).1
        have hv := hv_eq (m := m) w6 ha (fun q => (T1.2.2.2.2.1 q).1) (by have := T1.2.2.1; omega) M6a
        obtain ⟨v1, v2, v3, v4, v5, v6, v7, v8, v9⟩ := hv
        rw [if_pos ga] at E1 ⊢
        rw [cI_k E1, if_neg (by decide)]
        refine ih (j + 1) (z + 1) _ _ _ _ _ _ (by omega) ⟨Fr_tr F6 v1, MF_tr N v2, fun a' q1 q2 => ?_, fun i hi => ?_, fun l k hl hk => ?_, fun l hl => ?_, ?_, ?_, fun a' q1 q2 q3 => ?_, v9⟩
        · rw [v4 a' q1, zi_f (Ne.symm q2), M1 a' q1 q2]
        · rw [v4 14 (by decide)]; exact M14 i hi
        · rw [v3 l k hl hk, C6 l k hl, M3 l k hl hk]
        · rw [v5]; exact M4 l hl
        · rw [v6]; exact M5
        · rw [v7]; exact M6
        · rw [v8 a' q3, M7 a' q1 q2 q3]
      · rw [if_neg ga] at E1 ⊢
        rw [cI_k E1, if_pos rfl, Int32.add_zero]
        refine ih (j + 1) z _ _ _ _ _ _ (by omega) ⟨F6, N, fun a' q1 q2 => ?_, M14, fun l k hl hk => ?_, M4, M5, M6, M7, M6a⟩
        · rw [zi_f (Ne.symm q2), M1 a' q1 q2]
        · rw [C6 l k hl, M3 l k hl hk]
    · rw [if_neg (fun q => g1 (hss.mp q)), if_neg g1]
      refine ih (j + 1) z h m _ _ _ _ (by omega) ⟨F, N, M1, fun i hi => ?_, M3, M4, M5, M6, M7, M8⟩
      rw [M2 i hi]
      by_cases q2 : zi hm 21 i = nI (100 + u)
      · have : i ≠ j := fun q3 => g1 (q3 ▸ q2)
        by_cases q3 : i < j
        · rw [if_pos ⟨q3, q2⟩, if_pos ⟨by omega, q2⟩]
        · rw [if_neg (fun q4 => q3 q4.1), if_neg (fun q4 => by omega)]
      · rw [if_neg (fun q4 => q2 q4.2), if_neg (fun q4 => q2 q4.2)]
theorem J_vacate : JG 59 136 [vI z] := by
  intro hc hm n p s c t r ht
  obtain ⟨w, rm, rk, rx, rmo, rl, rd, rh, rg, rb, bs, rt, ro⟩ := id r
  obtain ⟨k1, k2, k3, k4, k5, k6, k7, k8, k9, k10, k11, k12, k13, k14, k15, k16, k19⟩ := id rk
  have hn := w.2.1
  have es : (nI s - 1).toInt = (s : Int) - 1 := by
    have := pk_sub_toInt (a := s) (b := 1) (by omega) (by omega)
    simpa [nI] using this
  have h60 : zcall 60 [vR (some 13), vI z] hc = some (some (vI (if 0 ≤ z.toInt ∧ z.toInt < s then 1 else 0)), hc) := by
    rw [e60, Ci13_3 w.1, k5]
    simp only [Int32.lt_iff_toInt_lt, Int32.toInt_zero, nI_toInt (show s < 2 ^ 31 by omega), bo_0, bo_1]
    repeat' split
    all_goals first | rfl | (exfalso; omega)
  by_cases hz : 0 ≤ z.toInt ∧ z.toInt < s
  · obtain ⟨u, hu, rfl, -⟩ := zof (x := z) (n := s) (by omega) hz
    have ev := (rg.2.2.1 u hu).1
    have h61 : zcall 61 [vR (some 13), vI (nI u)] hc = some (some (vI (if zi hm 33 u = 0 then 0 else 1)), hc) := by
      rw [e61, if_neg (nI_nn (by omega)), Cr13_1 w.1, Cl15 w.1, if_pos (nI_lt (by omega) (by decide)), Cr13_1 w.1, Ca15 w.1 (by omega), bo_0, bo_1, ev]
      split <;> rfl
    have e2 := e136 (some 19) (nI u) hm
    rw [Mi_streets rm, k6, cI_k (q113 _ _ _ _)] at e2
    simp only [z64, show (0 : Int64).toInt = 0 by decide, es] at e2
    rw [if_pos (show 0 ≤ (nI u).toInt ∧ (nI u).toInt ≤ (s : Int) - 1 by omega), if_neg (by decide), Mr_vacated rm, Ma_vacated rm (by omega)] at e2
    have e1 := e59 (some 8) (nI u) hc
    rw [Cr8_1 w.1, Cr12_0 w.1, Cv13 w.1, cI_k h60, if_pos hz, if_neg (by decide), Cr8_1 w.1, Cr12_0 w.1, Cv13 w.1, cI_k h61] at e1
    by_cases g : zi hm 33 u = 0
    · rw [if_pos g, Mr_vacated rm, Mt_vacated rm (by omega) (Or.inr rfl)] at e2
      rw [if_pos g, if_pos rfl, Cr8_1 w.1, Cr12_0 w.1, Cv13 w.1] at e1
      have F0 : Fr hc (zui hc 15 u 1) := Fx (Fr_rfl w.1) (by decide) w.1
      have N0 : MF hm (zui hm 33 u 1) := MF_ui (by decide) (by decide)
      have C0 : ∀ l k, l < n → cf (zui hc 15 u 1) l k = cf hc l k := fun l k hl => cf_a w (by decide) hl
      obtain ⟨z', h', m', q1, q2, M⟩ := w62 r hu g 320 0 0 (zui hc 15 u 1) (zui hm 33 u 1) none none none none (by omega) ⟨F0, N0, fun _ _ _ => rfl, fun i hi => by rw [if_neg (by omega)]; exact zi_ua (by decide), fun l k hl _ => C0 l k hl, fun _ _ => rfl, rfl, rfl, fun _ _ _ _ => rfl, fun l hl => by
        rw [cA_cg (fun k => C0 l k hl), (rl l hl).2.2.2.2.2.2.2.1]
        exact (zi_ua (by decide)).symm⟩
      rw [nI_0] at q1 q2
      have h62 : zcall 62 [vR (some 13), vI (nI u)] hc = some (some (vI z'), h') := by
        rw [e62, if_neg (nI_nn (by omega)), Cr13_1 w.1, Cl15 w.1, if_pos (nI_lt (by omega) (by decide)), Cr13_1 w.1, Ct15 w.1 (by omega) (Or.inr rfl), q1]
      rw [cI_k h62] at e1
      rw [q2] at e2
      obtain ⟨F, N, M1, M2, M3, M4, M5, M6, M7, M8⟩ := M
      refine ⟨z', h', m', n, p, s, c, e1, e2, ?_, F.1, N⟩
      have ca : ∀ a, a < 45 → a ≠ 14 → a ≠ 15 → zi h' a = zi hc a := fun a q1 q2 q3 => by rw [M1 a q1 q2]; exact zi_f (Ne.symm q3)
      have ma : ∀ a, 19 ≤ a → a ≤ 44 → a ≠ 23 → a ≠ 33 → zi m' a = zi hm a := fun a q1 q2 q3 q4 => by rw [M7 a q1 q2 q3]; exact zi_f (Ne.symm q4)
      have e33 : ∀ i, zi m' 33 i = if i = u then 1 else zi hm 33 i := fun i => by
        rw [M7 33 (by decide) (by decide) (by decide), zi_ui]
        simp
      refine R_mk r F N ?_ (RX_cg rx (by rw [ca 9 (by decide) (by decide) (by decide)]) (ca 10 (by decide) (by decide) (by decide)) (by rw [ma 19 (by decide) (by decide) (by decide) (by decide)]) (ma 20 (by decide) (by decide) (by decide) (by decide))) (RM_cg rmo (ca 18 (by decide) (by decide) (by decide)) (ma 34 (by decide) (by decide) (by decide) (by decide))) (fun l hl => ?_) (fun l hl => ?_) (RH_cg rh (fun l hl => M3 l 10 hl (by decide)) (ma 35 (by decide) (by decide) (by decide) (by decide)) (ma 24 (by decide) (by decide) (by decide) (by decide))) ⟨fun l hl => ?_, fun j hj => ?_, fun u2 hu2 => ?_, fun u2 h1 h2 => ?_⟩ (ma 36 (by decide) (by decide) (by decide) (by decide)) (ma 37 (by decide) (by decide) (by decide) (by decide)) (ma 38 (by decide) (by decide) (by decide) (by decide)) (fun l hl _ e1 e2 => ?_) (RT_cg w F rt (fun l hl => ⟨M3 l 7 hl (by decide), M3 l 8 hl (by decide), M4 l hl⟩) (fun a ha => ma a (by omega) (by omega) (by omega) (by omega))) ?_
      · unfold RK
        rw [ca 17 (by decide) (by decide) (by decide), ca 13 (by decide) (by decide) (by decide), ca 12 (by decide) (by decide) (by decide), ca 9 (by decide) (by decide) (by decide), ma 19 (by decide) (by decide) (by decide) (by decide)]
        exact rk
      · rw [M8 l hl, ma 24 (by decide) (by decide) (by decide) (by decide), ma 25 (by decide) (by decide) (by decide) (by decide), ma 28 (by decide) (by decide) (by decide) (by decide), ma 30 (by decide) (by decide) (by decide) (by decide), ma 31 (by decide) (by decide) (by decide) (by decide), ma 32 (by decide) (by decide) (by decide) (by decide), M3 l 7 hl (by decide), M3 l 4 hl (by decide), M3 l 8 hl (by decide), M3 l 15 hl (by decide), M3 l 16 hl (by decide)]
        obtain ⟨l1, l2, l3, l4, l5, l6, l7, l8, l9⟩ := rl l hl
        exact ⟨l1, l2, l3, l4, l5, l6, l7, rfl, l9⟩
      · rw [ma 26 (by decide) (by decide) (by decide) (by decide), ma 27 (by decide) (by decide) (by decide) (by decide), ma 28 (by decide) (by decide) (by decide) (by decide), ma 29 (by decide) (by decide) (by decide) (by decide), M3 l 12 hl (by decide), M3 l 11 hl (by decide), M3 l 13 hl (by decide), M3 l 14 hl (by decide)]
        exact rd l hl
      · rw [M3 l 0 hl (by decide), M3 l 1 hl (by decide), M3 l 2 hl (by decide), M3 l 3 hl (by decide), ma 21 (by decide) (by decide) (by decide) (by decide)]
        exact rg.1 l hl
      · rw [ma 21 (by decide) (by decide) (by decide) (by decide), M2 j hj]
        rcases rg.2.1 j hj with ⟨y1, y2⟩ | ⟨l, hl, y1, y2⟩ | ⟨u2, hu2, y1, y2⟩
        · refine Or.inl ⟨y1, ?_⟩
          rw [if_neg (fun q => absurd (q.2.symm.trans y1) (nI_m1 (by omega)))]
          exact y2
        · refine Or.inr (Or.inl ⟨l, hl, y1, ?_⟩)
          rw [if_neg (fun q => by have := (nI_eq (by omega) (by omega)).mp (q.2.symm.trans y1); omega)]
          exact y2
        · refine Or.inr (Or.inr ⟨u2, hu2, y1, ?_⟩)
          rw [e33]
          by_cases q : u2 = u
          · subst q
            rw [if_pos ⟨hj, y1⟩, if_pos rfl, if_neg (by decide)]
          · rw [if_neg (fun q3 => by have := (nI_eq (by omega) (by omega)).mp (q3.2.symm.trans y1); omega), if_neg q]
            exact y2
      · rw [M1 15 (by decide) (by decide), e33, zi_ui]
        by_cases q : u2 = u
        · simp [q]
        · simp only [q, and_false, if_false]
          exact rg.2.2.1 u2 hu2
      · rw [M1 15 (by decide) (by decide), zi_ui, if_neg (by omega)]
        exact rg.2.2.2 u2 h1 h2
      · rw [ma 24 (by decide) (by decide) (by decide) (by decide), ma 25 (by decide) (by decide) (by decide) (by decide)]
        exact ⟨e1, e2⟩
      · obtain ⟨o1, o2, o3, o4⟩ := ro
        refine ⟨?_, by omega, by rw [M5]; omega, by rw [M6]; omega⟩
        unfold mow at o1 ⊢
        rw [ma 24 (by decide) (by decide) (by decide) (by decide)]
        omega
    · rw [if_neg g] at e2
      rw [if_neg g, if_neg (by decide)] at e1
      exact J_no r ht e1 e2
  · refine J_no r ht (v := -1001) ?_ ?_
    · rw [e59, Cr8_1 w.1, Cr12_0 w.1, Cv13 w.1, cI_k h60, if_neg hz, if_pos rfl]
    · rw [e136, Mi_streets rm, k6, cI_k (q113 _ _ _ _)]
      simp only [z64, show (0 : Int64).toInt = 0 by decide, es]
      rw [if_neg (show ¬ (0 ≤ z.toInt ∧ z.toInt ≤ (s : Int) - 1) by omega), if_pos rfl]
end ZVB
