/-- a step of a day, here and there -/
def ST (n p s t : Nat) (hc hm hc' hm' : zH) : Prop := (∃ c', R hc' hm' n p s c' t) ∧ FO hc hc' ∧ MF hm hm' ∧ zi hm' 19 24 = zi hm 19 24
section ZDA
variable {h h' hc hm hb hc' hm' hc2 hm2 m' : zH} {n p s c t l j k a b q d : Nat} {x y v : Int32}
theorem ST_rfl (r : R hc hm n p s c t) : ST n p s t hc hm hc hm := ⟨⟨c, r⟩, FO_rfl, MF_rfl, rfl⟩
theorem ST_tr (A : ST n p s t hc hm hc' hm') (B : ST n p s t hc' hm' hc2 hm2) : ST n p s t hc hm hc2 hm2 := ⟨B.1, FO_tr A.2.1 B.2.1, MF_tr A.2.2.1 B.2.2.1, B.2.2.2.trans A.2.2.2⟩
theorem zui_c (hne : ¬ (a = b ∧ k = j)) : zui (zui h a k x) b j y = zui (zui h b j y) a k x := by
  refine Prod.ext rfl (Prod.ext rfl (Prod.ext rfl (Prod.ext ?_ rfl)))
  funext b' j'
  show zi (zui (zui h a k x) b j y) b' j' = zi (zui (zui h b j y) a k x) b' j'
  rw [zi_ui, zi_ui, zi_ui, zi_ui]
  by_cases e1 : b' = a ∧ j' = k <;> by_cases e2 : b' = b ∧ j' = j
  · exact absurd ⟨e1.1.symm.trans e2.1, e1.2.symm.trans e2.2⟩ hne
  · rw [if_neg e2, if_pos e1, if_pos e1]
  · rw [if_pos e2, if_neg e1, if_pos e2]
  · rw [if_neg e2, if_neg e1, if_neg e1, if_neg e2]
theorem zui_o : zui (zui h a k x) a k y = zui h a k y := by
  refine Prod.ext rfl (Prod.ext rfl (Prod.ext rfl (Prod.ext ?_ rfl)))
  funext b' j'
  show zi (zui (zui h a k x) a k y) b' j' = zi (zui h a k y) b' j'
  rw [zi_ui, zi_ui, zi_ui]
  by_cases e1 : b' = a ∧ j' = k
  · rw [if_pos e1, if_pos e1]
  · rw [if_neg e1, if_neg e1, if_neg e1]
theorem zui_s : zui h a k (zi h a k) = h := by
  refine Prod.ext rfl (Prod.ext rfl (Prod.ext rfl (Prod.ext ?_ rfl)))
  funext b' j'
  show zi (zui h a k (zi h a k)) b' j' = zi h b' j'
  rw [zi_ui]
  by_cases e1 : b' = a ∧ j' = k
  · rw [if_pos e1, e1.1, e1.2]
  · rw [if_neg e1]
theorem mRes_u (ha : a ≠ 35) : mRes (zui h a k v) x p = mRes h x p := by
  have e : zi (zui h a k v) 35 = zi h 35 := zi_f ha
  unfold mRes
  rw [e]
theorem mHom_u (ha : a ≠ 35) {r : Int32} : mHom (zui h a k v) r x = zui (mHom h r x) a k v := by
  unfold mHom
  repeat' split
  · rfl
  · rfl
  · exact zui_c (fun q => ha q.1)
theorem mBec1_u (h1 : a ≠ 24) (h2 : a ≠ 31) (h3 : a ≠ 39) (h4 : a ≠ 40) (h5 : a ≠ 41) (h6 : a = 19 → k ≠ 24 ∧ k ≠ 31) : mBec1 (zui h a k v) c l x = zui (mBec1 h c l x) a k v := by
  unfold mBec1
  have e : zi (zui h a k v) 19 24 = zi h 19 24 := by
    rw [zi_ui, if_neg]
    rintro ⟨q1, q2⟩
    exact (h6 q1.symm).1 q2.symm
  rw [e, zui_c (a := a) (k := k) (b := 24) (by omega), zui_c (a := a) (k := k) (b := 31) (by omega), zui_c (a := a) (k := k) (b := 39) (by omega), zui_c (a := a) (k := k) (b := 40) (by omega), zui_c (a := a) (k := k) (b := 41) (by omega), zui_c (a := a) (k := k) (b := 19) (fun q => (h6 q.1).2 q.2)]
theorem mBec_u (h0 : a ≠ 35) (h1 : a ≠ 24) (h2 : a ≠ 31) (h3 : a ≠ 39) (h4 : a ≠ 40) (h5 : a ≠ 41) (h6 : a = 19 → k ≠ 24 ∧ k ≠ 31) : mBec (zui h a k v) c p l x = zui (mBec h c p l x) a k v := by
  unfold mBec
  rw [mRes_u h0, mHom_u h0, mBec1_u h1 h2 h3 h4 h5 h6]
theorem mBack_u (hk : k ≠ 24 ∧ k ≠ 31) : mBack (zui h 19 k v) c p l = zui (mBack h c p l) 19 k v := by
  unfold mBack
  rw [mBec_u (by decide) (by decide) (by decide) (by decide) (by decide) (by decide) (fun _ => hk), zui_c (a := 19) (b := 28) (by omega), zui_c (a := 19) (b := 30) (by omega), zui_c (a := 19) (b := 32) (by omega)]
theorem mBack_30 : mBack (zui h 30 l v) c p l = mBack h c p l := by
  unfold mBack
  rw [mBec_u (by decide) (by decide) (by decide) (by decide) (by decide) (by decide) (fun q => absurd q (by decide)), zui_c (a := 30) (b := 28) (by omega), zui_o]
theorem mBack_19 (hk : k ≠ 31) : zi (mBack h c p l) 19 k = zi h 19 k := by
  unfold mBack
  rw [zi_ua (by decide), zi_ua (by decide), zi_ua (by decide), bec_19, if_neg hk]
theorem MF_back : MF h (mBack h c p l) := MF_u (MF_u (MF_u MF_bec (by decide) (by decide)) (by decide) (by decide)) (by decide) (by decide)
theorem cFor_15 : cFor (zui h (zla h l) 15 x) l = cFor h l := by
  show zui (zui (zui (zui (zui h (zla h l) 15 x) (zla h l) 11 0) (zla h l) 12 0) (zla h l) 15 0) (zla h l) 16 (-1) = zui (zui (zui (zui h (zla h l) 11 0) (zla h l) 12 0) (zla h l) 15 0) (zla h l) 16 (-1)
  rw [zui_c (k := 15) (j := 11) (by omega), zui_c (k := 15) (j := 12) (by omega), zui_o]
/-- a lot's own numbers, here and there -/
theorem R_lot (r : R hc hm n p s c t) (hl : l < n) (Fb : Fr hc hb) (Bj : ∀ j k, j < n → (j ≠ l ∨ k < 11) → cf hb j k = cf hc j k) (B9 : ∀ j, j < n → zr hb (zla hc j) 9 = zr hc (zla hc j) 9) (Ba : ∀ a, a < 45 → zi hb a = zi hc a) (en : zn hb = zn hc) (es : zs hb = zs hc) (N : MF hm m') (Ma : ∀ a, 19 ≤ a → a ≤ 44 → a ≠ 28 → a ≠ 29 → a ≠ 30 → a ≠ 32 → zi m' a = zi hm a) (Mj : ∀ a j, a = 28 ∨ a = 29 ∨ a = 30 ∨ a = 32 → j ≠ l → zi m' a j = zi hm a j) (L15 : cf hb l 15 = zi m' 30 l) (L15b : zi m' 30 l = 0 ∨ zi m' 30 l = 1) (L16 : cf hb l 16 = zi m' 32 l) (L0 : zi hm 24 l = -1 → zi m' 30 l = 0 ∧ zi m' 28 l = 0) (LD : ∃ d, d ≤ 3 ∧ cf hb l 12 = nI d ∧ zi m' 28 l = nI d ∧ (d = 0 → cf hb l 11 = 0) ∧ (0 < d → cf hb l 13 = zi hm 26 l ∧ cf hb l 14 = zi m' 29 l ∧ cf hb l 11 = nI (d - 1) * zi hm 26 l + zi hm 27 l)) : R hb m' n p s c t := by
  obtain ⟨w, rm, rk, rx, rmo, rl, rd, rh, rg, rb, bs, rt, ro⟩ := id r
  have mm : ∀ a, 19 ≤ a → a ≤ 27 ∨ a = 31 ∨ (33 ≤ a ∧ a ≤ 44) → zi m' a = zi hm a := fun a h1 h2 => Ma a h1 (by omega) (by omega) (by omega) (by omega) (by omega)
  refine R_mk r Fb N ?_ (RX_cg rx (by rw [Ba 9 (by decide)]) (Ba 10 (by decide)) (by rw [mm 19 (by decide) (by decide)]) (mm 20 (by decide) (by decide))) (RM_cg rmo (Ba 18 (by decide)) (mm 34 (by decide) (by decide))) (fun j hj => ?_) (fun j hj => ?_) (RH_cg rh (fun l hl => Bj l 10 hl (by omega)) (mm 35 (by decide) (by decide)) (mm 24 (by decide) (by decide))) ?_ (mm 36 (by decide) (by decide)) (mm 37 (by decide) (by decide)) (mm 38 (by decide) (by decide)) (fun l hl _ e1 e2 => ?_) (RT_cg w Fb rt (fun j hj => ⟨Bj j 7 hj (by omega), Bj j 8 hj (by omega), B9 j hj⟩) (fun a ha => mm a (by omega) (by omega))) ?_
  · unfold RK
    rw [Ba 17 (by decide), Ba 13 (by decide), Ba 12 (by decide), Ba 9 (by decide), mm 19 (by decide) (by decide)]
    exact rk
  · obtain ⟨l1, l2, l3, l4, l5, l6, l7, l8, l9⟩ := rl j hj
    have hA : cArea hb j = cArea hc j := by
      show 2 * cf hb j 2 * cf hb j 3 + cf hb j 5 = 2 * cf hc j 2 * cf hc j 3 + cf hc j 5
      rw [Bj j 2 hj (by omega), Bj j 3 hj (by omega), Bj j 5 hj (by omega)]
    rw [hA, mm 23 (by decide) (by decide), mm 24 (by decide) (by decide), mm 25 (by decide) (by decide), mm 31 (by decide) (by decide), Bj j 7 hj (by omega), Bj j 4 hj (by omega), Bj j 8 hj (by omega)]
    by_cases e : j = l
    · subst e
      exact ⟨l1, l2, l3, l4, L15, L15b, L16, l8, L0⟩
    · rw [Bj j 15 hj (Or.inl e), Bj j 16 hj (Or.inl e), Mj 30 j (by decide) e, Mj 32 j (by decide) e, Mj 28 j (by decide) e]
      exact ⟨l1, l2, l3, l4, l5, l6, l7, l8, l9⟩
  · rw [mm 26 (by decide) (by decide), mm 27 (by decide) (by decide)]
    by_cases e : j = l
    · subst e
      exact LD
    · rw [Bj j 12 hj (Or.inl e), Bj j 11 hj (Or.inl e), Bj j 13 hj (Or.inl e), Bj j 14 hj (Or.inl e), Mj 28 j (by decide) e, Mj 29 j (by decide) e]
      exact rd j hj
  · rw [mm 21 (by decide) (by decide), mm 33 (by decide) (by decide)]
    exact RG_cg rg (fun j k hj hk => Bj j k hj (by omega)) (Ba 14 (by decide)) (Ba 15 (by decide))
  · rw [mm 24 (by decide) (by decide), mm 25 (by decide) (by decide)]
    exact ⟨e1, e2⟩
  · obtain ⟨o1, o2, o3, o4⟩ := ro
    refine ⟨?_, o2, by rw [en]; exact o3, by rw [es]; exact o4⟩
    unfold mow at o1 ⊢
    rw [mm 24 (by decide) (by decide)]
    exact o1
/-- one comes to live on a lot of his -/
theorem R_home (r : R hc hm n p s c t) (hl : l < n) (hq : q < p) (ho : zi hm 24 l = nI q) (hh : zi hm 35 q = -1) : R (zui hc (zla hc l) 10 1) (zui hm 35 q (nI l)) n p s c t := by
  obtain ⟨w, rm, rk, rx, rmo, rl, rd, rh, rg, rb, bs, rt, ro⟩ := id r
  have hn := w.2.1
  have hp : p ≤ 20 := rk.2.2.2.1
  have F : Fr hc (zui hc (zla hc l) 10 1) := Fl w (Fr_rfl w.1) hl
  have C : ∀ i k, i < n → cf (zui hc (zla hc l) 10 1) i k = if i = l ∧ k = 10 then 1 else cf hc i k := fun i k hi => cf_l w hi hl
  have Ck : ∀ i k, i < n → k ≠ 10 → cf (zui hc (zla hc l) 10 1) i k = cf hc i k := fun i k hi hk => by rw [C i k hi, if_neg (fun q => hk q.2)]
  have ca : ∀ a, a < 45 → zi (zui hc (zla hc l) 10 1) a = zi hc a := fun a ha => by
    funext i
    exact zl_f w hl ha
  have ma : ∀ a, a ≠ 35 → zi (zui hm 35 q (nI l)) a = zi hm a := fun a ha => zi_f (Ne.symm ha)
  refine R_mk r F (MF_ui (by decide) (by decide)) ?_ (RX_cg rx (by rw [ca 9 (by decide)]) (ca 10 (by decide)) (by rw [ma 19 (by decide)]) (ma 20 (by decide))) (RM_cg rmo (ca 18 (by decide)) (ma 34 (by decide))) (fun j hj => ?_) (fun j hj => ?_) ⟨fun i hi => ?_, fun i hi => ?_⟩ ?_ (ma 36 (by decide)) (ma 37 (by decide)) (ma 38 (by decide)) (fun l hl _ e1 e2 => ?_) (RT_cg w F rt (fun j hj => ⟨Ck j 7 hj (by decide), Ck j 8 hj (by decide), rfl⟩) (fun a ha => ma a (by omega))) ?_
  · unfold RK
    rw [ca 17 (by decide), ca 13 (by decide), ca 12 (by decide), ca 9 (by decide), ma 19 (by decide)]
    exact rk
  · have hA : cArea (zui hc (zla hc l) 10 1) j = cArea hc j := by
      show 2 * cf (zui hc (zla hc l) 10 1) j 2 * cf (zui hc (zla hc l) 10 1) j 3 + cf (zui hc (zla hc l) 10 1) j 5 = 2 * cf hc j 2 * cf hc j 3 + cf hc j 5
      rw [Ck j 2 hj (by decide), Ck j 3 hj (by decide), Ck j 5 hj (by decide)]
    rw [hA, ma 23 (by decide), ma 24 (by decide), ma 25 (by decide), ma 28 (by decide), ma 30 (by decide), ma 31 (by decide), ma 32 (by decide), Ck j 7 hj (by decide), Ck j 4 hj (by decide), Ck j 8 hj (by decide), Ck j 15 hj (by decide), Ck j 16 hj (by decide)]
    exact rl j hj
  · rw [ma 26 (by decide), ma 27 (by decide), ma 28 (by decide), ma 29 (by decide), Ck j 12 hj (by decide), Ck j 11 hj (by decide), Ck j 13 hj (by decide), Ck j 14 hj (by decide)]
    exact rd j hj
  · rw [ma 24 (by decide), zi_ui]
    by_cases e : i = q
    · subst e
      exact Or.inr ⟨l, hl, if_pos ⟨rfl, rfl⟩, by rw [C l 10 hl, if_pos ⟨rfl, rfl⟩], ho⟩
    · rw [if_neg (fun q => e q.2)]
      rcases rh.1 i hi with g | ⟨j, hj, g1, g2, g3⟩
      · exact Or.inl g
      · refine Or.inr ⟨j, hj, g1, ?_, g3⟩
        rw [C j 10 hj]
        split
        · rfl
        · exact g2
  · rw [ma 24 (by decide), C i 10 hi]
    by_cases e : i = l
    · subst e
      exact Or.inr ⟨if_pos ⟨rfl, rfl⟩, q, hq, ho, by rw [zi_us]⟩
    · rw [if_neg (fun q => e q.1)]
      rcases rh.2 i hi with g | ⟨g, i2, hi2, g1, g2⟩
      · exact Or.inl g
      · refine Or.inr ⟨g, i2, hi2, g1, ?_⟩
        rw [zi_ui, if_neg]
        · exact g2
        · rintro ⟨-, e2⟩
          rw [e2, hh] at g2
          exact nI_m1 (by omega) g2.symm
  · rw [ma 21 (by decide), ma 33 (by decide)]
    exact RG_cg rg (fun j k hj hk => Ck j k hj (by omega)) (ca 14 (by decide)) (ca 15 (by decide))
  · rw [ma 24 (by decide), ma 25 (by decide)]
    exact ⟨e1, e2⟩
  · obtain ⟨o1, o2, o3, o4⟩ := ro
    refine ⟨?_, o2, o3, o4⟩
    unfold mow at o1 ⊢
    rw [ma 24 (by decide)]
    exact o1
/-- a day more -/
theorem R_now (r : R hc hm n p s c t) (e : zi hm 19 24 = nI d) (hd : d < 9999) : zi hc 12 2 = nI d ∧ R (zui hc 12 2 (nI (d + 1))) (zui hm 19 24 (nI (d + 1))) n p s c t := by
  obtain ⟨w, rm, rk, rx, rmo, rl, rd, rh, rg, rb, bs, rt, ro⟩ := id r
  have ht := (R_c r).2
  have F : Fr hc (zui hc 12 2 (nI (d + 1))) := Fx (Fr_rfl w.1) (by decide) w.1
  have N : MF hm (zui hm 19 24 (nI (d + 1))) := MF_ui (by decide) (by decide)
  obtain ⟨k1, k2, k3, k4, k5, k6, k7, k8, k9, ⟨d', k10, k10a, k10b⟩, k11, k12, k13, k14, k15, k16, k19⟩ := rk
  refine ⟨by rw [k10a, ← k10b, e], ?_⟩
  refine R_fix r F N (fun l k hl => cf_a w (by decide) hl) (fun _ _ => rfl) (zi_f (by decide)) (zi_f (by decide)) (fun a h1 h2 h3 => zi_f (by omega)) ?_ (RX_cg rx (zi_ua (by decide)) (zi_f (by decide)) (zi_uk (by decide)) (zi_f (by decide))) (RM_cg rmo (zi_f (by decide)) (zi_f (by decide))) (Nat.le_refl _) ht rfl rfl
  exact ⟨k1, k2, k3, k4, k5, k6, k7, k8, k9, ⟨d + 1, by omega, by rw [zi_us], by rw [zi_us]⟩, k11, k12, k13, k14, k15, k16, k19⟩
end ZDA
