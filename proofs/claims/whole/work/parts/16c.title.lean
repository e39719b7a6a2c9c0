-- deps: 15a.lots 16a.rel 16b.step
section ZTI
variable {h h' hc hm m m' : zH} {n p s c t l j k a : Nat} {x : Int32}
theorem nI_m1 {i : Nat} (hi : i < 2 ^ 31) : nI i ≠ -1 := fun q => nI_nn hi (by rw [q]; decide)
theorem chg_a (W : LW h n) (hl : l < n) (ha : a < 45) : zi (cChg h l x c) a k = if a = 12 ∧ k = 8 then nI (c + 1) else zi h a k := by
  have := W.1.1
  unfold cChg
  rw [zi_ui]
  by_cases e : a = 12 ∧ k = 8
  · rw [if_pos e, if_pos e]
  · rw [if_neg e, if_neg e, zl_f W hl ha, zl_f W hl ha, zl_f W hl ha, kT_i (by omega)]
theorem chg_f (W : LW h n) (hl : l < n) (ha : a < 45) (h12 : a ≠ 12) : zi (cChg h l x c) a = zi h a := by
  funext k
  rw [chg_a W hl ha, if_neg (fun q => h12 q.1)]
theorem chg_l (W : LW h n) (hl : l < n) (hj : j < n) : cf (cChg h l x c) j k = if j = l ∧ k = 10 then 0 else if j = l ∧ k = 8 then zi h 12 2 else if j = l ∧ k = 7 then x else cf h j k := by
  have hu := (LW_la W hj).2.1
  unfold cf
  rw [Fr_la W (Fr_chg W hl)]
  unfold cChg
  rw [zl_a W hj (by decide), zl_l W hj hl, zl_l W hj hl, zl_l W hj hl, kT_i hu]
theorem chg_n (W : LW h n) : zn (cChg h l x c) = zn h + 1 ∧ zs (cChg h l x c) = zs h + 3 := ⟨rfl, rfl⟩
theorem bec_35 (hh : RH hc hm n p) (hl : l < n) (hx : zi hm 24 l ≠ x) (hp : p ≤ 20) (hn : n ≤ 40) {r : Nat} (hr : r < p) : zi (mBec hm c p l x) 35 r = if zi hm 35 r = nI l then -1 else zi hm 35 r := by
  have e1 : zi (mBec hm c p l x) 35 r = zi (mHom hm (mRes hm (nI l) p) x) 35 r := by
    unfold mBec mBec1
    rw [zi_ua (by decide), zi_ua (by decide), zi_ua (by decide), zi_ua (by decide), zi_ua (by decide), zi_ua (by decide)]
  have key : ∀ q, q < p → zi hm 35 q = nI l → zi hm 24 l = nI q := by
    intro q hq e
    rcases hh.1 q hq with e2 | ⟨l2, h2, e2, -, e3⟩
    · exact absurd (e.symm.trans e2) (nI_m1 (by omega))
    · have : l = l2 := (nI_eq (by omega) (by omega)).mp (e.symm.trans e2)
      rw [this]; exact e3
  rw [e1]
  rcases mRes_of hm (nI l) p with ⟨h1, h2⟩ | ⟨q, hq, h2, h3⟩
  · rw [h1, if_neg (h2 r hr)]
    unfold mHom
    rw [if_pos (by decide)]
  · have ho := key q hq h3
    rw [h2]
    unfold mHom
    rw [if_neg (nI_nn (by omega)), if_neg (fun e => hx (ho.trans e)), nI_clamp (by omega), zi_ui]
    by_cases e : r = q
    · subst e
      rw [if_pos ⟨rfl, rfl⟩, if_pos h3]
    · rw [if_neg (fun q => e q.2), if_neg]
      intro e3
      exact e ((nI_eq (by omega) (by omega)).mp ((key r hr e3).symm.trans ho))
theorem bec_a (ha : a ≠ 19) (h24 : a ≠ 24) (h31 : a ≠ 31) (h35 : a ≠ 35) (h39 : a ≠ 39) (h40 : a ≠ 40) (h41 : a ≠ 41) : zi (mBec hm c p l x) a = zi hm a := by
  funext k
  unfold mBec mBec1
  rw [zi_ua ha, zi_ua h41, zi_ua h40, zi_ua h39, zi_ua h31, zi_ua h24, zi_hom h35]
theorem bec_24 {j : Nat} : zi (mBec hm c p l x) 24 j = if j = l then x else zi hm 24 j := by
  unfold mBec mBec1
  rw [zi_ua (by decide), zi_ua (by decide), zi_ua (by decide), zi_ua (by decide), zi_ua (by decide), zi_ui, zi_hom (by decide)]
  simp
theorem bec_31 {j : Nat} : zi (mBec hm c p l x) 31 j = if j = l then zi hm 19 24 else zi hm 31 j := by
  unfold mBec mBec1
  rw [zi_ua (by decide), zi_ua (by decide), zi_ua (by decide), zi_ua (by decide), zi_ui, zi_ua (by decide), zi_hom (by decide), zi_hom (by decide)]
  simp
theorem bec_19 {j : Nat} : zi (mBec hm c p l x) 19 j = if j = 31 then nI (c + 1) else zi hm 19 j := by
  unfold mBec mBec1
  rw [zi_ui, zi_ua (by decide), zi_ua (by decide), zi_ua (by decide), zi_ua (by decide), zi_ua (by decide), zi_hom (by decide)]
  simp
theorem bec_39 {j : Nat} : zi (mBec hm c p l x) 39 j = if j = c then nI l else zi hm 39 j := by
  unfold mBec mBec1
  rw [zi_ua (by decide), zi_ua (by decide), zi_ua (by decide), zi_ui, zi_ua (by decide), zi_ua (by decide), zi_hom (by decide)]
  simp
theorem bec_40 {j : Nat} : zi (mBec hm c p l x) 40 j = if j = c then zi hm 19 24 else zi hm 40 j := by
  unfold mBec mBec1
  rw [zi_ua (by decide), zi_ua (by decide), zi_ui, zi_ua (by decide), zi_ua (by decide), zi_ua (by decide), zi_hom (by decide), zi_hom (by decide)]
  simp
theorem bec_41 {j : Nat} : zi (mBec hm c p l x) 41 j = if j = c then x else zi hm 41 j := by
  unfold mBec mBec1
  rw [zi_ua (by decide), zi_ui, zi_ua (by decide), zi_ua (by decide), zi_ua (by decide), zi_ua (by decide), zi_hom (by decide)]
  simp
theorem MF_hom {r : Int32} : MF hm (mHom hm r x) := by
  unfold mHom
  repeat' split
  · exact MF_rfl
  · exact MF_rfl
  · exact MF_ui (by decide) (by decide)
theorem MF_bec : MF hm (mBec hm c p l x) := by
  unfold mBec mBec1
  exact MF_u (MF_u (MF_u (MF_u (MF_u (MF_u MF_hom (by decide) (by decide)) (by decide) (by decide)) (by decide) (by decide)) (by decide) (by decide)) (by decide) (by decide)) (by decide) (by decide)
theorem MF_ms (F : MF hm m) (H : MS hm) : MS m := by
  obtain ⟨f1, f2, f3, f4, f5⟩ := F
  unfold MS
  rw [f1, f3, f4]
  exact H
theorem mT_c (l : Nat) : ∀ c, (∀ k, k < c → zi m' 39 k = zi m 39 k ∧ zi m' 40 k = zi m 40 k ∧ zi m' 41 k = zi m 41 k) → mT m' l c = mT m l c
  | 0, _ => rfl
  | c + 1, F => by
    unfold mT
    obtain ⟨e1, e2, e3⟩ := F c (by omega)
    rw [e1, e2, e3, mT_c l c (fun k hk => F k (by omega))]
/-- homes, when a title goes over -/
theorem RH_chg (W : LW hc n) (hh : RH hc hm n p) (hl : l < n) (hx : zi hm 24 l ≠ x) (hp : p ≤ 20) : RH (cChg hc l x c) (mBec hm c p l x) n p := by
  have hn := W.2.1
  refine ⟨fun r hr => ?_, fun j hj => ?_⟩
  · rw [bec_35 hh hl hx hp hn hr]
    by_cases e : zi hm 35 r = nI l
    · rw [if_pos e]; exact Or.inl rfl
    · rw [if_neg e]
      rcases hh.1 r hr with e2 | ⟨l2, h2, e2, e3, e4⟩
      · exact Or.inl e2
      · have hne : l2 ≠ l := fun q => e (by rw [← q]; exact e2)
        refine Or.inr ⟨l2, h2, e2, ?_, ?_⟩
        · rw [chg_l W hl h2, if_neg (fun q => hne q.1), if_neg (fun q => hne q.1), if_neg (fun q => hne q.1)]; exact e3
        · rw [bec_24, if_neg hne]; exact e4
  · rw [chg_l W hl hj]
    by_cases e : j = l
    · exact Or.inl (if_pos ⟨e, rfl⟩)
    · rw [if_neg (fun q => e q.1), if_neg (fun q => e q.1), if_neg (fun q => e q.1)]
      rcases hh.2 j hj with e2 | ⟨e2, q, hq, e3, e4⟩
      · exact Or.inl e2
      · refine Or.inr ⟨e2, q, hq, by rw [bec_24, if_neg e]; exact e3, ?_⟩
        rw [bec_35 hh hl hx hp hn hq, if_neg]
        · exact e4
        · rw [e4]; exact fun q => e ((nI_eq (by omega) (by omega)).mp q)
/-- titles, when one goes over -/
theorem RT_chg (W : LW hc n) (hr : RT hc hm n c) (hl : l < n) (hd : zi hc 12 2 = zi hm 19 24) : RT (cChg hc l x c) (mBec hm c p l x) n (c + 1) := by
  have hn := W.2.1
  have F := Fr_chg (x := x) (c := c) W hl
  have em : ∀ j, mT (mBec hm c p l x) j c = mT hm j c := fun j => mT_c j c (fun k hk => by
    rw [bec_39, bec_40, bec_41, if_neg (by omega), if_neg (by omega), if_neg (by omega)]; exact ⟨rfl, rfl, rfl⟩)
  refine ⟨fun j hj => ?_, fun k hk => ?_⟩
  · obtain ⟨t, t1, t2⟩ := hr.1 j hj
    unfold mT
    rw [bec_39, bec_40, bec_41, if_pos rfl, if_pos rfl, if_pos rfl, em]
    obtain ⟨u1, u2, u3⟩ := LW_la W hj
    rw [Fr_la W F, chg_l W hl hj, chg_l W hl hj]
    by_cases e : j = l
    · subst e
      rw [if_pos rfl]
      refine ⟨mT hm j c, by simp [hd], ?_⟩
      rw [t1]
      have hu : zr (cChg hc j x c) (zla hc j) 9 = some (zn hc) ∧ zr (cChg hc j x c) (zn hc) 2 = zr hc (zla hc j) 9 := by
        constructor
        · show zr (kT hc j) (zla hc j) 9 = _
          exact if_pos ⟨rfl, rfl⟩
        · show zr (kT hc j) (zn hc) 2 = _
          unfold kT
          rw [zr_ur, if_neg (by omega), zr_ur, if_pos ⟨rfl, rfl⟩]
      have h45 := W.1.1
      have hz : ∀ k, zi (cChg hc j x c) (zn hc) k = zi (kT hc j) (zn hc) k := fun k => by
        unfold cChg
        rw [zi_ua (by omega), zi_ua (by omega), zi_ua (by omega), zi_ua (by omega)]
      refine ⟨zn hc, hu.1, h45, ?_, ?_, ?_, ?_, ?_⟩
      · show zn hc < zn hc + 1
        omega
      · show zk (znw hc 7 3) (zn hc) = _
        rw [zk_nw, if_pos rfl]
      · rw [hz]
        show zi (zui (zui (znw hc 7 3) (zn hc) 0 (cf hc j 7)) (zn hc) 1 (cf hc j 8)) (zn hc) 0 = _
        rw [zi_uk (by decide), zi_us]
      · rw [hz]
        show zi (zui (zui (znw hc 7 3) (zn hc) 0 (cf hc j 7)) (zn hc) 1 (cf hc j 8)) (zn hc) 1 = _
        rw [zi_us]
      · rw [hu.2]
        exact Fr_ch F t _ t2
    · rw [if_neg (fun q => e ((nI_eq (by omega) (by omega)).mp q.symm))]
      refine ⟨t, by simp [e, t1], ?_⟩
      have : zr (cChg hc l x c) (zla hc j) 9 = zr hc (zla hc j) 9 := by
        show zr (kT hc l) (zla hc j) 9 = _
        exact kT_r u2 (fun q => e (W.2.2.2.2.2 j l hj hl q.1))
      rw [this]
      exact Fr_ch F t _ t2
  · rw [bec_39]
    by_cases e : k = c
    · rw [if_pos e]; exact ⟨l, hl, rfl⟩
    · rw [if_neg e]; exact hr.2 k (by omega)
theorem cP_up (f g : Nat → Bool) (l : Nat) : ∀ n, l < n → (∀ j, j < n → j ≠ l → f j = g j) → (List.range' 0 n).countP g + (if f l then 1 else 0) = (List.range' 0 n).countP f + (if g l then 1 else 0) := by
  have key : ∀ n, n ≤ l → (∀ j, j < n → j ≠ l → f j = g j) → (List.range' 0 n).countP g = (List.range' 0 n).countP f := by
    intro n
    induction n with
    | zero => intro _ _; rfl
    | succ n ih =>
      intro hn hf
      rw [List.range'_1_concat, List.countP_append, List.countP_append, ih (by omega) (fun j hj => hf j (by omega))]
      simp [hf n (by omega) (by omega)]
  intro n
  induction n with
  | zero => intro h; omega
  | succ n ih =>
    intro hn hf
    rw [List.range'_1_concat, List.countP_append, List.countP_append]
    by_cases e : n = l
    · subst e
      rw [key n (Nat.le_refl _) (fun j hj => hf j (by omega))]
      simp only [List.countP_singleton, Nat.zero_add]
      omega
    · have := ih (by omega) (fun j hj => hf j (by omega))
      simp only [List.countP_singleton, Nat.zero_add]
      rw [hf n (by omega) e]
      omega
/-- the owned lots, when one goes over -/
theorem mow_up (hl : l < n) (e : ∀ j, j < n → j ≠ l → zi m' 24 j = zi m 24 j) : mow m' n + (if zi m 24 l = -1 then 0 else 1) = mow m n + (if zi m' 24 l = -1 then 0 else 1) := by
  have := cP_up (fun j => decide (zi m 24 j ≠ -1)) (fun j => decide (zi m' 24 j ≠ -1)) l n hl (fun j hj hne => by simp [e j hj hne])
  unfold mow
  simp only [decide_eq_true_eq, ne_eq, ite_not] at this ⊢
  exact this
end ZTI
