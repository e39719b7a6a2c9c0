-- deps: 15a.lots 16a.rel 16b.step 16c.title
section ZCG
variable {h h' hc hm m m' : zH} {n p s c c' t t' l j k a : Nat} {x y : Int32}
theorem RX_cg (r : RX h m) (e1 : zi h' 9 2 = zi h 9 2) (e2 : zi h' 10 = zi h 10) (e3 : zi m' 19 1 = zi m 19 1) (e4 : zi m' 20 = zi m 20) : RX h' m' := by
  unfold RX
  rw [e1, e2, e3, e4]
  exact r
theorem RM_cg (r : RM h m p) (e1 : zi h' 18 = zi h 18) (e2 : zi m' 34 = zi m 34) : RM h' m' p := by
  unfold RM
  rw [e1, e2]
  exact r
theorem cA_cg (C : ∀ k, cf h' l k = cf h l k) : cArea h' l = cArea h l := by
  show 2 * cf h' l 2 * cf h' l 3 + cf h' l 5 = 2 * cf h l 2 * cf h l 3 + cf h l 5
  rw [C, C, C]
theorem RL_cg (r : RL h m n p) (C : ∀ l k, l < n → cf h' l k = cf h l k) (e : ∀ a, a = 23 ∨ a = 24 ∨ a = 25 ∨ a = 28 ∨ a = 30 ∨ a = 31 ∨ a = 32 → zi m' a = zi m a) : RL h' m' n p := by
  intro l hl
  rw [e 23 (by decide), e 24 (by decide), e 25 (by decide), e 28 (by decide), e 30 (by decide), e 31 (by decide), e 32 (by decide), C l 7 hl, C l 4 hl, C l 8 hl, C l 15 hl, C l 16 hl, cA_cg (fun k => C l k hl)]
  exact r l hl
theorem RD_cg (r : RD h m n) (C : ∀ l k, l < n → cf h' l k = cf h l k) (e : ∀ a, a = 26 ∨ a = 27 ∨ a = 28 ∨ a = 29 → zi m' a = zi m a) : RD h' m' n := by
  intro l hl
  rw [e 26 (by decide), e 27 (by decide), e 28 (by decide), e 29 (by decide), C l 12 hl, C l 11 hl, C l 13 hl, C l 14 hl]
  exact r l hl
theorem RH_cg (r : RH h m n p) (C : ∀ l, l < n → cf h' l 10 = cf h l 10) (e1 : zi m' 35 = zi m 35) (e2 : zi m' 24 = zi m 24) : RH h' m' n p := by
  unfold RH
  rw [e1, e2]
  refine ⟨fun q hq => ?_, fun l hl => ?_⟩
  · rcases r.1 q hq with h1 | ⟨l, hl, h2⟩
    · exact Or.inl h1
    · exact Or.inr ⟨l, hl, by rw [C l hl]; exact h2⟩
  · rw [C l hl]; exact r.2 l hl
theorem RG_cg {g v : Nat → Int32} (r : RG h g v n s) (C : ∀ l k, l < n → k < 4 → cf h' l k = cf h l k) (e1 : zi h' 14 = zi h 14) (e2 : zi h' 15 = zi h 15) : RG h' g v n s := by
  unfold RG
  rw [e1, e2]
  refine ⟨fun l hl => ?_, r.2⟩
  rw [C l 0 hl (by decide), C l 1 hl (by decide), C l 2 hl (by decide), C l 3 hl (by decide)]
  exact r.1 l hl
theorem RT_cg (W : LW h n) (F : Fr h h') (r : RT h m n c) (C : ∀ l, l < n → cf h' l 7 = cf h l 7 ∧ cf h' l 8 = cf h l 8 ∧ zr h' (zla h l) 9 = zr h (zla h l) 9) (e : ∀ a, a = 39 ∨ a = 40 ∨ a = 41 → zi m' a = zi m a) : RT h' m' n c := by
  refine ⟨fun l hl => ?_, by rw [e 39 (by decide)]; exact r.2⟩
  obtain ⟨c1, c2, c3⟩ := C l hl
  obtain ⟨t, t1, t2⟩ := r.1 l hl
  rw [Fr_la W F, c1, c2, c3, mT_c (m := m) (m' := m') l c (fun k _ => by rw [e 39 (by decide), e 40 (by decide), e 41 (by decide)]; exact ⟨rfl, rfl, rfl⟩)]
  exact ⟨t, t1, Fr_ch F t _ t2⟩
theorem RB_cg (W : LW h n) (F : Fr h h') (r : RB h m n p) (e6 : zi m' 36 = zi m 36) (e7 : zi m' 37 = zi m 37) (e8 : zi m' 38 = zi m 38) (bo : ∀ l, l < n → zi m 36 l ≠ 0 → zi m 24 l = -1 → zi m 25 l = 0 → zi m' 24 l = -1 ∧ zi m' 25 l = 0) : RB h' m' n p := by
  intro l hl
  obtain ⟨u, u1, u2, u3, u4, u5, u6⟩ := r l hl
  rw [e6, e7, e8]
  refine ⟨u, u1, u2, Fr_B1 W F hl u3, fun i hi => ?_, u5, fun q => bo l hl (by rw [u2]; exact nI_ne0 q (by omega)) (u6 q).1 (u6 q).2⟩
  obtain ⟨v1, v2, v3, v4⟩ := u3.2.2.2.2 i hi
  rw [Fr_ba W F hl u3, (F.2.2.2.1 _ v3 (by rw [v4]; exact Or.inr (Or.inl rfl))).1]
  exact u4 i hi
theorem BS_cg (W : LW h n) (F : Fr h h') (r : RB h m n p) (b : BS h n) : BS h' n := by
  refine ⟨fun l j hl hj hlj => ?_, fun l hl => ?_⟩
  · obtain ⟨u, -, -, u3, -⟩ := r l hl
    obtain ⟨v, -, -, v3, -⟩ := r j hj
    rw [Fr_bl W F hl, Fr_bl W F hj, Fr_be W F hl u3, Fr_be W F hj v3]
    exact b.1 l j hl hj hlj
  · obtain ⟨u, -, -, u3, -⟩ := r l hl
    rw [Fr_be W F hl u3, Fr_ed W F]
    exact b.2 l hl
theorem R_mk (r : R hc hm n p s c t) (F : Fr hc h') (N : MF hm m') (k : RK h' m' n p s c') (x : RX h' m') (mo : RM h' m' p) (l : RL h' m' n p) (d : RD h' m' n) (hh : RH h' m' n p) (g : RG h' (zi m' 21) (zi m' 33) n s) (b6 : zi m' 36 = zi hm 36) (b7 : zi m' 37 = zi hm 37) (b8 : zi m' 38 = zi hm 38) (bo : ∀ l, l < n → zi hm 36 l ≠ 0 → zi hm 24 l = -1 → zi hm 25 l = 0 → zi m' 24 l = -1 ∧ zi m' 25 l = 0) (ti : RT h' m' n c') (o : RO h' m' n c' t') : R h' m' n p s c' t' := by
  obtain ⟨rw, rm, -, -, -, -, -, -, -, rb, bs, -, -⟩ := r
  exact ⟨Fr_LW rw F, MF_ms N rm, k, x, mo, l, d, hh, g, RB_cg rw F rb b6 b7 b8 bo, BS_cg rw F rb bs, ti, o⟩
/-- a step that touches no lot -/
theorem R_fix (r : R hc hm n p s c t) (F : Fr hc h') (N : MF hm m') (C : ∀ l k, l < n → cf h' l k = cf hc l k) (C9 : ∀ l, l < n → zr h' (zla hc l) 9 = zr hc (zla hc l) 9) (c14 : zi h' 14 = zi hc 14) (c15 : zi h' 15 = zi hc 15) (ma : ∀ a, 21 ≤ a → a ≤ 41 → a ≠ 34 → zi m' a = zi hm a) (k : RK h' m' n p s c) (x : RX h' m') (mo : RM h' m' p) (ht : t ≤ t') (ht' : t' ≤ 512) (en : zn h' = zn hc) (es : zs h' = zs hc) : R h' m' n p s c t' := by
  obtain ⟨w, rm, -, -, -, rl, rd, rh, rg, rb, bs, rt, ro⟩ := id r
  obtain ⟨o1, o2, o3, o4⟩ := ro
  refine R_mk r F N k x mo (RL_cg rl C fun a ha => ma a (by omega) (by omega) (by omega)) (RD_cg rd C fun a ha => ma a (by omega) (by omega) (by omega)) (RH_cg rh (fun l hl => C l 10 hl) (ma 35 (by decide) (by decide) (by decide)) (ma 24 (by decide) (by decide) (by decide))) ?_ (ma 36 (by decide) (by decide) (by decide)) (ma 37 (by decide) (by decide) (by decide)) (ma 38 (by decide) (by decide) (by decide)) (fun l hl _ e1 e2 => ?_) (RT_cg w F rt (fun l hl => ⟨C l 7 hl, C l 8 hl, C9 l hl⟩) fun a ha => ma a (by omega) (by omega) (by omega)) ⟨?_, ht', ?_, ?_⟩
  · rw [ma 21 (by decide) (by decide) (by decide), ma 33 (by decide) (by decide) (by decide)]
    exact RG_cg rg (fun l k hl _ => C l k hl) c14 c15
  · rw [ma 24 (by decide) (by decide) (by decide), ma 25 (by decide) (by decide) (by decide)]
    exact ⟨e1, e2⟩
  · unfold mow
    rw [ma 24 (by decide) (by decide) (by decide)]
    unfold mow at o1
    omega
  · rw [en]; omega
  · rw [es]; omega
theorem cf_a (W : LW hc n) (ha : a < 45) (hl : l < n) {i : Nat} : cf (zui hc a i x) l k = cf hc l k := by
  show zi (zui hc a i x) (zla hc l) k = zi hc (zla hc l) k
  exact zl_a W hl ha
/-- both answer alike, and stay alike -/
def JG (mc mm : Nat) (as : List zV) : Prop := ∀ hc hm n p s c t, R hc hm n p s c t → t < 512 → ∃ v hc' hm' n' p' s' c', zcall mc (vR (some 8) :: as) hc = some (some (vI v), hc') ∧ zcall mm (vR (some 19) :: as) hm = some (some (vI v), hm') ∧ R hc' hm' n' p' s' c' (t + 1) ∧ FO hc hc' ∧ MF hm hm'
/-- nothing is changed -/
theorem J_no (r : R hc hm n p s c t) (ht : t < 512) {mc mm : Nat} {as : List zV} {v : Int32} (e1 : zcall mc (vR (some 8) :: as) hc = some (some (vI v), hc)) (e2 : zcall mm (vR (some 19) :: as) hm = some (some (vI v), hm)) : ∃ v hc' hm' n' p' s' c', zcall mc (vR (some 8) :: as) hc = some (some (vI v), hc') ∧ zcall mm (vR (some 19) :: as) hm = some (some (vI v), hm') ∧ R hc' hm' n' p' s' c' (t + 1) ∧ FO hc hc' ∧ MF hm hm' :=
  ⟨v, hc, hm, n, p, s, c, e1, e2, R_t r (by omega) (by omega), FO_rfl, MF_rfl⟩
theorem J_halt : JG 64 137 [vI x, vI y] := by
  intro hc hm n p s c t r ht
  obtain ⟨w, rm, rk, rx, rmo, rl, rd, rh, rg, rb, bs, rt, ro⟩ := id r
  by_cases hg : zgr x y
  · obtain ⟨d, e1, e2, e3⟩ := zgr_of2 hg
    obtain ⟨k1, k2, k3, k4, k5, k6, k7, k8, k9, k10, k11, k12, k13, k14, k15, ⟨e, k16, k17, k18⟩, k19⟩ := rk
    have F : Fr hc (zui hc 13 4 (20 * y + x)) := Fx (Fr_rfl w.1) (by decide) w.1
    have N : MF hm (zui hm 19 25 (20 * y + x)) := MF_ui (by decide) (by decide)
    refine ⟨nI e, _, _, n, p, s, c, by rw [q64y w.1 hg, k17], by rw [q137y rm hg, k18], ?_, F.1, N⟩
    refine R_fix r F N (fun l k hl => cf_a w (by decide) hl) (fun _ _ => rfl) (zi_f (by decide)) (zi_f (by decide)) (fun a h1 h2 h3 => zi_f (by omega)) ?_ (RX_cg rx (zi_ua (by decide)) (zi_f (by decide)) (zi_uk (by decide)) (zi_f (by decide))) (RM_cg rmo (zi_f (by decide)) (zi_f (by decide))) (by omega) (by omega) rfl rfl
    exact ⟨k1, k2, k3, k4, k5, k6, k7, k8, k9, k10, k11, k12, k13, k14, k15, ⟨d, e2, e3, e3⟩, k19⟩
  · exact J_no r ht (q64n hg) (q137n hg)
theorem J_rate : JG 88 146 [vI x] := by
  intro hc hm n p s c t r ht
  obtain ⟨w, rm, rk, rx, rmo, rl, rd, rh, rg, rb, bs, rt, ro⟩ := id r
  have h1 := q88 (x := x) w.1
  have h2 := q146 (x := x) rm
  by_cases hx : 0 ≤ x.toInt ∧ x.toInt ≤ 100
  · rw [if_pos hx] at h1 h2
    obtain ⟨k1, k2, k3, k4, k5, k6, k7, k8, k9, k10, k11, k12, k13, k14, k15, k16, k19⟩ := rk
    have F : Fr hc (zui hc 12 3 x) := Fx (Fr_rfl w.1) (by decide) w.1
    have N : MF hm (zui hm 19 26 x) := MF_ui (by decide) (by decide)
    refine ⟨_, _, _, n, p, s, c, h1, by rw [h2, k11], ?_, F.1, N⟩
    refine R_fix r F N (fun l k hl => cf_a w (by decide) hl) (fun _ _ => rfl) (zi_f (by decide)) (zi_f (by decide)) (fun a h1 h2 h3 => zi_f (by omega)) ?_ (RX_cg rx (zi_ua (by decide)) (zi_f (by decide)) (zi_uk (by decide)) (zi_f (by decide))) (RM_cg rmo (zi_f (by decide)) (zi_f (by decide))) (by omega) (by omega) rfl rfl
    exact ⟨k1, k2, k3, k4, k5, k6, k7, k8, k9, k10, by rw [zi_us, zi_us], k12, k13, k14, k15, k16, k19⟩
  · rw [if_neg hx] at h1 h2
    exact J_no r ht h1 h2
theorem J_money : JG 67 139 [vI x, vI y] := by
  intro hc hm n p s c t r ht
  obtain ⟨w, rm, rk, rx, rmo, rl, rd, rh, rg, rb, bs, rt, ro⟩ := id r
  obtain ⟨k1, k2, k3, k4, k5, k6, k7, k8, k9, k10, k11, k12, k13, k14, k15, k16, k19⟩ := rk
  have h1 := q67 (x := x) (y := y) w.1 k2 k4
  have h2 := q139 (x := x) (y := y) rm k3 k4
  by_cases hx : 0 ≤ x.toInt ∧ x.toInt < p
  · obtain ⟨q, hq, eq, eq2⟩ := zof (x := x) (n := p) (by omega) hx
    rw [if_pos hx, eq2, Int.toNat_natCast, rmo q hq] at h1
    rw [if_pos hx, eq2, Int.toNat_natCast] at h2
    by_cases hy : (-1000000 ≤ y.toInt ∧ y.toInt ≤ 1000000) ∧ 0 ≤ (zi hm 34 q + y).toInt ∧ (zi hm 34 q + y).toInt ≤ 1000000
    · rw [if_pos hy] at h1 h2
      have F : Fr hc (zui hc 18 q (zi hm 34 q + y)) := Fx (Fr_rfl w.1) (by decide) w.1
      have N : MF hm (zui hm 34 q (zi hm 34 q + y)) := MF_ui (by decide) (by decide)
      refine ⟨_, _, _, n, p, s, c, h1, h2, ?_, F.1, N⟩
      refine R_fix r F N (fun l k hl => cf_a w (by decide) hl) (fun _ _ => rfl) (zi_f (by decide)) (zi_f (by decide)) (fun a h1 h2 h3 => zi_f (by omega)) ?_ (RX_cg rx (zi_ua (by decide)) (zi_f (by decide)) (zi_ua (by decide)) (zi_f (by decide))) (fun i hi => ?_) (by omega) (by omega) rfl rfl
      · exact ⟨k1, k2, k3, k4, k5, k6, k7, k8, k9, k10, k11, k12, k13, k14, k15, k16, k19⟩
      · rw [zi_ui, zi_ui, rmo i hi]
        simp
    · rw [if_neg hy] at h1 h2
      exact J_no r ht h1 h2
  · rw [if_neg hx] at h1 h2
    exact J_no r ht h1 h2
end ZCG
