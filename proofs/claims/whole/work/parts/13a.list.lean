/-! ArrayList, over the small heap -/
/-- a list at a, its row at ed (of length cap), m elements -/
def zLi (h : zH) (a ed m cap : Nat) : Prop := 8 ≤ a ∧ a < zn h ∧ zk h a = (0, 3) ∧ zr h a 1 = some ed ∧ zi h a 2 = nI m ∧ m ≤ cap ∧ cap ≤ 200 ∧ ed < zn h ∧ zk h ed = (103, cap) ∧ (ed = 7 ∧ cap = 0 ∨ 8 ≤ ed ∧ 0 < cap) ∧ ∀ i, i < cap → ((zr h ed i).all fun y => decide (zob h y)) = true
section ZLI
variable {h : zH} {a ed m cap o : Nat} {x y : Int32} {α : Type}
theorem aR_k {i N : Nat} {f : Option Nat → Option α} (h8 : 8 ≤ a) (hn : a < zn h) (hk : zk h a = (103, N)) (hi : i < N) (hN : N < 2 ^ 31) : zaR h (some a) (nI i) f = f (zr h a i) := by
  have e := nI_clamp (n := i) (by omega)
  unfold zaR
  simp only
  rw [if_pos ⟨h8, hn, by rw [hk], nI_nn (by omega), by rw [hk, e]; exact hi⟩, e]
theorem tR_k {i N : Nat} {q : Option Nat} {f : zH → Option α} (h8 : 8 ≤ a) (hn : a < zn h) (hk : zk h a = (103, N)) (hi : i < N) (hN : N < 2 ^ 31) (hq : (q.all fun y => decide (zob h y)) = true) : ztR h (some a) (nI i) q f = f (zur h a i q) := by
  have e := nI_clamp (n := i) (by omega)
  unfold ztR
  simp only
  rw [if_pos ⟨h8, ⟨hn, by rw [hk], nI_nn (by omega), by rw [hk, e]; exact hi⟩, hq⟩, e]
theorem q14 (L : zLi h a ed m cap) : zcall 14 [vR (some a)] h = some (some (vI (nI m)), h) := by
  obtain ⟨l1, l2, l3, l4, l5, -⟩ := L
  rw [e14, gI_k l1 l2 l3 (by decide), l5]
theorem q75 (L : zLi h a ed m cap) : zcall 75 [vR (some a)] h = some (some (vI (if m = 0 then 1 else 0)), h) := by
  obtain ⟨l1, l2, l3, l4, l5, l6, l7, -⟩ := L
  rw [e75, gI_k l1 l2 l3 (by decide), l5, bo_0, bo_1]
  by_cases hm : m = 0
  · subst hm
    rw [if_pos nI_0, if_pos rfl]
  · rw [if_neg (fun q => hm ((nI_eq (by omega) (by decide)).mp (q.trans nI_0.symm))), if_neg hm]
theorem q44 {i : Nat} (hi : i < m) (hm : m < 2 ^ 31) : zcall 44 [vI (nI i), vI (nI m)] h = some (some (vI (nI i)), h) := by
  have : zcall 45 [vI (nI i), vI (nI m), vR none] h = some (some (vI (nI i)), h) := by
    rw [e45, if_neg (nI_nn (by omega)), if_pos (nI_lt hi hm)]
  rw [e44, cI_k this]
theorem q51 (L : zLi h a ed m cap) {i : Nat} (hi : i < m) : zcall 51 [vR (some a), vI (nI i)] h = some (some (vR (zr h ed i)), h) := by
  obtain ⟨l1, l2, l3, l4, l5, l6, l7, l8, l9, l10, l11⟩ := L
  have h52 : zcall 52 [vR (some a), vI (nI i)] h = some (some (vR (zr h ed i)), h) := by
    rw [e52, gR_k l1 l2 l3 (by decide), l4, aR_k (by omega) l8 l9 (by omega) (by omega)]
  rw [e51, gI_k l1 l2 l3 (by decide), l5, cI_k (q44 hi (by omega)), vr_k l1 l2 l3, cR_k h52]
theorem q34 : zcall 34 [vI x, vI y] h = some (some (vI (if x < y then y else x)), h) := by
  rw [e34]
  split <;> rfl
/-- the next length of a full row -/
def zcap (c : Nat) : Nat := if c = 0 then 10 else c + max 1 (c / 2)
theorem q33 {c : Nat} (hc : 0 < c) (hc2 : c < 200) : zcall 33 [vI (nI c), vI (nI (c + 1) - nI c), vI (nI c >>> (1 &&& 31))] h = some (some (vI (nI (zcap c))), h) := by
  have e1 : nI (c + 1) - nI c = nI 1 := by rw [pk_sub (by omega), show c + 1 - c = 1 by omega]
  have e2 : nI c >>> ((1 : Int32) &&& 31) = nI (c / 2) := by
    have := pk_shrN (n := c) (by omega) ((1 : Int32) &&& 31) 1 (by decide)
    simpa using this
  have e3 : (if nI 1 < nI (c / 2) then nI (c / 2) else nI 1) = nI (max 1 (c / 2)) := by
    by_cases hq : 1 < c / 2
    · rw [if_pos (nI_lt hq (by omega))]
      congr 1
      omega
    · rw [if_neg (nI_nlt (by omega) (by omega))]
      congr 1
      omega
  rw [e33, e1, e2, cI_k q34, e3, nI_add]
  have hz : zcap c = c + max 1 (c / 2) := by unfold zcap; rw [if_neg (by omega)]
  rw [hz, if_pos (by rw [z00]; exact nI_lt (by omega) (by omega)), if_neg]
  intro q
  have := Int32.lt_iff_toInt_lt.mp q
  rw [nI_toInt (by omega)] at this
  have h2 : (2147483639 : Int32).toInt = 2147483639 := by decide
  omega
theorem q32a (l1 : 8 ≤ a) (l2 : a < zn h) (l3 : zk h a = (0, 3)) (l4 : zr h a 1 = some 7) (l9 : zk h 7 = (103, 0)) (l8 : 7 < zn h) : zcall 32 [vR (some a), vI (nI 1)] h = some (some (vR (some (zn h))), zur (znw h 103 10) a 1 (some (zn h))) := by
  rw [e32, gR_k l1 l2 l3 (by decide), l4, al_k l8 l9 (by decide), if_neg (by rw [z00]; exact nI_nlt (Nat.le_refl 0) (by decide)), gR_k l1 l2 l3 (by decide), l4]
  have ez : ∀ (f g : Option (Option zV × zH)), zac (some 7) (some 7) f g = f := fun f g => by unfold zac; rw [if_pos ⟨by decide, by decide⟩, if_pos rfl]
  rw [ez, cI_k q34, if_neg (by decide)]
  unfold zna
  rw [if_pos ⟨by decide, by decide⟩, show (10 : Int32).toNatClampNeg = 10 by decide]
  have ek : zk (znw h 103 10) a = (0, 3) := by rw [zk_nw, if_neg (by omega)]; exact l3
  dsimp only
  rw [pR_k l1 (by rw [zn_nw]; omega) ek (by decide)]
theorem q32b {c : Nat} (l1 : 8 ≤ a) (l2 : a < zn h) (l3 : zk h a = (0, 3)) (l4 : zr h a 1 = some ed) (l8 : ed < zn h) (l9 : zk h ed = (103, c)) (l10 : 8 ≤ ed) (hc : 0 < c) (hc2 : c < 200) (l11 : ∀ i, i < c → ((zr h ed i).all fun y => decide (zob h y)) = true) : zcall 32 [vR (some a), vI (nI (c + 1))] h = some (some (vR (some (zn h))), zur (zcy (znw h 103 (zcap c)) ed (zn h) 0 0 c) a 1 (some (zn h))) := by
  have hz : c ≤ zcap c ∧ zcap c ≤ 400 := by unfold zcap; rw [if_neg (by omega)]; omega
  rw [e32, gR_k l1 l2 l3 (by decide), l4, al_k l8 l9 (by decide), if_pos (by rw [z00]; exact nI_lt hc (by omega)), b32_20, cI_k (q33 hc hc2), gR_k l1 l2 l3 (by decide), l4]
  unfold zcO
  simp only
  rw [if_pos ⟨l10, l8, by rw [l9], nI_nn (by omega), by rw [nI_clamp (by omega)]; omega, by rw [l9, nI_clamp (by omega)]; exact hz.1, by rw [l9]; exact l11⟩, nI_clamp (by omega), l9]
  have ek : zk (zcy (znw h 103 (zcap c)) ed (zn h) 0 0 c) a = (0, 3) := by
    show zk (znw h 103 (zcap c)) a = _
    rw [zk_nw, if_neg (by omega)]; exact l3
  rw [pR_k l1 (by show a < zn h + 1; omega) ek (by decide)]
/-- what adding does: the row it stands in then, and what stays -/
def zAdd (h h' : zH) (a ed ed' m o : Nat) : Prop := (∀ i, i < m → zr h' ed' i = zr h ed i) ∧ zr h' ed' m = some o ∧ (ed' = ed ∨ ed' = zn h) ∧ (∀ b k, b < zn h → ¬ (b = a ∧ (k = 0 ∨ k = 2)) → zi h' b k = zi h b k) ∧ (∀ b k, b < zn h → b ≠ ed → ¬ (b = a ∧ k = 1) → zr h' b k = zr h b k) ∧ (∀ b, b < zn h → zk h' b = zk h b) ∧ zn h ≤ zn h' ∧ zn h' ≤ zn h + 1 ∧ zs h ≤ zs h' ∧ zs h' ≤ zs h + 400
theorem zob_up {h' : zH} (hn : zn h ≤ zn h') (hk : ∀ b, b < zn h → zk h' b = zk h b) {q : Option Nat} (hq : (q.all fun y => decide (zob h y)) = true) : (q.all fun y => decide (zob h' y)) = true := by
  cases q with
  | none => rfl
  | some y =>
    simp only [Option.all_some, decide_eq_true_eq] at hq ⊢
    exact ⟨hq.1, by have := hq.2.1; omega, by rw [hk y hq.2.1]; exact hq.2.2⟩
theorem q29 (L : zLi h a ed m cap) (ho : zob h o) (hm : m < 100) : ∃ h' ed' cap', zcall 29 [vR (some a), vR (some o)] h = some (some (vI 1), h') ∧ zLi h' a ed' (m + 1) cap' ∧ zAdd h h' a ed ed' m o ∧ zs h' + 4 * cap ≤ zs h + 4 * cap' := by
  obtain ⟨l1, l2, l3, l4, l5, l6, l7, l8, l9, l10, l11⟩ := L
  have hae : a ≠ ed := fun q => by rw [q, l9] at l3; cases l3
  rw [e29, gI_k l1 l2 l3 (by decide), pI_k l1 l2 l3 (by decide)]
  generalize hh2 : zui h a 0 (zi h a 0 + 1) = h2
  have n2 : zn h2 = zn h := by rw [← hh2]; rfl
  have s2 : zs h2 = zs h := by rw [← hh2]; rfl
  have k2 : ∀ b, zk h2 b = zk h b := fun b => by rw [← hh2]; rfl
  have r2 : ∀ b k, zr h2 b k = zr h b k := fun b k => by rw [← hh2]; rfl
  have i2 : ∀ b k, ¬ (b = a ∧ k = 0) → zi h2 b k = zi h b k := fun b k hb => by rw [← hh2]; exact if_neg hb
  have ho2 : zob h2 o := by unfold zob; rw [n2, k2]; exact ho
  rw [gR_k l1 (by rw [n2]; exact l2) (by rw [k2]; exact l3) (by decide), gI_k l1 (by rw [n2]; exact l2) (by rw [k2]; exact l3) (by decide), vr_k l1 (by rw [n2]; exact l2) (by rw [k2]; exact l3), r2, l4, i2 a 2 (by omega), l5]
  have hal : ∀ f : Int32 → Option (Option zV × zH), zal h2 (some ed) f = f (nI cap) := fun f => al_k (by rw [n2]; exact l8) (by rw [k2]; exact l9) (by decide)
  by_cases hmc : m = cap
  · -- full: a new row
    subst hmc
    have h31 : ∀ h3 : zH, zcall 32 [vR (some a), vI (nI (m + 1))] h2 = some (some (vR (some (zn h))), h3) → zcall 31 [vR (some a)] h2 = some (some (vR (some (zn h))), h3) := by
      intro h3 e
      rw [e31, gI_k l1 (by rw [n2]; exact l2) (by rw [k2]; exact l3) (by decide), i2 a 2 (by omega), l5, nI_1, vr_k l1 (by rw [n2]; exact l2) (by rw [k2]; exact l3), cR_k e]
    -- behind the growing: h3
    have key : ∃ h3 : zH, zcall 31 [vR (some a)] h2 = some (some (vR (some (zn h))), h3) ∧ zn h3 = zn h + 1 ∧ zs h ≤ zs h3 ∧ zs h3 ≤ zs h + 400 ∧ (∀ b, b < zn h → zk h3 b = zk h b) ∧ zk h3 (zn h) = (103, zcap m) ∧ (∀ b k, b < zn h → zi h3 b k = zi h2 b k) ∧ (∀ b k, b < zn h → ¬ (b = a ∧ k = 1) → zr h3 b k = zr h b k) ∧ zr h3 a 1 = some (zn h) ∧ (∀ i, i < m → zr h3 (zn h) i = zr h ed i) ∧ (∀ i, m ≤ i → zr h3 (zn h) i = none) ∧ zs h3 = zs h + zcap m := by
      rcases l10 with ⟨e7, ec⟩ | ⟨h8, hc⟩
      · subst ec
        subst e7
        have e32 := q32a (h := h2) l1 (by rw [n2]; exact l2) (by rw [k2]; exact l3) (by rw [r2]; exact l4) (by rw [k2]; exact l9) (by rw [n2]; exact l8)
        rw [n2] at e32
        refine ⟨_, h31 _ e32, ?_⟩
        · refine ⟨by rw [zn_ur, zn_nw, n2], by rw [zs_ur, zs_nw, s2]; omega, by rw [zs_ur, zs_nw, s2]; omega, fun b hb => ?_, ?_, fun b k hb => ?_, fun b k hb hk => ?_, ?_, fun i hi => absurd hi (by omega), fun i _ => ?_, by rw [zs_ur, zs_nw, s2]; rfl⟩
          · rw [zk_ur, zk_nw, n2, if_neg (by omega), k2]
          · rw [zk_ur, zk_nw, n2, if_pos rfl]; rfl
          · rw [zi_ur, zi_nw, n2, if_neg (by omega)]
          · rw [zr_ur, if_neg hk, zr_nw, n2, if_neg (by omega), r2]
          · rw [zr_ur, if_pos ⟨rfl, rfl⟩]
          · rw [zr_ur, if_neg (by omega), zr_nw, n2, if_pos rfl]
      · have e32 := q32b (h := h2) l1 (by rw [n2]; exact l2) (by rw [k2]; exact l3) (by rw [r2]; exact l4) (by rw [n2]; exact l8) (by rw [k2]; exact l9) h8 hc (by omega) (fun i hi => by rw [r2]; exact zob_up (by rw [n2]; exact Nat.le_refl _) (fun b _ => k2 b) (l11 i hi))
        rw [n2] at e32
        refine ⟨_, h31 _ e32, ?_⟩
        · have hz : m ≤ zcap m ∧ zcap m ≤ 400 := by unfold zcap; rw [if_neg (by omega)]; omega
          refine ⟨by show zn (znw h2 103 (zcap m)) = _; rw [zn_nw, n2], by show _ ≤ zs (znw h2 103 (zcap m)); rw [zs_nw, s2]; omega, by show zs (znw h2 103 (zcap m)) ≤ _; rw [zs_nw, s2]; omega, fun b hb => ?_, ?_, fun b k hb => ?_, fun b k hb hk => ?_, ?_, fun i hi => ?_, fun i hi => ?_, by show zs (znw h2 103 (zcap m)) = _; rw [zs_nw, s2]⟩
          · show zk (znw h2 103 (zcap m)) b = _
            rw [zk_nw, n2, if_neg (by omega), k2]
          · show zk (znw h2 103 (zcap m)) (zn h) = _
            rw [zk_nw, n2, if_pos rfl]
          · show zi (znw h2 103 (zcap m)) b k = _
            rw [zi_nw, n2, if_neg (by omega)]
          · rw [zr_ur, if_neg hk]
            show (if b = zn h then va_cpy (zr (znw h2 103 (zcap m)) ed) (zr (znw h2 103 (zcap m)) (zn h)) 0 0 m k else zr (znw h2 103 (zcap m)) b k) = _
            rw [if_neg (by omega), zr_nw, n2, if_neg (by omega), r2]
          · rw [zr_ur, if_pos ⟨rfl, rfl⟩]
          · rw [zr_ur, if_neg (by omega)]
            show (if zn h = zn h then va_cpy (zr (znw h2 103 (zcap m)) ed) (zr (znw h2 103 (zcap m)) (zn h)) 0 0 m i else zr (znw h2 103 (zcap m)) (zn h) i) = _
            rw [if_pos rfl]
            unfold va_cpy
            rw [if_pos (by omega), zr_nw, n2, if_neg (by omega), r2]
            congr 1
            omega
          · rw [zr_ur, if_neg (by omega)]
            show (if zn h = zn h then va_cpy (zr (znw h2 103 (zcap m)) ed) (zr (znw h2 103 (zcap m)) (zn h)) 0 0 m i else zr (znw h2 103 (zcap m)) (zn h) i) = _
            rw [if_pos rfl]
            unfold va_cpy
            rw [if_neg (by omega), zr_nw, n2, if_pos rfl]
    obtain ⟨h3, c3, n3, s3, s3', k3, kn3, i3, r3, ra3, rn3, rz3, s3e⟩ := key
    have hz : m + 1 ≤ zcap m ∧ zcap m ≤ 200 := by unfold zcap; split <;> omega
    have hka : zk h3 a = (0, 3) := by rw [k3 a l2]; exact l3
    have ho3 : ((some o).all fun y => decide (zob h3 y)) = true := zob_up (h := h) (by omega) k3 (by simpa using ho)
    have h30 : zcall 30 [vR (some a), vR (some o), vR (some ed), vI (nI m)] h2 = some (none, zui (zur h3 (zn h) m (some o)) a 2 (nI (m + 1))) := by
      rw [e30, hal, if_pos rfl, vr_k l1 (by rw [n2]; exact l2) (by rw [k2]; exact l3), cR_k c3, tR_k (by omega) (by omega) kn3 (by omega) (by omega) ho3, pI_k l1 (by rw [zn_ur]; omega) (by rw [zk_ur]; exact hka) (by decide), nI_1]
    rw [cV_k h30, bo_1]
    refine ⟨_, zn h, zcap m, rfl, ?_, ?_, by rw [zs_ui, zs_ur, s3e]; unfold zcap; split <;> omega⟩
    · refine ⟨l1, by rw [zn_ui, zn_ur]; omega, hka, ?_, zi_us, hz.1, hz.2, by rw [zn_ui, zn_ur]; omega, kn3, Or.inr ⟨by omega, by omega⟩, fun i hi => ?_⟩
      · rw [zr_ui, zr_ur, if_neg (by omega)]; exact ra3
      · rw [zr_ui, zr_ur]
        split
        · exact ho3
        · rcases Nat.lt_or_ge i m with q | q
          · rw [rn3 i q]
            exact zob_up (h := h) (by omega) k3 (l11 i q)
          · rw [rz3 i q]; rfl
    · refine ⟨fun i hi => ?_, ?_, Or.inr rfl, fun b k hb hk => ?_, fun b k hb hbe hk => ?_, fun b hb => k3 b hb, by rw [zn_ui, zn_ur]; omega, by rw [zn_ui, zn_ur]; omega, by rw [zs_ui, zs_ur]; exact s3, by rw [zs_ui, zs_ur]; exact s3'⟩
      · rw [zr_ui, zr_ur, if_neg (by omega)]; exact rn3 i hi
      · rw [zr_ui, zr_ur, if_pos ⟨rfl, rfl⟩]
      · rw [zi_ui, if_neg (by omega), zi_ur, i3 b k hb, i2 b k (by omega)]
      · rw [zr_ui, zr_ur, if_neg (by omega), r3 b k hb hk]
  · -- there is room
    have h8 : 8 ≤ ed := by omega
    have h30 : zcall 30 [vR (some a), vR (some o), vR (some ed), vI (nI m)] h2 = some (none, zui (zur h2 ed m (some o)) a 2 (nI (m + 1))) := by
      rw [e30, hal, if_neg (fun q => hmc ((nI_eq (by omega) (by omega)).mp q)), tR_k h8 (by rw [n2]; exact l8) (by rw [k2]; exact l9) (by omega) (by omega) (by simpa using ho2), pI_k l1 (by rw [zn_ur, n2]; exact l2) (by rw [zk_ur, k2]; exact l3) (by decide), nI_1]
    rw [cV_k h30, bo_1]
    refine ⟨_, ed, cap, rfl, ?_, ?_, by rw [zs_ui, zs_ur, s2]; exact Nat.le_refl _⟩
    · refine ⟨l1, by rw [zn_ui, zn_ur, n2]; exact l2, by rw [zk_ui, zk_ur, k2]; exact l3, ?_, zi_us, by omega, l7, by rw [zn_ui, zn_ur, n2]; exact l8, by rw [zk_ui, zk_ur, k2]; exact l9, l10, fun i hi => ?_⟩
      · rw [zr_ui, zr_ur, if_neg (by omega), r2]; exact l4
      · rw [zr_ui, zr_ur]
        have hup : ∀ q : Option Nat, (q.all fun y => decide (zob h y)) = true → (q.all fun y => decide (zob (zui (zur h2 ed m (some o)) a 2 (nI (m + 1))) y)) = true := fun q hq => zob_up (by rw [zn_ui, zn_ur, n2]; exact Nat.le_refl _) (fun b _ => by rw [zk_ui, zk_ur, k2]) hq
        split
        · exact hup _ (by simpa using ho)
        · rw [r2]; exact hup _ (l11 i hi)
    · refine ⟨fun i hi => ?_, ?_, Or.inl rfl, fun b k hb hk => ?_, fun b k hb hbe hk => ?_, fun b hb => by rw [zk_ui, zk_ur, k2], by rw [zn_ui, zn_ur, n2]; exact Nat.le_refl _, by rw [zn_ui, zn_ur, n2]; omega, by rw [zs_ui, zs_ur, s2]; exact Nat.le_refl _, by rw [zs_ui, zs_ur, s2]; omega⟩
      · rw [zr_ui, zr_ur, if_neg (by omega), r2]
      · rw [zr_ui, zr_ur, if_pos ⟨rfl, rfl⟩]
      · rw [zi_ui, if_neg (by omega), zi_ur, i2 b k (by omega)]
      · rw [zr_ui, zr_ur, if_neg (by omega), r2]
end ZLI
