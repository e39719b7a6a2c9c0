section ZLJ
variable {h : zH} {a ed m cap o : Nat} {x y : Int32} {α : Type}
/-- what a change of a list's own cells leaves as it was -/
def zKeep (h h' : zH) (a ed : Nat) : Prop := (∀ b k, ¬ (b = a ∧ (k = 0 ∨ k = 2)) → zi h' b k = zi h b k) ∧ (∀ b k, b ≠ ed → zr h' b k = zr h b k) ∧ (∀ b, zk h' b = zk h b) ∧ zn h' = zn h ∧ zs h' = zs h
theorem q43 (L : zLi h a ed m cap) {i : Nat} (hi : i < m) : ∃ h', zcall 43 [vR (some a), vI (nI i)] h = some (some (vR (zr h ed i)), h') ∧ zLi h' a ed (m - 1) cap ∧ (∀ j, j < m - 1 → zr h' ed j = if j < i then zr h ed j else zr h ed (j + 1)) ∧ zKeep h h' a ed := by
  obtain ⟨l1, l2, l3, l4, l5, l6, l7, l8, l9, l10, l11⟩ := L
  have h8 : 8 ≤ ed := by omega
  have hae : a ≠ ed := fun q => by rw [q, l9] at l3; cases l3
  have em : nI m - 1 = nI (m - 1) := by
    rw [show (1 : Int32) = nI 1 from rfl, pk_sub (by omega)]
  rw [e43, gI_k l1 l2 l3 (by decide), l5, cI_k (q44 hi (by omega)), gR_k l1 l2 l3 (by decide), l4, aR_k h8 l8 l9 (by omega) (by omega), vr_k l1 l2 l3]
  generalize hh2 : zui h a 0 (zi h a 0 + 1) = h2
  have n2 : zn h2 = zn h := by rw [← hh2]; rfl
  have s2 : zs h2 = zs h := by rw [← hh2]; rfl
  have k2 : ∀ b, zk h2 b = zk h b := fun b => by rw [← hh2]; rfl
  have r2 : ∀ b k, zr h2 b k = zr h b k := fun b k => by rw [← hh2]; rfl
  have i2 : ∀ b k, ¬ (b = a ∧ k = 0) → zi h2 b k = zi h b k := fun b k hb => by rw [← hh2]; exact if_neg hb
  -- the elements behind it move up
  have key : ∃ h4 : zH, zcall 46 [vR (some a), vR (some ed), vI (nI i)] h = some (none, zur (zui h4 a 2 (nI (m - 1))) ed (m - 1) none) ∧ zn h4 = zn h ∧ zs h4 = zs h ∧ (∀ b, zk h4 b = zk h b) ∧ (∀ b k, zi h4 b k = zi h2 b k) ∧ (∀ b k, b ≠ ed → zr h4 b k = zr h b k) ∧ (∀ j, j < m - 1 → zr h4 ed j = if j < i then zr h ed j else zr h ed (j + 1)) ∧ (∀ j, m - 1 ≤ j → zr h4 ed j = zr h ed j) := by
    rw [e46, gI_k l1 l2 l3 (by decide), pI_k l1 l2 l3 (by decide), hh2, gI_k l1 (by rw [n2]; exact l2) (by rw [k2]; exact l3) (by decide), i2 a 2 (by omega), l5, em]
    have fin : ∀ h4 : zH, zn h4 = zn h → (∀ b, zk h4 b = zk h b) → (zpI h4 (some a) 0 2 (nI (m - 1)) fun h5 => ztR h5 (some ed) (nI (m - 1)) none fun h6 => (some (none, h6) : Option (Option zV × zH))) = some (none, zur (zui h4 a 2 (nI (m - 1))) ed (m - 1) none) := by
      intro h4 e1 e2
      rw [pI_k l1 (by rw [e1]; exact l2) (by rw [e2]; exact l3) (by decide), tR_k h8 (by rw [zn_ui, e1]; exact l8) (by rw [zk_ui, e2]; exact l9) (by omega) (by omega) rfl]
    by_cases hlt : i < m - 1
    · rw [if_pos (nI_lt hlt (by omega))]
      have e1 : nI i + 1 = nI (i + 1) := nI_1 i
      have e2 : nI (m - 1) - nI i = nI (m - 1 - i) := pk_sub (by omega)
      have c1 : (nI (i + 1)).toNatClampNeg = i + 1 := nI_clamp (by omega)
      have c2 : (nI i).toNatClampNeg = i := nI_clamp (by omega)
      have c3 : (nI (m - 1 - i)).toNatClampNeg = m - 1 - i := nI_clamp (by omega)
      have e3 : ∀ f : zH → Option (Option zV × zH), zcM h2 (some ed) (nI i + 1) (some ed) (nI i) (nI (m - 1) - nI i) f = f (zcy h2 ed ed (i + 1) i (m - 1 - i)) := by
        intro f
        rw [e1, e2]
        unfold zcM
        simp only
        rw [if_pos ⟨h8, by rw [n2]; exact l8, h8, by rw [n2]; exact l8, by rw [k2, l9], by rw [k2, l9], nI_nn (by omega), nI_nn (by omega), nI_nn (by omega), by rw [c1, c3, k2, l9]; show i + 1 + (m - 1 - i) ≤ cap; omega, by rw [c2, c3, k2, l9]; show i + (m - 1 - i) ≤ cap; omega, fun j hj => by rw [c3] at hj; rw [c1, r2]; exact zob_up (by rw [n2]; exact Nat.le_refl _) (fun b _ => k2 b) (l11 _ (by omega))⟩, c1, c2, c3]
      rw [e3]
      have rr : ∀ j, zr (zcy h2 ed ed (i + 1) i (m - 1 - i)) ed j = if i ≤ j ∧ j < i + (m - 1 - i) then zr h2 ed (i + 1 + (j - i)) else zr h2 ed j := by
        intro j
        show (if ed = ed then va_cpy (zr h2 ed) (zr h2 ed) (i + 1) i (m - 1 - i) j else zr h2 ed j) = _
        rw [if_pos rfl]
        rfl
      refine ⟨_, fin _ n2 k2, n2, s2, k2, fun _ _ => rfl, fun b k hb => ?_, fun j hj => ?_, fun j hj => ?_⟩
      · show (if b = ed then _ else zr h2 b k) = _
        rw [if_neg hb, r2]
      · rw [rr]
        by_cases hji : j < i
        · rw [if_neg (by omega), if_pos hji, r2]
        · rw [if_pos (by omega), if_neg hji, r2]
          congr 1
          omega
      · rw [rr, if_neg (by omega), r2]
    · rw [if_neg (nI_nlt (by omega) (by omega))]
      exact ⟨h2, fin h2 n2 k2, n2, s2, k2, fun _ _ => rfl, fun b k _ => r2 b k, fun j hj => by rw [r2, if_pos (by omega)], fun j _ => r2 _ _⟩
  obtain ⟨h4, c4, n4, s4, k4, i4, r4, re4, rz4⟩ := key
  rw [cV_k c4]
  refine ⟨_, rfl, ⟨l1, by rw [zn_ur, zn_ui, n4]; exact l2, by rw [zk_ur, zk_ui, k4]; exact l3, ?_, ?_, by omega, l7, by rw [zn_ur, zn_ui, n4]; exact l8, by rw [zk_ur, zk_ui, k4]; exact l9, l10, fun j hj => ?_⟩, fun j hj => ?_, fun b k hb => ?_, fun b k hb => ?_, fun b => by rw [zk_ur, zk_ui, k4], by rw [zn_ur, zn_ui, n4], by rw [zs_ur, zs_ui, s4]⟩
  · rw [zr_ur, if_neg (by omega), zr_ui, r4 a 1 hae]; exact l4
  · rw [zi_ur]; exact zi_us
  · have hup : ∀ q : Option Nat, (q.all fun y => decide (zob h y)) = true → (q.all fun y => decide (zob (zur (zui h4 a 2 (nI (m - 1))) ed (m - 1) none) y)) = true := fun q hq => zob_up (by rw [zn_ur, zn_ui, n4]; exact Nat.le_refl _) (fun b _ => by rw [zk_ur, zk_ui, k4]) hq
    rw [zr_ur]
    split
    · rfl
    · rw [zr_ui]
      rcases Nat.lt_or_ge j (m - 1) with q | q
      · rw [re4 j q]
        split
        · exact hup _ (l11 _ (by omega))
        · exact hup _ (l11 _ (by omega))
      · rw [rz4 j q]; exact hup _ (l11 _ hj)
  · rw [zr_ur, if_neg (by omega), zr_ui, re4 j hj]
  · rw [zi_ur, zi_ui, if_neg (by omega), i4, i2 b k (by omega)]
  · rw [zr_ur, if_neg (by omega), zr_ui, r4 b k hb]
theorem w78 : ∀ (k i : Nat) (h : zH), 8 ≤ ed → ed < zn h → zk h ed = (103, cap) → cap ≤ 200 → i + k = m → m ≤ cap → ∃ h', zev 78 27 [some (vR (some a)), some (vR (some ed)), some (vI (nI m)), some (vI (nI i))] [] h = some (none, h') ∧ zn h' = zn h ∧ zs h' = zs h ∧ (∀ b, zk h' b = zk h b) ∧ (∀ b k, zi h' b k = zi h b k) ∧ (∀ b k, b ≠ ed → zr h' b k = zr h b k) ∧ ∀ j, zr h' ed j = none ∨ zr h' ed j = zr h ed j := by
  intro k
  induction k with
  | zero =>
    intro i h h8 hn hk hc hi hm
    rw [b78_27, if_neg (nI_nlt (by omega) (by omega))]
    exact ⟨h, rfl, rfl, rfl, fun _ => rfl, fun _ _ => rfl, fun _ _ _ => rfl, fun _ => Or.inr rfl⟩
  | succ k ih =>
    intro i h h8 hn hk hc hi hm
    rw [b78_27, if_pos (nI_lt (by omega) (by omega)), tR_k h8 hn hk (by omega) (by omega) rfl, nI_1]
    obtain ⟨h', c1, c2, c3, c4, c5, c6, c7⟩ := ih (i + 1) (zur h ed i none) h8 hn hk hc (by omega) hm
    refine ⟨h', c1, c2, c3, c4, c5, fun b k hb => ?_, fun j => ?_⟩
    · rw [c6 b k hb, zr_ur, if_neg (by omega)]
    · rcases c7 j with q | q
      · exact Or.inl q
      · rw [zr_ur] at q
        split at q
        · exact Or.inl q
        · exact Or.inr q
theorem q78 (L : zLi h a ed m cap) (hm : 0 < m) : ∃ h', zcall 78 [vR (some a)] h = some (none, h') ∧ zLi h' a ed 0 cap ∧ zKeep h h' a ed := by
  obtain ⟨l1, l2, l3, l4, l5, l6, l7, l8, l9, l10, l11⟩ := L
  have h8 : 8 ≤ ed := by omega
  have hae : a ≠ ed := fun q => by rw [q, l9] at l3; cases l3
  rw [e78, gI_k l1 l2 l3 (by decide), pI_k l1 l2 l3 (by decide)]
  generalize hh2 : zui h a 0 (zi h a 0 + 1) = h2
  have n2 : zn h2 = zn h := by rw [← hh2]; rfl
  have s2 : zs h2 = zs h := by rw [← hh2]; rfl
  have k2 : ∀ b, zk h2 b = zk h b := fun b => by rw [← hh2]; rfl
  have r2 : ∀ b k, zr h2 b k = zr h b k := fun b k => by rw [← hh2]; rfl
  have i2 : ∀ b k, ¬ (b = a ∧ k = 0) → zi h2 b k = zi h b k := fun b k hb => by rw [← hh2]; exact if_neg hb
  rw [gR_k l1 (by rw [n2]; exact l2) (by rw [k2]; exact l3) (by decide), gI_k l1 (by rw [n2]; exact l2) (by rw [k2]; exact l3) (by decide), pI_k l1 (by rw [n2]; exact l2) (by rw [k2]; exact l3) (by decide), r2, l4, i2 a 2 (by omega), l5]
  obtain ⟨h', c1, c2, c3, c4, c5, c6, c7⟩ := w78 (a := a) (ed := ed) (cap := cap) (m := m) m 0 (zui h2 a 2 0) h8 (by rw [zn_ui, n2]; exact l8) (by rw [zk_ui, k2]; exact l9) l7 (by omega) l6
  rw [nI_0] at c1
  refine ⟨h', c1, ⟨l1, by rw [c2, zn_ui, n2]; exact l2, by rw [c4, zk_ui, k2]; exact l3, ?_, ?_, Nat.zero_le _, l7, by rw [c2, zn_ui, n2]; exact l8, by rw [c4, zk_ui, k2]; exact l9, l10, fun i hi => ?_⟩, fun b k hb => ?_, fun b k hb => ?_, fun b => by rw [c4, zk_ui, k2], by rw [c2, zn_ui, n2], by rw [c3, zs_ui, s2]⟩
  · rw [c6 a 1 hae, zr_ui, r2]; exact l4
  · rw [c5, zi_us]; exact nI_0.symm
  · rcases c7 i with q | q
    · rw [q]; rfl
    · rw [q, zr_ui, r2]
      exact zob_up (by rw [c2, zn_ui, n2]; exact Nat.le_refl _) (fun b _ => by rw [c4, zk_ui, k2]) (l11 i hi)
  · rw [c5, zi_ui, if_neg (by omega), i2 b k (by omega)]
  · rw [c6 b k hb, zr_ui, r2]
end ZLJ
