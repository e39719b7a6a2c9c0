/-! the small heap's laws -/
section ZHL
variable {h : zH} {a k b j t N : Nat} {x : Int32} {q : Option Nat} {α : Type}
theorem zn_ui : zn (zui h a k x) = zn h := rfl
theorem zs_ui : zs (zui h a k x) = zs h := rfl
theorem zk_ui : zk (zui h a k x) b = zk h b := rfl
theorem zr_ui : zr (zui h a k x) b j = zr h b j := rfl
theorem zi_ui : zi (zui h a k x) b j = if b = a ∧ j = k then x else zi h b j := rfl
theorem zn_ur : zn (zur h a k q) = zn h := rfl
theorem zs_ur : zs (zur h a k q) = zs h := rfl
theorem zk_ur : zk (zur h a k q) b = zk h b := rfl
theorem zi_ur : zi (zur h a k q) b j = zi h b j := rfl
theorem zr_ur : zr (zur h a k q) b j = if b = a ∧ j = k then q else zr h b j := rfl
theorem zn_nw : zn (znw h t N) = zn h + 1 := rfl
theorem zs_nw : zs (znw h t N) = zs h + N := rfl
theorem zk_nw : zk (znw h t N) b = if b = zn h then (t, N) else zk h b := rfl
theorem zi_nw : zi (znw h t N) b j = if b = zn h then 0 else zi h b j := rfl
theorem zr_nw : zr (znw h t N) b j = if b = zn h then none else zr h b j := rfl
theorem zi_us : zi (zui h a k x) a k = x := if_pos ⟨rfl, rfl⟩
theorem zi_ua (hb : b ≠ a) : zi (zui h a k x) b j = zi h b j := if_neg fun q => hb q.1
theorem zi_uk (hj : j ≠ k) : zi (zui h a k x) b j = zi h b j := if_neg fun q => hj q.2
theorem gI_k {f : Int32 → Option α} (h8 : 8 ≤ a) (hn : a < zn h) (hk : zk h a = (t, N)) (hj : k < N) : zgI h (some a) t k f = f (zi h a k) := by
  unfold zgI; exact if_pos ⟨h8, hn, by rw [hk], by rw [hk]; exact hj⟩
theorem gR_k {f : Option Nat → Option α} (h8 : 8 ≤ a) (hn : a < zn h) (hk : zk h a = (t, N)) (hj : k < N) : zgR h (some a) t k f = f (zr h a k) := by
  unfold zgR; exact if_pos ⟨h8, hn, by rw [hk], by rw [hk]; exact hj⟩
theorem pI_k {f : zH → Option α} (h8 : 8 ≤ a) (hn : a < zn h) (hk : zk h a = (t, N)) (hj : k < N) : zpI h (some a) t k x f = f (zui h a k x) := by
  unfold zpI; exact if_pos ⟨h8, hn, by rw [hk], by rw [hk]; exact hj⟩
theorem pZ_k {f : zH → Option α} (h8 : 8 ≤ a) (hn : a < zn h) (hk : zk h a = (t, N)) (hj : k < N) (hx : x = 0 ∨ x = 1) : zpZ h (some a) t k x f = f (zui h a k x) := by
  unfold zpZ; exact if_pos ⟨⟨h8, hn, by rw [hk], by rw [hk]; exact hj⟩, hx⟩
theorem pR_k {f : zH → Option α} (h8 : 8 ≤ a) (hn : a < zn h) (hk : zk h a = (t, N)) (hj : k < N) : zpR h (some a) t k q f = f (zur h a k q) := by
  unfold zpR; exact if_pos ⟨h8, hn, by rw [hk], by rw [hk]; exact hj⟩
theorem vr_k {f : Option α} (h8 : 8 ≤ a) (hn : a < zn h) (hk : zk h a = (t, N)) : zvr h (some a) t f = f := by
  unfold zvr; exact if_pos ⟨h8, hn, by rw [hk]⟩
theorem nI_nn {i : Nat} (hi : i < 2 ^ 31) : ¬ nI i < 0 := nI_pos hi
theorem aI_k {i : Nat} {f : Int32 → Option α} (hn : a < zn h) (hk : zk h a = (100, N)) (hi : i < N) (hN : N < 2 ^ 31) : zaI h (some a) (nI i) f = f (zi h a i) := by
  have e := nI_clamp (n := i) (by omega)
  unfold zaI
  simp only
  rw [if_pos ⟨hn, by rw [hk], nI_nn (by omega), by rw [hk, e]; exact hi⟩, e]
theorem aB_k {i : Nat} {f : Int32 → Option α} (h8 : 8 ≤ a) (hn : a < zn h) (ht : t = 101 ∨ t = 102) (hk : zk h a = (t, N)) (hi : i < N) (hN : N < 2 ^ 31) : zaB h (some a) (nI i) f = f (zi h a i) := by
  have e := nI_clamp (n := i) (by omega)
  have hc : zix h a 101 (nI i) ∨ zix h a 102 (nI i) := by
    rcases ht with rfl | rfl
    · exact Or.inl ⟨hn, by rw [hk], nI_nn (by omega), by rw [hk, e]; exact hi⟩
    · exact Or.inr ⟨hn, by rw [hk], nI_nn (by omega), by rw [hk, e]; exact hi⟩
  unfold zaB
  simp only
  rw [if_pos ⟨h8, hc⟩, e]
theorem tI_k {i : Nat} {f : zH → Option α} (h8 : 8 ≤ a) (hn : a < zn h) (hk : zk h a = (100, N)) (hi : i < N) (hN : N < 2 ^ 31) : ztI h (some a) (nI i) x f = f (zui h a i x) := by
  have e := nI_clamp (n := i) (by omega)
  unfold ztI
  simp only
  rw [if_pos ⟨h8, hn, by rw [hk], nI_nn (by omega), by rw [hk, e]; exact hi⟩, e]
theorem tZ_k {i : Nat} {f : zH → Option α} (h8 : 8 ≤ a) (hn : a < zn h) (hk : zk h a = (102, N)) (hi : i < N) (hN : N < 2 ^ 31) (hx : x = 0 ∨ x = 1) : ztB h (some a) (nI i) x f = f (zui h a i x) := by
  have e := nI_clamp (n := i) (by omega)
  unfold ztB
  simp only
  rw [if_neg, if_pos ⟨h8, ⟨hn, by rw [hk], nI_nn (by omega), by rw [hk, e]; exact hi⟩, hx⟩, e]
  rintro ⟨-, -, q, -⟩
  rw [hk] at q
  cases q
theorem tY_k {i : Nat} {f : zH → Option α} (h8 : 8 ≤ a) (hn : a < zn h) (hk : zk h a = (101, N)) (hi : i < N) (hN : N < 2 ^ 31) : ztB h (some a) (nI i) x f = f (zui h a i x.toInt8.toInt32) := by
  have e := nI_clamp (n := i) (by omega)
  unfold ztB
  simp only
  rw [if_pos ⟨h8, hn, by rw [hk], nI_nn (by omega), by rw [hk, e]; exact hi⟩, e]
theorem al_k {f : Int32 → Option α} (hn : a < zn h) (hk : zk h a = (t, N)) (ht : 100 ≤ t) : zal h (some a) f = f (nI N) := by
  unfold zal
  simp only
  rw [if_pos ⟨hn, by rw [hk]; exact ht⟩, hk]
  rfl
theorem dv_k {y : Int32} {f : Option α} (hy : y ≠ 0) : zdv y f = f := if_neg hy
theorem bo_1 {f : Option α} : zbo 1 f = f := if_pos (Or.inr rfl)
theorem bo_0 {f : Option α} : zbo 0 f = f := if_pos (Or.inl rfl)
theorem ul_s {f g : Option α} : zul (some a) f g = g := rfl
theorem ul_n {f g : Option α} : zul none f g = f := rfl
theorem cI_k {k : Nat} {as : List zV} {h' : zH} {f : Int32 → zH → Option α} (e : zcall k as h = some (some (vI x), h')) : zcI k as h f = f x h' := by
  unfold zcI; rw [e]; rfl
theorem cR_k {k : Nat} {as : List zV} {h' : zH} {f : Option Nat → zH → Option α} (e : zcall k as h = some (some (vR q), h')) : zcR k as h f = f q h' := by
  unfold zcR; rw [e]; rfl
theorem cV_k {k : Nat} {as : List zV} {h' : zH} {f : zH → Option α} (e : zcall k as h = some (none, h')) : zcV k as h f = f h' := by
  unfold zcV; rw [e]; rfl
end ZHL
/-- the cells of the reference: its object at 19, its rows at 20 to 44 -/
def MS (h : zH) : Prop := 45 ≤ zn h ∧ zk h 19 = (9, 41) ∧ zr h 19 0 = some 20 ∧ zr h 19 3 = some 21 ∧ zr h 19 4 = some 22 ∧ zr h 19 6 = some 23 ∧ zr h 19 7 = some 24 ∧ zr h 19 8 = some 25 ∧ zr h 19 9 = some 26 ∧ zr h 19 10 = some 27 ∧ zr h 19 11 = some 28 ∧ zr h 19 12 = some 29 ∧ zr h 19 13 = some 30 ∧ zr h 19 14 = some 31 ∧ zr h 19 15 = some 32 ∧ zr h 19 17 = some 33 ∧ zr h 19 19 = some 34 ∧ zr h 19 20 = some 35 ∧ zr h 19 21 = some 36 ∧ zr h 19 22 = some 37 ∧ zr h 19 23 = some 38 ∧ zr h 19 32 = some 39 ∧ zr h 19 33 = some 40 ∧ zr h 19 34 = some 41 ∧ zr h 19 38 = some 42 ∧ zr h 19 39 = some 43 ∧ zr h 19 40 = some 44 ∧ zk h 20 = (100, 200) ∧ zk h 21 = (100, 320) ∧ zk h 22 = (100, 320) ∧ zk h 23 = (100, 40) ∧ zk h 24 = (100, 40) ∧ zk h 25 = (102, 40) ∧ zk h 26 = (100, 40) ∧ zk h 27 = (100, 40) ∧ zk h 28 = (100, 40) ∧ zk h 29 = (100, 40) ∧ zk h 30 = (100, 40) ∧ zk h 31 = (100, 40) ∧ zk h 32 = (100, 40) ∧ zk h 33 = (102, 12) ∧ zk h 34 = (100, 20) ∧ zk h 35 = (100, 20) ∧ zk h 36 = (100, 40) ∧ zk h 37 = (100, 800) ∧ zk h 38 = (100, 800) ∧ zk h 39 = (100, 4000) ∧ zk h 40 = (100, 4000) ∧ zk h 41 = (100, 4000) ∧ zk h 42 = (100, 5) ∧ zk h 43 = (100, 40) ∧ zk h 44 = (102, 40)
section ZMS
variable {h : zH} {a k : Nat} {x : Int32} {α : Type}
theorem MS_ui : MS (zui h a k x) = MS h := rfl
theorem M_n (H : MS h) : 45 ≤ zn h := H.1
theorem M_v {f : Option α} (H : MS h) : zvr h (some 19) 9 f = f := vr_k (by decide) (Nat.lt_of_lt_of_le (by decide) H.1) H.2.1
theorem Mr_text {f : Option Nat → Option α} (H : MS h) : zgR h (some 19) 9 0 f = f (some 20) := by
  rw [gR_k (by decide) (Nat.lt_of_lt_of_le (by decide) H.1) H.2.1 (by decide), H.2.2.1]
theorem Mi_texted {f : Int32 → Option α} (H : MS h) : zgI h (some 19) 9 1 f = f (zi h 19 1) := gI_k (by decide) (Nat.lt_of_lt_of_le (by decide) H.1) H.2.1 (by decide)
theorem Mp_texted {f : zH → Option α} (H : MS h) : zpI h (some 19) 9 1 x f = f (zui h 19 1 x) := pI_k (by decide) (Nat.lt_of_lt_of_le (by decide) H.1) H.2.1 (by decide)
theorem Mi_faultPlace {f : Int32 → Option α} (H : MS h) : zgI h (some 19) 9 2 f = f (zi h 19 2) := gI_k (by decide) (Nat.lt_of_lt_of_le (by decide) H.1) H.2.1 (by decide)
theorem Mp_faultPlace {f : zH → Option α} (H : MS h) : zpI h (some 19) 9 2 x f = f (zui h 19 2 x) := pI_k (by decide) (Nat.lt_of_lt_of_le (by decide) H.1) H.2.1 (by decide)
theorem Mr_cells {f : Option Nat → Option α} (H : MS h) : zgR h (some 19) 9 3 f = f (some 21) := by
  rw [gR_k (by decide) (Nat.lt_of_lt_of_le (by decide) H.1) H.2.1 (by decide), H.2.2.2.1]
theorem Mr_draft {f : Option Nat → Option α} (H : MS h) : zgR h (some 19) 9 4 f = f (some 22) := by
  rw [gR_k (by decide) (Nat.lt_of_lt_of_le (by decide) H.1) H.2.1 (by decide), H.2.2.2.2.1]
theorem Mi_lots {f : Int32 → Option α} (H : MS h) : zgI h (some 19) 9 5 f = f (zi h 19 5) := gI_k (by decide) (Nat.lt_of_lt_of_le (by decide) H.1) H.2.1 (by decide)
theorem Mp_lots {f : zH → Option α} (H : MS h) : zpI h (some 19) 9 5 x f = f (zui h 19 5 x) := pI_k (by decide) (Nat.lt_of_lt_of_le (by decide) H.1) H.2.1 (by decide)
theorem Mr_halves {f : Option Nat → Option α} (H : MS h) : zgR h (some 19) 9 6 f = f (some 23) := by
  rw [gR_k (by decide) (Nat.lt_of_lt_of_le (by decide) H.1) H.2.1 (by decide), H.2.2.2.2.2.1]
theorem Mr_owners {f : Option Nat → Option α} (H : MS h) : zgR h (some 19) 9 7 f = f (some 24) := by
  rw [gR_k (by decide) (Nat.lt_of_lt_of_le (by decide) H.1) H.2.1 (by decide), H.2.2.2.2.2.2.1]
theorem Mr_isGift {f : Option Nat → Option α} (H : MS h) : zgR h (some 19) 9 8 f = f (some 25) := by
  rw [gR_k (by decide) (Nat.lt_of_lt_of_le (by decide) H.1) H.2.1 (by decide), H.2.2.2.2.2.2.2.1]
theorem Mr_part {f : Option Nat → Option α} (H : MS h) : zgR h (some 19) 9 9 f = f (some 26) := by
  rw [gR_k (by decide) (Nat.lt_of_lt_of_le (by decide) H.1) H.2.1 (by decide), H.2.2.2.2.2.2.2.2.1]
theorem Mr_lastPart {f : Option Nat → Option α} (H : MS h) : zgR h (some 19) 9 10 f = f (some 27) := by
  rw [gR_k (by decide) (Nat.lt_of_lt_of_le (by decide) H.1) H.2.1 (by decide), H.2.2.2.2.2.2.2.2.2.1]
theorem Mr_partsLeft {f : Option Nat → Option α} (H : MS h) : zgR h (some 19) 9 11 f = f (some 28) := by
  rw [gR_k (by decide) (Nat.lt_of_lt_of_le (by decide) H.1) H.2.1 (by decide), H.2.2.2.2.2.2.2.2.2.2.1]
theorem Mr_dueDay {f : Option Nat → Option α} (H : MS h) : zgR h (some 19) 9 12 f = f (some 29) := by
  rw [gR_k (by decide) (Nat.lt_of_lt_of_le (by decide) H.1) H.2.1 (by decide), H.2.2.2.2.2.2.2.2.2.2.2.1]
theorem Mr_yearsOut {f : Option Nat → Option α} (H : MS h) : zgR h (some 19) 9 13 f = f (some 30) := by
  rw [gR_k (by decide) (Nat.lt_of_lt_of_le (by decide) H.1) H.2.1 (by decide), H.2.2.2.2.2.2.2.2.2.2.2.2.1]
theorem Mr_gotDay {f : Option Nat → Option α} (H : MS h) : zgR h (some 19) 9 14 f = f (some 31) := by
  rw [gR_k (by decide) (Nat.lt_of_lt_of_le (by decide) H.1) H.2.1 (by decide), H.2.2.2.2.2.2.2.2.2.2.2.2.2.1]
theorem Mr_condition {f : Option Nat → Option α} (H : MS h) : zgR h (some 19) 9 15 f = f (some 32) := by
  rw [gR_k (by decide) (Nat.lt_of_lt_of_le (by decide) H.1) H.2.1 (by decide), H.2.2.2.2.2.2.2.2.2.2.2.2.2.2.1]
theorem Mi_streets {f : Int32 → Option α} (H : MS h) : zgI h (some 19) 9 16 f = f (zi h 19 16) := gI_k (by decide) (Nat.lt_of_lt_of_le (by decide) H.1) H.2.1 (by decide)
theorem Mp_streets {f : zH → Option α} (H : MS h) : zpI h (some 19) 9 16 x f = f (zui h 19 16 x) := pI_k (by decide) (Nat.lt_of_lt_of_le (by decide) H.1) H.2.1 (by decide)
theorem Mr_vacated {f : Option Nat → Option α} (H : MS h) : zgR h (some 19) 9 17 f = f (some 33) := by
  rw [gR_k (by decide) (Nat.lt_of_lt_of_le (by decide) H.1) H.2.1 (by decide), H.2.2.2.2.2.2.2.2.2.2.2.2.2.2.2.1]
theorem Mi_persons {f : Int32 → Option α} (H : MS h) : zgI h (some 19) 9 18 f = f (zi h 19 18) := gI_k (by decide) (Nat.lt_of_lt_of_le (by decide) H.1) H.2.1 (by decide)
theorem Mp_persons {f : zH → Option α} (H : MS h) : zpI h (some 19) 9 18 x f = f (zui h 19 18 x) := pI_k (by decide) (Nat.lt_of_lt_of_le (by decide) H.1) H.2.1 (by decide)
theorem Mr_money {f : Option Nat → Option α} (H : MS h) : zgR h (some 19) 9 19 f = f (some 34) := by
  rw [gR_k (by decide) (Nat.lt_of_lt_of_le (by decide) H.1) H.2.1 (by decide), H.2.2.2.2.2.2.2.2.2.2.2.2.2.2.2.2.1]
theorem Mr_home {f : Option Nat → Option α} (H : MS h) : zgR h (some 19) 9 20 f = f (some 35) := by
  rw [gR_k (by decide) (Nat.lt_of_lt_of_le (by decide) H.1) H.2.1 (by decide), H.2.2.2.2.2.2.2.2.2.2.2.2.2.2.2.2.2.1]
theorem Mr_bidMany {f : Option Nat → Option α} (H : MS h) : zgR h (some 19) 9 21 f = f (some 36) := by
  rw [gR_k (by decide) (Nat.lt_of_lt_of_le (by decide) H.1) H.2.1 (by decide), H.2.2.2.2.2.2.2.2.2.2.2.2.2.2.2.2.2.2.1]
theorem Mr_bidders {f : Option Nat → Option α} (H : MS h) : zgR h (some 19) 9 22 f = f (some 37) := by
  rw [gR_k (by decide) (Nat.lt_of_lt_of_le (by decide) H.1) H.2.1 (by decide), H.2.2.2.2.2.2.2.2.2.2.2.2.2.2.2.2.2.2.2.1]
theorem Mr_bids {f : Option Nat → Option α} (H : MS h) : zgR h (some 19) 9 23 f = f (some 38) := by
  rw [gR_k (by decide) (Nat.lt_of_lt_of_le (by decide) H.1) H.2.1 (by decide), H.2.2.2.2.2.2.2.2.2.2.2.2.2.2.2.2.2.2.2.2.1]
theorem Mi_now {f : Int32 → Option α} (H : MS h) : zgI h (some 19) 9 24 f = f (zi h 19 24) := gI_k (by decide) (Nat.lt_of_lt_of_le (by decide) H.1) H.2.1 (by decide)
theorem Mp_now {f : zH → Option α} (H : MS h) : zpI h (some 19) 9 24 x f = f (zui h 19 24 x) := pI_k (by decide) (Nat.lt_of_lt_of_le (by decide) H.1) H.2.1 (by decide)
theorem Mi_halt {f : Int32 → Option α} (H : MS h) : zgI h (some 19) 9 25 f = f (zi h 19 25) := gI_k (by decide) (Nat.lt_of_lt_of_le (by decide) H.1) H.2.1 (by decide)
theorem Mp_halt {f : zH → Option α} (H : MS h) : zpI h (some 19) 9 25 x f = f (zui h 19 25 x) := pI_k (by decide) (Nat.lt_of_lt_of_le (by decide) H.1) H.2.1 (by decide)
theorem Mi_rate {f : Int32 → Option α} (H : MS h) : zgI h (some 19) 9 26 f = f (zi h 19 26) := gI_k (by decide) (Nat.lt_of_lt_of_le (by decide) H.1) H.2.1 (by decide)
theorem Mp_rate {f : zH → Option α} (H : MS h) : zpI h (some 19) 9 26 x f = f (zui h 19 26 x) := pI_k (by decide) (Nat.lt_of_lt_of_le (by decide) H.1) H.2.1 (by decide)
theorem Mi_forfeits {f : Int32 → Option α} (H : MS h) : zgI h (some 19) 9 27 f = f (zi h 19 27) := gI_k (by decide) (Nat.lt_of_lt_of_le (by decide) H.1) H.2.1 (by decide)
theorem Mp_forfeits {f : zH → Option α} (H : MS h) : zpI h (some 19) 9 27 x f = f (zui h 19 27 x) := pI_k (by decide) (Nat.lt_of_lt_of_le (by decide) H.1) H.2.1 (by decide)
theorem Mi_taken {f : Int32 → Option α} (H : MS h) : zgI h (some 19) 9 28 f = f (zi h 19 28) := gI_k (by decide) (Nat.lt_of_lt_of_le (by decide) H.1) H.2.1 (by decide)
theorem Mp_taken {f : zH → Option α} (H : MS h) : zpI h (some 19) 9 28 x f = f (zui h 19 28 x) := pI_k (by decide) (Nat.lt_of_lt_of_le (by decide) H.1) H.2.1 (by decide)
theorem Mi_got {f : Int32 → Option α} (H : MS h) : zgI h (some 19) 9 29 f = f (zi h 19 29) := gI_k (by decide) (Nat.lt_of_lt_of_le (by decide) H.1) H.2.1 (by decide)
theorem Mp_got {f : zH → Option α} (H : MS h) : zpI h (some 19) 9 29 x f = f (zui h 19 29 x) := pI_k (by decide) (Nat.lt_of_lt_of_le (by decide) H.1) H.2.1 (by decide)
theorem Mi_taxes {f : Int32 → Option α} (H : MS h) : zgI h (some 19) 9 30 f = f (zi h 19 30) := gI_k (by decide) (Nat.lt_of_lt_of_le (by decide) H.1) H.2.1 (by decide)
theorem Mp_taxes {f : zH → Option α} (H : MS h) : zpI h (some 19) 9 30 x f = f (zui h 19 30 x) := pI_k (by decide) (Nat.lt_of_lt_of_le (by decide) H.1) H.2.1 (by decide)
theorem Mi_changes {f : Int32 → Option α} (H : MS h) : zgI h (some 19) 9 31 f = f (zi h 19 31) := gI_k (by decide) (Nat.lt_of_lt_of_le (by decide) H.1) H.2.1 (by decide)
theorem Mp_changes {f : zH → Option α} (H : MS h) : zpI h (some 19) 9 31 x f = f (zui h 19 31 x) := pI_k (by decide) (Nat.lt_of_lt_of_le (by decide) H.1) H.2.1 (by decide)
theorem Mr_changeLot {f : Option Nat → Option α} (H : MS h) : zgR h (some 19) 9 32 f = f (some 39) := by
  rw [gR_k (by decide) (Nat.lt_of_lt_of_le (by decide) H.1) H.2.1 (by decide), H.2.2.2.2.2.2.2.2.2.2.2.2.2.2.2.2.2.2.2.2.2.1]
theorem Mr_changeDay {f : Option Nat → Option α} (H : MS h) : zgR h (some 19) 9 33 f = f (some 40) := by
  rw [gR_k (by decide) (Nat.lt_of_lt_of_le (by decide) H.1) H.2.1 (by decide), H.2.2.2.2.2.2.2.2.2.2.2.2.2.2.2.2.2.2.2.2.2.2.1]
theorem Mr_changeOwner {f : Option Nat → Option α} (H : MS h) : zgR h (some 19) 9 34 f = f (some 41) := by
  rw [gR_k (by decide) (Nat.lt_of_lt_of_le (by decide) H.1) H.2.1 (by decide), H.2.2.2.2.2.2.2.2.2.2.2.2.2.2.2.2.2.2.2.2.2.2.2.1]
theorem Mi_at {f : Int32 → Option α} (H : MS h) : zgI h (some 19) 9 35 f = f (zi h 19 35) := gI_k (by decide) (Nat.lt_of_lt_of_le (by decide) H.1) H.2.1 (by decide)
theorem Mp_at {f : zH → Option α} (H : MS h) : zpI h (some 19) 9 35 x f = f (zui h 19 35 x) := pI_k (by decide) (Nat.lt_of_lt_of_le (by decide) H.1) H.2.1 (by decide)
theorem Mi_newLots {f : Int32 → Option α} (H : MS h) : zgI h (some 19) 9 36 f = f (zi h 19 36) := gI_k (by decide) (Nat.lt_of_lt_of_le (by decide) H.1) H.2.1 (by decide)
theorem Mp_newLots {f : zH → Option α} (H : MS h) : zpI h (some 19) 9 36 x f = f (zui h 19 36 x) := pI_k (by decide) (Nat.lt_of_lt_of_le (by decide) H.1) H.2.1 (by decide)
theorem Mi_newStreets {f : Int32 → Option α} (H : MS h) : zgI h (some 19) 9 37 f = f (zi h 19 37) := gI_k (by decide) (Nat.lt_of_lt_of_le (by decide) H.1) H.2.1 (by decide)
theorem Mp_newStreets {f : zH → Option α} (H : MS h) : zpI h (some 19) 9 37 x f = f (zui h 19 37 x) := pI_k (by decide) (Nat.lt_of_lt_of_le (by decide) H.1) H.2.1 (by decide)
theorem Mr_numbers {f : Option Nat → Option α} (H : MS h) : zgR h (some 19) 9 38 f = f (some 42) := by
  rw [gR_k (by decide) (Nat.lt_of_lt_of_le (by decide) H.1) H.2.1 (by decide), H.2.2.2.2.2.2.2.2.2.2.2.2.2.2.2.2.2.2.2.2.2.2.2.2.1]
theorem Mr_newCells {f : Option Nat → Option α} (H : MS h) : zgR h (some 19) 9 39 f = f (some 43) := by
  rw [gR_k (by decide) (Nat.lt_of_lt_of_le (by decide) H.1) H.2.1 (by decide), H.2.2.2.2.2.2.2.2.2.2.2.2.2.2.2.2.2.2.2.2.2.2.2.2.2.1]
theorem Mr_newGift {f : Option Nat → Option α} (H : MS h) : zgR h (some 19) 9 40 f = f (some 44) := by
  rw [gR_k (by decide) (Nat.lt_of_lt_of_le (by decide) H.1) H.2.1 (by decide), H.2.2.2.2.2.2.2.2.2.2.2.2.2.2.2.2.2.2.2.2.2.2.2.2.2.2.1]
theorem Ma_text {f : Int32 → Option α} {i : Nat} (H : MS h) (hi : i < 200) : zaI h (some 20) (nI i) f = f (zi h 20 i) := aI_k (Nat.lt_of_lt_of_le (by decide) H.1) H.2.2.2.2.2.2.2.2.2.2.2.2.2.2.2.2.2.2.2.2.2.2.2.2.2.2.2.1 hi (by decide)
theorem Mt_text {f : zH → Option α} {i : Nat} (H : MS h) (hi : i < 200) : ztI h (some 20) (nI i) x f = f (zui h 20 i x) := tI_k (by decide) (Nat.lt_of_lt_of_le (by decide) H.1) H.2.2.2.2.2.2.2.2.2.2.2.2.2.2.2.2.2.2.2.2.2.2.2.2.2.2.2.1 hi (by decide)
theorem Ma_cells {f : Int32 → Option α} {i : Nat} (H : MS h) (hi : i < 320) : zaI h (some 21) (nI i) f = f (zi h 21 i) := aI_k (Nat.lt_of_lt_of_le (by decide) H.1) H.2.2.2.2.2.2.2.2.2.2.2.2.2.2.2.2.2.2.2.2.2.2.2.2.2.2.2.2.1 hi (by decide)
theorem Mt_cells {f : zH → Option α} {i : Nat} (H : MS h) (hi : i < 320) : ztI h (some 21) (nI i) x f = f (zui h 21 i x) := tI_k (by decide) (Nat.lt_of_lt_of_le (by decide) H.1) H.2.2.2.2.2.2.2.2.2.2.2.2.2.2.2.2.2.2.2.2.2.2.2.2.2.2.2.2.1 hi (by decide)
theorem Ma_draft {f : Int32 → Option α} {i : Nat} (H : MS h) (hi : i < 320) : zaI h (some 22) (nI i) f = f (zi h 22 i) := aI_k (Nat.lt_of_lt_of_le (by decide) H.1) H.2.2.2.2.2.2.2.2.2.2.2.2.2.2.2.2.2.2.2.2.2.2.2.2.2.2.2.2.2.1 hi (by decide)
theorem Mt_draft {f : zH → Option α} {i : Nat} (H : MS h) (hi : i < 320) : ztI h (some 22) (nI i) x f = f (zui h 22 i x) := tI_k (by decide) (Nat.lt_of_lt_of_le (by decide) H.1) H.2.2.2.2.2.2.2.2.2.2.2.2.2.2.2.2.2.2.2.2.2.2.2.2.2.2.2.2.2.1 hi (by decide)
theorem Ma_halves {f : Int32 → Option α} {i : Nat} (H : MS h) (hi : i < 40) : zaI h (some 23) (nI i) f = f (zi h 23 i) := aI_k (Nat.lt_of_lt_of_le (by decide) H.1) H.2.2.2.2.2.2.2.2.2.2.2.2.2.2.2.2.2.2.2.2.2.2.2.2.2.2.2.2.2.2.1 hi (by decide)
theorem Mt_halves {f : zH → Option α} {i : Nat} (H : MS h) (hi : i < 40) : ztI h (some 23) (nI i) x f = f (zui h 23 i x) := tI_k (by decide) (Nat.lt_of_lt_of_le (by decide) H.1) H.2.2.2.2.2.2.2.2.2.2.2.2.2.2.2.2.2.2.2.2.2.2.2.2.2.2.2.2.2.2.1 hi (by decide)
theorem Ma_owners {f : Int32 → Option α} {i : Nat} (H : MS h) (hi : i < 40) : zaI h (some 24) (nI i) f = f (zi h 24 i) := aI_k (Nat.lt_of_lt_of_le (by decide) H.1) H.2.2.2.2.2.2.2.2.2.2.2.2.2.2.2.2.2.2.2.2.2.2.2.2.2.2.2.2.2.2.2.1 hi (by decide)
theorem Mt_owners {f : zH → Option α} {i : Nat} (H : MS h) (hi : i < 40) : ztI h (some 24) (nI i) x f = f (zui h 24 i x) := tI_k (by decide) (Nat.lt_of_lt_of_le (by decide) H.1) H.2.2.2.2.2.2.2.2.2.2.2.2.2.2.2.2.2.2.2.2.2.2.2.2.2.2.2.2.2.2.2.1 hi (by decide)
theorem Ma_isGift {f : Int32 → Option α} {i : Nat} (H : MS h) (hi : i < 40) : zaB h (some 25) (nI i) f = f (zi h 25 i) := aB_k (by decide) (Nat.lt_of_lt_of_le (by decide) H.1) (Or.inr rfl) H.2.2.2.2.2.2.2.2.2.2.2.2.2.2.2.2.2.2.2.2.2.2.2.2.2.2.2.2.2.2.2.2.1 hi (by decide)
theorem Mt_isGift {f : zH → Option α} {i : Nat} (H : MS h) (hi : i < 40) (hx : x = 0 ∨ x = 1) : ztB h (some 25) (nI i) x f = f (zui h 25 i x) := tZ_k (by decide) (Nat.lt_of_lt_of_le (by decide) H.1) H.2.2.2.2.2.2.2.2.2.2.2.2.2.2.2.2.2.2.2.2.2.2.2.2.2.2.2.2.2.2.2.2.1 hi (by decide) hx
theorem Ma_part {f : Int32 → Option α} {i : Nat} (H : MS h) (hi : i < 40) : zaI h (some 26) (nI i) f = f (zi h 26 i) := aI_k (Nat.lt_of_lt_of_le (by decide) H.1) H.2.2.2.2.2.2.2.2.2.2.2.2.2.2.2.2.2.2.2.2.2.2.2.2.2.2.2.2.2.2.2.2.2.1 hi (by decide)
theorem Mt_part {f : zH → Option α} {i : Nat} (H : MS h) (hi : i < 40) : ztI h (some 26) (nI i) x f = f (zui h 26 i x) := tI_k (by decide) (Nat.lt_of_lt_of_le (by decide) H.1) H.2.2.2.2.2.2.2.2.2.2.2.2.2.2.2.2.2.2.2.2.2.2.2.2.2.2.2.2.2.2.2.2.2.1 hi (by decide)
theorem Ma_lastPart {f : Int32 → Option α} {i : Nat} (H : MS h) (hi : i < 40) : zaI h (some 27) (nI i) f = f (zi h 27 i) := aI_k (Nat.lt_of_lt_of_le (by decide) H.1) H.2.2.2.2.2.2.2.2.2.2.2.2.2.2.2.2.2.2.2.2.2.2.2.2.2.2.2.2.2.2.2.2.2.2.1 hi (by decide)
theorem Mt_lastPart {f : zH → Option α} {i : Nat} (H : MS h) (hi : i < 40) : ztI h (some 27) (nI i) x f = f (zui h 27 i x) := tI_k (by decide) (Nat.lt_of_lt_of_le (by decide) H.1) H.2.2.2.2.2.2.2.2.2.2.2.2.2.2.2.2.2.2.2.2.2.2.2.2.2.2.2.2.2.2.2.2.2.2.1 hi (by decide)
theorem Ma_partsLeft {f : Int32 → Option α} {i : Nat} (H : MS h) (hi : i < 40) : zaI h (some 28) (nI i) f = f (zi h 28 i) := aI_k (Nat.lt_of_lt_of_le (by decide) H.1) H.2.2.2.2.2.2.2.2.2.2.2.2.2.2.2.2.2.2.2.2.2.2.2.2.2.2.2.2.2.2.2.2.2.2.2.1 hi (by decide)
theorem Mt_partsLeft {f : zH → Option α} {i : Nat} (H : MS h) (hi : i < 40) : ztI h (some 28) (nI i) x f = f (zui h 28 i x) := tI_k (by decide) (Nat.lt_of_lt_of_le (by decide) H.1) H.2.2.2.2.2.2.2.2.2.2.2.2.2.2.2.2.2.2.2.2.2.2.2.2.2.2.2.2.2.2.2.2.2.2.2.1 hi (by decide)
theorem Ma_dueDay {f : Int32 → Option α} {i : Nat} (H : MS h) (hi : i < 40) : zaI h (some 29) (nI i) f = f (zi h 29 i) := aI_k (Nat.lt_of_lt_of_le (by decide) H.1) H.2.2.2.2.2.2.2.2.2.2.2.2.2.2.2.2.2.2.2.2.2.2.2.2.2.2.2.2.2.2.2.2.2.2.2.2.1 hi (by decide)
theorem Mt_dueDay {f : zH → Option α} {i : Nat} (H : MS h) (hi : i < 40) : ztI h (some 29) (nI i) x f = f (zui h 29 i x) := tI_k (by decide) (Nat.lt_of_lt_of_le (by decide) H.1) H.2.2.2.2.2.2.2.2.2.2.2.2.2.2.2.2.2.2.2.2.2.2.2.2.2.2.2.2.2.2.2.2.2.2.2.2.1 hi (by decide)
theorem Ma_yearsOut {f : Int32 → Option α} {i : Nat} (H : MS h) (hi : i < 40) : zaI h (some 30) (nI i) f = f (zi h 30 i) := aI_k (Nat.lt_of_lt_of_le (by decide) H.1) H.2.2.2.2.2.2.2.2.2.2.2.2.2.2.2.2.2.2.2.2.2.2.2.2.2.2.2.2.2.2.2.2.2.2.2.2.2.1 hi (by decide)
theorem Mt_yearsOut {f : zH → Option α} {i : Nat} (H : MS h) (hi : i < 40) : ztI h (some 30) (nI i) x f = f (zui h 30 i x) := tI_k (by decide) (Nat.lt_of_lt_of_le (by decide) H.1) H.2.2.2.2.2.2.2.2.2.2.2.2.2.2.2.2.2.2.2.2.2.2.2.2.2.2.2.2.2.2.2.2.2.2.2.2.2.1 hi (by decide)
theorem Ma_gotDay {f : Int32 → Option α} {i : Nat} (H : MS h) (hi : i < 40) : zaI h (some 31) (nI i) f = f (zi h 31 i) := aI_k (Nat.lt_of_lt_of_le (by decide) H.1) H.2.2.2.2.2.2.2.2.2.2.2.2.2.2.2.2.2.2.2.2.2.2.2.2.2.2.2.2.2.2.2.2.2.2.2.2.2.2.1 hi (by decide)
theorem Mt_gotDay {f : zH → Option α} {i : Nat} (H : MS h) (hi : i < 40) : ztI h (some 31) (nI i) x f = f (zui h 31 i x) := tI_k (by decide) (Nat.lt_of_lt_of_le (by decide) H.1) H.2.2.2.2.2.2.2.2.2.2.2.2.2.2.2.2.2.2.2.2.2.2.2.2.2.2.2.2.2.2.2.2.2.2.2.2.2.2.1 hi (by decide)
theorem Ma_condition {f : Int32 → Option α} {i : Nat} (H : MS h) (hi : i < 40) : zaI h (some 32) (nI i) f = f (zi h 32 i) := aI_k (Nat.lt_of_lt_of_le (by decide) H.1) H.2.2.2.2.2.2.2.2.2.2.2.2.2.2.2.2.2.2.2.2.2.2.2.2.2.2.2.2.2.2.2.2.2.2.2.2.2.2.2.1 hi (by decide)
theorem Mt_condition {f : zH → Option α} {i : Nat} (H : MS h) (hi : i < 40) : ztI h (some 32) (nI i) x f = f (zui h 32 i x) := tI_k (by decide) (Nat.lt_of_lt_of_le (by decide) H.1) H.2.2.2.2.2.2.2.2.2.2.2.2.2.2.2.2.2.2.2.2.2.2.2.2.2.2.2.2.2.2.2.2.2.2.2.2.2.2.2.1 hi (by decide)
theorem Ma_vacated {f : Int32 → Option α} {i : Nat} (H : MS h) (hi : i < 12) : zaB h (some 33) (nI i) f = f (zi h 33 i) := aB_k (by decide) (Nat.lt_of_lt_of_le (by decide) H.1) (Or.inr rfl) H.2.2.2.2.2.2.2.2.2.2.2.2.2.2.2.2.2.2.2.2.2.2.2.2.2.2.2.2.2.2.2.2.2.2.2.2.2.2.2.2.1 hi (by decide)
theorem Mt_vacated {f : zH → Option α} {i : Nat} (H : MS h) (hi : i < 12) (hx : x = 0 ∨ x = 1) : ztB h (some 33) (nI i) x f = f (zui h 33 i x) := tZ_k (by decide) (Nat.lt_of_lt_of_le (by decide) H.1) H.2.2.2.2.2.2.2.2.2.2.2.2.2.2.2.2.2.2.2.2.2.2.2.2.2.2.2.2.2.2.2.2.2.2.2.2.2.2.2.2.1 hi (by decide) hx
theorem Ma_money {f : Int32 → Option α} {i : Nat} (H : MS h) (hi : i < 20) : zaI h (some 34) (nI i) f = f (zi h 34 i) := aI_k (Nat.lt_of_lt_of_le (by decide) H.1) H.2.2.2.2.2.2.2.2.2.2.2.2.2.2.2.2.2.2.2.2.2.2.2.2.2.2.2.2.2.2.2.2.2.2.2.2.2.2.2.2.2.1 hi (by decide)
theorem Mt_money {f : zH → Option α} {i : Nat} (H : MS h) (hi : i < 20) : ztI h (some 34) (nI i) x f = f (zui h 34 i x) := tI_k (by decide) (Nat.lt_of_lt_of_le (by decide) H.1) H.2.2.2.2.2.2.2.2.2.2.2.2.2.2.2.2.2.2.2.2.2.2.2.2.2.2.2.2.2.2.2.2.2.2.2.2.2.2.2.2.2.1 hi (by decide)
theorem Ma_home {f : Int32 → Option α} {i : Nat} (H : MS h) (hi : i < 20) : zaI h (some 35) (nI i) f = f (zi h 35 i) := aI_k (Nat.lt_of_lt_of_le (by decide) H.1) H.2.2.2.2.2.2.2.2.2.2.2.2.2.2.2.2.2.2.2.2.2.2.2.2.2.2.2.2.2.2.2.2.2.2.2.2.2.2.2.2.2.2.1 hi (by decide)
theorem Mt_home {f : zH → Option α} {i : Nat} (H : MS h) (hi : i < 20) : ztI h (some 35) (nI i) x f = f (zui h 35 i x) := tI_k (by decide) (Nat.lt_of_lt_of_le (by decide) H.1) H.2.2.2.2.2.2.2.2.2.2.2.2.2.2.2.2.2.2.2.2.2.2.2.2.2.2.2.2.2.2.2.2.2.2.2.2.2.2.2.2.2.2.1 hi (by decide)
theorem Ma_bidMany {f : Int32 → Option α} {i : Nat} (H : MS h) (hi : i < 40) : zaI h (some 36) (nI i) f = f (zi h 36 i) := aI_k (Nat.lt_of_lt_of_le (by decide) H.1) H.2.2.2.2.2.2.2.2.2.2.2.2.2.2.2.2.2.2.2.2.2.2.2.2.2.2.2.2.2.2.2.2.2.2.2.2.2.2.2.2.2.2.2.1 hi (by decide)
theorem Mt_bidMany {f : zH → Option α} {i : Nat} (H : MS h) (hi : i < 40) : ztI h (some 36) (nI i) x f = f (zui h 36 i x) := tI_k (by decide) (Nat.lt_of_lt_of_le (by decide) H.1) H.2.2.2.2.2.2.2.2.2.2.2.2.2.2.2.2.2.2.2.2.2.2.2.2.2.2.2.2.2.2.2.2.2.2.2.2.2.2.2.2.2.2.2.1 hi (by decide)
theorem Ma_bidders {f : Int32 → Option α} {i : Nat} (H : MS h) (hi : i < 800) : zaI h (some 37) (nI i) f = f (zi h 37 i) := aI_k (Nat.lt_of_lt_of_le (by decide) H.1) H.2.2.2.2.2.2.2.2.2.2.2.2.2.2.2.2.2.2.2.2.2.2.2.2.2.2.2.2.2.2.2.2.2.2.2.2.2.2.2.2.2.2.2.2.1 hi (by decide)
theorem Mt_bidders {f : zH → Option α} {i : Nat} (H : MS h) (hi : i < 800) : ztI h (some 37) (nI i) x f = f (zui h 37 i x) := tI_k (by decide) (Nat.lt_of_lt_of_le (by decide) H.1) H.2.2.2.2.2.2.2.2.2.2.2.2.2.2.2.2.2.2.2.2.2.2.2.2.2.2.2.2.2.2.2.2.2.2.2.2.2.2.2.2.2.2.2.2.1 hi (by decide)
theorem Ma_bids {f : Int32 → Option α} {i : Nat} (H : MS h) (hi : i < 800) : zaI h (some 38) (nI i) f = f (zi h 38 i) := aI_k (Nat.lt_of_lt_of_le (by decide) H.1) H.2.2.2.2.2.2.2.2.2.2.2.2.2.2.2.2.2.2.2.2.2.2.2.2.2.2.2.2.2.2.2.2.2.2.2.2.2.2.2.2.2.2.2.2.2.1 hi (by decide)
theorem Mt_bids {f : zH → Option α} {i : Nat} (H : MS h) (hi : i < 800) : ztI h (some 38) (nI i) x f = f (zui h 38 i x) := tI_k (by decide) (Nat.lt_of_lt_of_le (by decide) H.1) H.2.2.2.2.2.2.2.2.2.2.2.2.2.2.2.2.2.2.2.2.2.2.2.2.2.2.2.2.2.2.2.2.2.2.2.2.2.2.2.2.2.2.2.2.2.1 hi (by decide)
theorem Ma_changeLot {f : Int32 → Option α} {i : Nat} (H : MS h) (hi : i < 4000) : zaI h (some 39) (nI i) f = f (zi h 39 i) := aI_k (Nat.lt_of_lt_of_le (by decide) H.1) H.2.2.2.2.2.2.2.2.2.2.2.2.2.2.2.2.2.2.2.2.2.2.2.2.2.2.2.2.2.2.2.2.2.2.2.2.2.2.2.2.2.2.2.2.2.2.1 hi (by decide)
theorem Mt_changeLot {f : zH → Option α} {i : Nat} (H : MS h) (hi : i < 4000) : ztI h (some 39) (nI i) x f = f (zui h 39 i x) := tI_k (by decide) (Nat.lt_of_lt_of_le (by decide) H.1) H.2.2.2.2.2.2.2.2.2.2.2.2.2.2.2.2.2.2.2.2.2.2.2.2.2.2.2.2.2.2.2.2.2.2.2.2.2.2.2.2.2.2.2.2.2.2.1 hi (by decide)
theorem Ma_changeDay {f : Int32 → Option α} {i : Nat} (H : MS h) (hi : i < 4000) : zaI h (some 40) (nI i) f = f (zi h 40 i) := aI_k (Nat.lt_of_lt_of_le (by decide) H.1) H.2.2.2.2.2.2.2.2.2.2.2.2.2.2.2.2.2.2.2.2.2.2.2.2.2.2.2.2.2.2.2.2.2.2.2.2.2.2.2.2.2.2.2.2.2.2.2.1 hi (by decide)
theorem Mt_changeDay {f : zH → Option α} {i : Nat} (H : MS h) (hi : i < 4000) : ztI h (some 40) (nI i) x f = f (zui h 40 i x) := tI_k (by decide) (Nat.lt_of_lt_of_le (by decide) H.1) H.2.2.2.2.2.2.2.2.2.2.2.2.2.2.2.2.2.2.2.2.2.2.2.2.2.2.2.2.2.2.2.2.2.2.2.2.2.2.2.2.2.2.2.2.2.2.2.1 hi (by decide)
theorem Ma_changeOwner {f : Int32 → Option α} {i : Nat} (H : MS h) (hi : i < 4000) : zaI h (some 41) (nI i) f = f (zi h 41 i) := aI_k (Nat.lt_of_lt_of_le (by decide) H.1) H.2.2.2.2.2.2.2.2.2.2.2.2.2.2.2.2.2.2.2.2.2.2.2.2.2.2.2.2.2.2.2.2.2.2.2.2.2.2.2.2.2.2.2.2.2.2.2.2.1 hi (by decide)
theorem Mt_changeOwner {f : zH → Option α} {i : Nat} (H : MS h) (hi : i < 4000) : ztI h (some 41) (nI i) x f = f (zui h 41 i x) := tI_k (by decide) (Nat.lt_of_lt_of_le (by decide) H.1) H.2.2.2.2.2.2.2.2.2.2.2.2.2.2.2.2.2.2.2.2.2.2.2.2.2.2.2.2.2.2.2.2.2.2.2.2.2.2.2.2.2.2.2.2.2.2.2.2.1 hi (by decide)
theorem Ma_numbers {f : Int32 → Option α} {i : Nat} (H : MS h) (hi : i < 5) : zaI h (some 42) (nI i) f = f (zi h 42 i) := aI_k (Nat.lt_of_lt_of_le (by decide) H.1) H.2.2.2.2.2.2.2.2.2.2.2.2.2.2.2.2.2.2.2.2.2.2.2.2.2.2.2.2.2.2.2.2.2.2.2.2.2.2.2.2.2.2.2.2.2.2.2.2.2.1 hi (by decide)
theorem Mt_numbers {f : zH → Option α} {i : Nat} (H : MS h) (hi : i < 5) : ztI h (some 42) (nI i) x f = f (zui h 42 i x) := tI_k (by decide) (Nat.lt_of_lt_of_le (by decide) H.1) H.2.2.2.2.2.2.2.2.2.2.2.2.2.2.2.2.2.2.2.2.2.2.2.2.2.2.2.2.2.2.2.2.2.2.2.2.2.2.2.2.2.2.2.2.2.2.2.2.2.1 hi (by decide)
theorem Ma_newCells {f : Int32 → Option α} {i : Nat} (H : MS h) (hi : i < 40) : zaI h (some 43) (nI i) f = f (zi h 43 i) := aI_k (Nat.lt_of_lt_of_le (by decide) H.1) H.2.2.2.2.2.2.2.2.2.2.2.2.2.2.2.2.2.2.2.2.2.2.2.2.2.2.2.2.2.2.2.2.2.2.2.2.2.2.2.2.2.2.2.2.2.2.2.2.2.2.1 hi (by decide)
theorem Mt_newCells {f : zH → Option α} {i : Nat} (H : MS h) (hi : i < 40) : ztI h (some 43) (nI i) x f = f (zui h 43 i x) := tI_k (by decide) (Nat.lt_of_lt_of_le (by decide) H.1) H.2.2.2.2.2.2.2.2.2.2.2.2.2.2.2.2.2.2.2.2.2.2.2.2.2.2.2.2.2.2.2.2.2.2.2.2.2.2.2.2.2.2.2.2.2.2.2.2.2.2.1 hi (by decide)
theorem Ma_newGift {f : Int32 → Option α} {i : Nat} (H : MS h) (hi : i < 40) : zaB h (some 44) (nI i) f = f (zi h 44 i) := aB_k (by decide) (Nat.lt_of_lt_of_le (by decide) H.1) (Or.inr rfl) H.2.2.2.2.2.2.2.2.2.2.2.2.2.2.2.2.2.2.2.2.2.2.2.2.2.2.2.2.2.2.2.2.2.2.2.2.2.2.2.2.2.2.2.2.2.2.2.2.2.2.2 hi (by decide)
theorem Mt_newGift {f : zH → Option α} {i : Nat} (H : MS h) (hi : i < 40) (hx : x = 0 ∨ x = 1) : ztB h (some 44) (nI i) x f = f (zui h 44 i x) := tZ_k (by decide) (Nat.lt_of_lt_of_le (by decide) H.1) H.2.2.2.2.2.2.2.2.2.2.2.2.2.2.2.2.2.2.2.2.2.2.2.2.2.2.2.2.2.2.2.2.2.2.2.2.2.2.2.2.2.2.2.2.2.2.2.2.2.2.2 hi (by decide) hx
end ZMS
