-- deps: 15a.lots
/-! the class and the reference, side by side -/
/-- what a step of the class leaves: the reference's cells, the script, the tables -/
def FO (h h' : zH) : Prop := zn h ≤ zn h' ∧ (∀ a, 19 ≤ a → a ≤ 44 → zk h' a = zk h a ∧ zi h' a = zi h a ∧ zr h' a = zr h a) ∧ ∀ a, a < 8 → zk h' a = zk h a ∧ zi h' a = zi h a
/-- what a step of the reference leaves -/
def MF (h h' : zH) : Prop := zn h' = zn h ∧ zs h' = zs h ∧ zk h' = zk h ∧ zr h' = zr h ∧ ∀ a, a < 19 ∨ 44 < a → zi h' a = zi h a
/-- a quiet step of the class: no list, no bid, no title is touched -/
def Fr (h h' : zH) : Prop := FO h h' ∧ CS h' ∧ (∀ a, a < zn h → zk h' a = zk h a) ∧ (∀ a, a < zn h → (zk h a).1 = 0 ∨ (zk h a).1 = 1 ∨ (zk h a).1 = 7 ∨ (zk h a).1 = 103 → zi h' a = zi h a ∧ zr h' a = zr h a) ∧ ∀ a, a < zn h → (zk h a).1 = 2 → zr h' a 6 = zr h a 6
section ZFR
variable {h h' h2 : zH} {a k : Nat} {x : Int32} {q : Option Nat}
theorem zi_f (hb : a ≠ k) {j : Nat} : zi (zui h a j x) k = zi h k := by funext i; exact zi_ua (Ne.symm hb)
theorem FO_rfl : FO h h := ⟨Nat.le_refl _, fun _ _ _ => ⟨rfl, rfl, rfl⟩, fun _ _ => ⟨rfl, rfl⟩⟩
theorem FO_tr (A : FO h h') (B : FO h' h2) : FO h h2 := ⟨Nat.le_trans A.1 B.1, fun a h1 h2 => ⟨((B.2.1 a h1 h2).1).trans (A.2.1 a h1 h2).1, ((B.2.1 a h1 h2).2.1).trans (A.2.1 a h1 h2).2.1, ((B.2.1 a h1 h2).2.2).trans (A.2.1 a h1 h2).2.2⟩, fun a h1 => ⟨((B.2.2 a h1).1).trans (A.2.2 a h1).1, ((B.2.2 a h1).2).trans (A.2.2 a h1).2⟩⟩
theorem FO_ui (ha : 8 ≤ a ∧ a < 19 ∨ 44 < a) : FO h (zui h a k x) := ⟨Nat.le_refl _, fun b h1 h2 => ⟨rfl, zi_f (by omega), rfl⟩, fun b hb => ⟨rfl, zi_f (by omega)⟩⟩
theorem MF_rfl : MF h h := ⟨rfl, rfl, rfl, rfl, fun _ _ => rfl⟩
theorem MF_tr (A : MF h h') (B : MF h' h2) : MF h h2 := ⟨B.1.trans A.1, B.2.1.trans A.2.1, B.2.2.1.trans A.2.2.1, B.2.2.2.1.trans A.2.2.2.1, fun a ha => (B.2.2.2.2 a ha).trans (A.2.2.2.2 a ha)⟩
theorem MF_ui (h1 : 19 ≤ a) (h2 : a ≤ 44) : MF h (zui h a k x) := ⟨rfl, rfl, rfl, rfl, fun b hb => zi_f (by omega)⟩
theorem MF_u (A : MF h h') (h1 : 19 ≤ a) (h2 : a ≤ 44) : MF h (zui h' a k x) := MF_tr A (MF_ui h1 h2)
theorem CS_of (H : CS h) (hn : zn h ≤ zn h') (hk : ∀ a, a < 19 → zk h' a = zk h a) (hr : ∀ a, a < 19 → a ≠ 16 → zr h' a = zr h a) : CS h' := by
  refine ⟨Nat.le_trans H.1 hn, ?_⟩
  rw [hk 8 (by decide), hk 9 (by decide), hk 12 (by decide), hk 13 (by decide), hk 17 (by decide), hk 10 (by decide), hk 11 (by decide), hk 14 (by decide), hk 15 (by decide), hk 18 (by decide), hk 1 (by decide), hk 2 (by decide), hk 3 (by decide), hk 4 (by decide), hk 5 (by decide), hk 6 (by decide), hk 7 (by decide), hr 8 (by decide) (by decide), hr 9 (by decide) (by decide), hr 12 (by decide) (by decide), hr 13 (by decide) (by decide), hr 17 (by decide) (by decide)]
  exact H.2
theorem MS_of (H : MS h) (F : FO h h') : MS h' := by
  obtain ⟨hn, F, -⟩ := F
  refine ⟨Nat.le_trans H.1 hn, ?_⟩
  rw [(F 19 (by decide) (by decide)).1, (F 19 (by decide) (by decide)).2.2, (F 20 (by decide) (by decide)).1, (F 21 (by decide) (by decide)).1, (F 22 (by decide) (by decide)).1, (F 23 (by decide) (by decide)).1, (F 24 (by decide) (by decide)).1, (F 25 (by decide) (by decide)).1, (F 26 (by decide) (by decide)).1, (F 27 (by decide) (by decide)).1, (F 28 (by decide) (by decide)).1, (F 29 (by decide) (by decide)).1, (F 30 (by decide) (by decide)).1, (F 31 (by decide) (by decide)).1, (F 32 (by decide) (by decide)).1, (F 33 (by decide) (by decide)).1, (F 34 (by decide) (by decide)).1, (F 35 (by decide) (by decide)).1, (F 36 (by decide) (by decide)).1, (F 37 (by decide) (by decide)).1, (F 38 (by decide) (by decide)).1, (F 39 (by decide) (by decide)).1, (F 40 (by decide) (by decide)).1, (F 41 (by decide) (by decide)).1, (F 42 (by decide) (by decide)).1, (F 43 (by decide) (by decide)).1, (F 44 (by decide) (by decide)).1]
  exact H.2
theorem Fr_rfl (H : CS h) : Fr h h := ⟨FO_rfl, H, fun _ _ => rfl, fun _ _ _ => ⟨rfl, rfl⟩, fun _ _ _ => rfl⟩
theorem Fr_tr (A : Fr h h') (B : Fr h' h2) : Fr h h2 := by
  obtain ⟨a0, a1, a2, a3, a4⟩ := A
  obtain ⟨b0, b1, b2, b3, b4⟩ := B
  have hn := a0.1
  refine ⟨FO_tr a0 b0, b1, fun a ha => (b2 a (by omega)).trans (a2 a ha), fun a ha hk => ?_, fun a ha hk => ?_⟩
  · have hb := b3 a (by omega) (by rw [a2 a ha]; exact hk)
    exact ⟨hb.1.trans (a3 a ha hk).1, hb.2.trans (a3 a ha hk).2⟩
  · exact (b4 a (by omega) (by rw [a2 a ha]; exact hk)).trans (a4 a ha hk)
theorem Fr_ui (H : CS h) (ha : 8 ≤ a ∧ a < 19 ∨ 44 < a) (hk : (zk h a).1 ≠ 0 ∧ (zk h a).1 ≠ 1 ∧ (zk h a).1 ≠ 7) (h103 : (zk h a).1 ≠ 103) : Fr h (zui h a k x) := by
  refine ⟨FO_ui ha, H, fun _ _ => rfl, fun b hb hq => ⟨zi_f ?_, rfl⟩, fun _ _ _ => rfl⟩
  intro q
  subst q
  omega
/-- a cell of the class's own objects -/
theorem Fr_u (A : Fr h h') (ha : a < zn h) (hb : 8 ≤ a ∧ a < 19 ∨ 44 < a) (hk : (zk h a).1 ≠ 0 ∧ (zk h a).1 ≠ 1 ∧ (zk h a).1 ≠ 7 ∧ (zk h a).1 ≠ 103) : Fr h (zui h' a k x) := Fr_tr A (by
  have e := A.2.2.1 a ha
  exact Fr_ui A.2.1 hb (by rw [e]; exact ⟨hk.1, hk.2.1, hk.2.2.1⟩) (by rw [e]; exact hk.2.2.2))
end ZFR
def cf (h : zH) (l k : Nat) : Int32 := zi h (zla h l) k
def zbl (h : zH) (l : Nat) : Nat := (zr h (zla h l) 6).getD 0
def zbe (h : zH) (l : Nat) : Nat := (zr h (zbl h l) 1).getD 0
def zba (h : zH) (l i : Nat) : Nat := (zr h (zbe h l) i).getD 0
/-- a chain of titles -/
def zch (h : zH) : List (Int32 × Int32) → Option Nat → Prop
  | [], q => q = none
  | e :: t, q => ∃ a, q = some a ∧ 45 ≤ a ∧ a < zn h ∧ zk h a = (7, 3) ∧ zi h a 0 = e.1 ∧ zi h a 1 = e.2 ∧ zch h t (zr h a 2)
/-- the titles of lot l among the first c changes, newest first -/
def mT (h : zH) (l : Nat) : Nat → List (Int32 × Int32)
  | 0 => [(-1, -1)]
  | c + 1 => if zi h 39 c = nI l then (zi h 41 c, zi h 40 c) :: mT h l c else mT h l c
/-- how many lots are owned -/
def mow (h : zH) (n : Nat) : Nat := (List.range' 0 n).countP fun l => decide (zi h 24 l ≠ -1)
def RK (hc hm : zH) (n p s c : Nat) : Prop := zi hm 19 5 = nI n ∧ zi hc 17 1 = nI p ∧ zi hm 19 18 = nI p ∧ p ≤ 20 ∧ zi hc 13 3 = nI s ∧ zi hm 19 16 = nI s ∧ s ≤ 12 ∧ zi hc 12 8 = nI c ∧ zi hm 19 31 = nI c ∧ (∃ d, d ≤ 9999 ∧ zi hc 12 2 = nI d ∧ zi hm 19 24 = nI d) ∧ zi hc 12 3 = zi hm 19 26 ∧ zi hc 12 4 = zi hm 19 27 ∧ zi hc 12 5 = zi hm 19 28 ∧ zi hc 12 6 = zi hm 19 29 ∧ zi hc 12 7 = zi hm 19 30 ∧ (∃ e, e < 320 ∧ zi hc 13 4 = nI e ∧ zi hm 19 25 = nI e) ∧ zi hc 9 3 = zi hm 19 2
def RX (hc hm : zH) : Prop := ∃ t, t ≤ 200 ∧ zi hc 9 2 = nI t ∧ zi hm 19 1 = nI t ∧ ∀ i, i < t → zi hm 20 i = zi hc 10 i &&& 255
def RM (hc hm : zH) (p : Nat) : Prop := ∀ q, q < p → zi hc 18 q = zi hm 34 q
def RL (hc hm : zH) (n p : Nat) : Prop := ∀ l, l < n → cf hc l 7 = zi hm 24 l ∧ (zi hm 24 l = -1 ∨ ∃ q, q < p ∧ zi hm 24 l = nI q) ∧ cf hc l 4 = zi hm 25 l ∧ cf hc l 8 = zi hm 31 l ∧ cf hc l 15 = zi hm 30 l ∧ (zi hm 30 l = 0 ∨ zi hm 30 l = 1) ∧ cf hc l 16 = zi hm 32 l ∧ cArea hc l = zi hm 23 l ∧ (zi hm 24 l = -1 → zi hm 30 l = 0 ∧ zi hm 28 l = 0)
def RD (hc hm : zH) (n : Nat) : Prop := ∀ l, l < n → ∃ d, d ≤ 3 ∧ cf hc l 12 = nI d ∧ zi hm 28 l = nI d ∧ (d = 0 → cf hc l 11 = 0) ∧ (0 < d → cf hc l 13 = zi hm 26 l ∧ cf hc l 14 = zi hm 29 l ∧ cf hc l 11 = nI (d - 1) * zi hm 26 l + zi hm 27 l)
def RH (hc hm : zH) (n p : Nat) : Prop := (∀ q, q < p → zi hm 35 q = -1 ∨ ∃ l, l < n ∧ zi hm 35 q = nI l ∧ cf hc l 10 = 1 ∧ zi hm 24 l = nI q) ∧ ∀ l, l < n → cf hc l 10 = 0 ∨ cf hc l 10 = 1 ∧ ∃ q, q < p ∧ zi hm 24 l = nI q ∧ zi hm 35 q = nI l
/-- the ground: the lots' rectangles, the cells, the streets -/
def RG (hc : zH) (g v : Nat → Int32) (n s : Nat) : Prop := (∀ l, l < n → ∃ X Y W H : Nat, cf hc l 0 = nI X ∧ cf hc l 1 = nI Y ∧ cf hc l 2 = nI W ∧ cf hc l 3 = nI H ∧ 1 ≤ W ∧ 1 ≤ H ∧ X + W ≤ 20 ∧ Y + H ≤ 16 ∧ ∀ x y, x < 20 → y < 16 → (g (20 * y + x) = nI l ↔ X ≤ x ∧ x < X + W ∧ Y ≤ y ∧ y < Y + H)) ∧ (∀ j, j < 320 → (g j = -1 ∧ zi hc 14 j = -1) ∨ (∃ l, l < n ∧ g j = nI l ∧ zi hc 14 j = nI l) ∨ ∃ u, u < s ∧ g j = nI (100 + u) ∧ zi hc 14 j = nI (if v u = 0 then 100 + u else 200 + u)) ∧ (∀ u, u < s → zi hc 15 u = v u ∧ (v u = 0 ∨ v u = 1)) ∧ ∀ u, s ≤ u → u < 12 → zi hc 15 u = 0
def RB1 (h : zH) (l m : Nat) : Prop := zr h (zla h l) 6 = some (zbl h l) ∧ 45 ≤ zbl h l ∧ (zbe h l = 7 ∨ 45 ≤ zbe h l) ∧ (∃ cap, zLi h (zbl h l) (zbe h l) m cap) ∧ ∀ i, i < m → zr h (zbe h l) i = some (zba h l i) ∧ 45 ≤ zba h l i ∧ zba h l i < zn h ∧ zk h (zba h l i) = (1, 2)
def RB (hc hm : zH) (n p : Nat) : Prop := ∀ l, l < n → ∃ m, m ≤ 20 ∧ zi hm 36 l = nI m ∧ RB1 hc l m ∧ (∀ i, i < m → ∃ q, q < p ∧ zi hm 37 (20 * l + i) = nI q ∧ zi hc (zba hc l i) 0 = nI q ∧ zi hc (zba hc l i) 1 = zi hm 38 (20 * l + i)) ∧ (∀ i j, i < m → j < m → zi hm 37 (20 * l + i) = zi hm 37 (20 * l + j) → i = j) ∧ (0 < m → zi hm 24 l = -1 ∧ zi hm 25 l = 0)
def BS (h : zH) (n : Nat) : Prop := (∀ l j, l < n → j < n → l ≠ j → zbl h l ≠ zbl h j ∧ (zbe h l = zbe h j → zbe h l = 7)) ∧ ∀ l, l < n → zbe h l = zed h → zbe h l = 7
def RT (hc hm : zH) (n c : Nat) : Prop := (∀ l, l < n → ∃ t, mT hm l c = (cf hc l 7, cf hc l 8) :: t ∧ zch hc t (zr hc (zla hc l) 9)) ∧ ∀ k, k < c → ∃ j, j < n ∧ zi hm 39 k = nI j
def RO (hc hm : zH) (n c t : Nat) : Prop := c + mow hm n ≤ 2 * t ∧ t ≤ 512 ∧ zn hc ≤ 45 + 200 * t + c ∧ zs hc ≤ 30000 + 6000 * t + 3 * c
def R (hc hm : zH) (n p s c t : Nat) : Prop := LW hc n ∧ MS hm ∧ RK hc hm n p s c ∧ RX hc hm ∧ RM hc hm p ∧ RL hc hm n p ∧ RD hc hm n ∧ RH hc hm n p ∧ RG hc (zi hm 21) (zi hm 33) n s ∧ RB hc hm n p ∧ BS hc n ∧ RT hc hm n c ∧ RO hc hm n c t
section ZRT
variable {hc hm h' : zH} {n p s c t : Nat}
theorem mT_f (F : ∀ a, 19 ≤ a → a ≤ 44 → zi h' a = zi hm a) (l : Nat) : ∀ c, mT h' l c = mT hm l c
  | 0 => rfl
  | c + 1 => by
    unfold mT
    rw [F 39 (by decide) (by decide), F 40 (by decide) (by decide), F 41 (by decide) (by decide), mT_f F l c]
theorem R_f0 (r : R hc hm n p s c t) (F : FO hm h') : R hc h' n p s c t := by
  have E : ∀ a, 19 ≤ a → a ≤ 44 → zi h' a = zi hm a := fun a h1 h2 => (F.2.1 a h1 h2).2.1
  obtain ⟨w, m, k, x, mo, l, d, hh, g, b, bs, ti, o⟩ := r
  have t1 : RT hc h' n c := by
    refine ⟨fun l hl => ?_, fun k hk => ?_⟩
    · rw [mT_f E]; exact ti.1 l hl
    · rw [E 39 (by decide) (by decide)]; exact ti.2 k hk
  refine ⟨w, MS_of m F, ?_, ?_, ?_, ?_, ?_, ?_, ?_, ?_, bs, t1, ?_⟩
  · unfold RK; rw [E 19 (by decide) (by decide)]; exact k
  · unfold RX; rw [E 19 (by decide) (by decide), E 20 (by decide) (by decide)]; exact x
  · unfold RM; rw [E 34 (by decide) (by decide)]; exact mo
  · unfold RL; rw [E 24 (by decide) (by decide), E 25 (by decide) (by decide), E 31 (by decide) (by decide), E 30 (by decide) (by decide), E 32 (by decide) (by decide), E 23 (by decide) (by decide), E 28 (by decide) (by decide)]; exact l
  · unfold RD; rw [E 28 (by decide) (by decide), E 26 (by decide) (by decide), E 29 (by decide) (by decide), E 27 (by decide) (by decide)]; exact d
  · unfold RH; rw [E 35 (by decide) (by decide), E 24 (by decide) (by decide)]; exact hh
  · rw [E 21 (by decide) (by decide), E 33 (by decide) (by decide)]; exact g
  · unfold RB; rw [E 36 (by decide) (by decide), E 37 (by decide) (by decide), E 38 (by decide) (by decide), E 24 (by decide) (by decide), E 25 (by decide) (by decide)]; exact b
  · unfold RO mow; rw [E 24 (by decide) (by decide)]; exact o
theorem LW_la (W : LW hc n) {l : Nat} (hl : l < n) : 45 ≤ zla hc l ∧ zla hc l < zn hc ∧ zk hc (zla hc l) = (2, 17) := (W.2.2.2.2.1 l hl).2
end ZRT
section ZRM
variable {hc hm h' : zH} {n p s c t : Nat}
theorem MF_la (F : MF hc h') (l : Nat) : zla h' l = zla hc l := by unfold zla zed; rw [F.2.2.2.1]
theorem MF_ed (F : MF hc h') : zed h' = zed hc := by unfold zed; rw [F.2.2.2.1]
theorem MF_bl (F : MF hc h') (l : Nat) : zbl h' l = zbl hc l := by unfold zbl; rw [MF_la F, F.2.2.2.1]
theorem MF_be (F : MF hc h') (l : Nat) : zbe h' l = zbe hc l := by unfold zbe; rw [MF_bl F, F.2.2.2.1]
theorem MF_ba (F : MF hc h') (l i : Nat) : zba h' l i = zba hc l i := by unfold zba; rw [MF_be F, F.2.2.2.1]
theorem MF_Li (F : MF hc h') {a ed m cap : Nat} (ha : a < 19 ∨ 44 < a) (L : zLi hc a ed m cap) : zLi h' a ed m cap := by
  obtain ⟨f1, f2, f3, f4, f5⟩ := F
  have eo : ∀ y, zob h' y = zob hc y := fun y => by unfold zob; rw [f1, f3]
  unfold zLi
  simp only [f1, f3, f4, f5 a ha, eo]
  exact L
theorem MF_cs (F : MF hc h') (H : CS hc) : CS h' := by
  obtain ⟨f1, f2, f3, f4, f5⟩ := F
  unfold CS
  rw [f1, f3, f4]
  exact H
theorem MF_LW (F : MF hc h') (W : LW hc n) : LW h' n := by
  obtain ⟨w1, w2, ⟨cap, w3⟩, w4, w5, w6⟩ := W
  have e1 := MF_ed F
  refine ⟨MF_cs F w1, w2, ⟨cap, by rw [e1]; exact MF_Li F (by decide) w3⟩, by rw [e1]; exact w4, fun l hl => ?_, fun l j hl hj q => ?_⟩
  · rw [MF_la F, e1, F.1, F.2.2.1, F.2.2.2.1]; exact w5 l hl
  · rw [MF_la F, MF_la F] at q; exact w6 l j hl hj q
theorem MF_cf (F : MF hc h') (W : LW hc n) {l : Nat} (hl : l < n) (k : Nat) : cf h' l k = cf hc l k := by
  have := (LW_la W hl).1
  unfold cf
  rw [MF_la F, F.2.2.2.2 _ (by omega)]
theorem MF_ch (F : MF hc h') : ∀ (T : List (Int32 × Int32)) (q : Option Nat), zch hc T q → zch h' T q
  | [], q, e => e
  | e :: T, q, ⟨a, a1, a2, a3, a4, a5, a6, a7⟩ => ⟨a, a1, a2, by rw [F.1]; exact a3, by rw [F.2.2.1]; exact a4, by rw [F.2.2.2.2 a (by omega)]; exact a5, by rw [F.2.2.2.2 a (by omega)]; exact a6, by rw [F.2.2.2.1]; exact MF_ch F T _ a7⟩
theorem RG_mf (F : MF hc h') (W : LW hc n) {g v : Nat → Int32} (G : RG hc g v n s) : RG h' g v n s := by
  obtain ⟨g1, g2, g3, g4⟩ := G
  refine ⟨fun l hl => ?_, ?_, ?_, ?_⟩
  · rw [MF_cf F W hl, MF_cf F W hl, MF_cf F W hl, MF_cf F W hl]; exact g1 l hl
  · rw [F.2.2.2.2 14 (by decide)]; exact g2
  · rw [F.2.2.2.2 15 (by decide)]; exact g3
  · rw [F.2.2.2.2 15 (by decide)]; exact g4
theorem R_mf (r : R hc hm n p s c t) (F : MF hc h') : R h' hm n p s c t := by
  obtain ⟨w, m, k, x, mo, l, d, hh, g, b, bs, ti, o⟩ := r
  have E : ∀ a, a < 19 ∨ 44 < a → zi h' a = zi hc a := F.2.2.2.2
  refine ⟨MF_LW F w, m, ?_, ?_, ?_, fun i hi => ?_, fun i hi => ?_, ⟨fun q hq => ?_, fun i hi => ?_⟩, RG_mf F w g, fun i hi => ?_, ⟨fun l j hl hj hlj => ?_, fun l hl => ?_⟩, ⟨fun i hi => ?_, ti.2⟩, ?_⟩
  · unfold RK; rw [E 17 (by decide), E 13 (by decide), E 12 (by decide), E 9 (by decide)]; exact k
  · unfold RX; rw [E 9 (by decide), E 10 (by decide)]; exact x
  · unfold RM; rw [E 18 (by decide)]; exact mo
  · have e : cArea h' i = cArea hc i := by
      show 2 * cf h' i 2 * cf h' i 3 + cf h' i 5 = 2 * cf hc i 2 * cf hc i 3 + cf hc i 5
      rw [MF_cf F w hi, MF_cf F w hi, MF_cf F w hi]
    simp only [MF_cf F w hi, e]; exact l i hi
  · simp only [MF_cf F w hi]; exact d i hi
  · rcases hh.1 q hq with h1 | ⟨i, hi, h2⟩
    · exact Or.inl h1
    · exact Or.inr ⟨i, hi, by rw [MF_cf F w hi]; exact h2⟩
  · rw [MF_cf F w hi]; exact hh.2 i hi
  · obtain ⟨m, m1, m2, ⟨b1, b2, b3, ⟨cap, b4⟩, b5⟩, m4, m5⟩ := b i hi
    refine ⟨m, m1, m2, ⟨by rw [MF_la F, MF_bl F, F.2.2.2.1]; exact b1, by rw [MF_bl F]; exact b2, by rw [MF_be F]; exact b3, ⟨cap, by rw [MF_bl F, MF_be F]; exact MF_Li F (by omega) b4⟩, fun j hj => by rw [MF_be F, MF_ba F, F.1, F.2.2.1, F.2.2.2.1]; exact b5 j hj⟩, fun j hj => ?_, m5⟩
    have := (b5 j hj).2.1
    rw [MF_ba F, E _ (by omega)]; exact m4 j hj
  · rw [MF_bl F, MF_bl F, MF_be F, MF_be F]; exact bs.1 l j hl hj hlj
  · rw [MF_be F, MF_ed F]; exact bs.2 l hl
  · obtain ⟨t, t1, t2⟩ := ti.1 i hi
    exact ⟨t, by rw [MF_cf F w hi, MF_cf F w hi]; exact t1, by rw [MF_la F, F.2.2.2.1]; exact MF_ch F t _ t2⟩
  · unfold RO; rw [F.1, F.2.1]; exact o
/-- more calls -/
theorem R_t {u : Nat} (r : R hc hm n p s c t) (h1 : t ≤ u) (h2 : u ≤ 512) : R hc hm n p s c u := by
  obtain ⟨w, m, k, x, mo, l, d, hh, g, b, bs, ti, o⟩ := r
  obtain ⟨o1, o2, o3, o4⟩ := o
  exact ⟨w, m, k, x, mo, l, d, hh, g, b, bs, ti, by omega, h2, by omega, by omega⟩
end ZRM
