-- deps: 15a.lots 16a.rel
section ZFS
variable {h h2 : zH} {n l j k i a : Nat} {x : Int32} {q : Option Nat} {α : Type}
theorem LW_ed (W : LW h n) : zed h < zn h ∧ (zk h (zed h)).1 = 103 ∧ (zk h 16).1 = 0 ∧ 16 < zn h := by
  obtain ⟨w1, w2, ⟨cap, w3⟩, -⟩ := W
  obtain ⟨l1, l2, l3, l4, l5, l6, l7, l8, l9, -⟩ := w3
  exact ⟨l8, by rw [l9], by rw [l3], l2⟩
theorem Fr_ed (W : LW h n) (F : Fr h h2) : zed h2 = zed h := by
  obtain ⟨-, -, e3, e4⟩ := LW_ed W
  unfold zed
  rw [(F.2.2.2.1 16 e4 (Or.inl e3)).2]
theorem Fr_la (W : LW h n) (F : Fr h h2) (l : Nat) : zla h2 l = zla h l := by
  obtain ⟨e1, e2, -, -⟩ := LW_ed W
  unfold zla
  rw [Fr_ed W F, (F.2.2.2.1 (zed h) e1 (by omega)).2]
theorem Fr_Li (F : Fr h h2) {b ed m cap : Nat} (L : zLi h b ed m cap) : zLi h2 b ed m cap := by
  obtain ⟨l1, l2, l3, l4, l5, l6, l7, l8, l9, l10, l11⟩ := L
  have hn := F.1.1
  have e1 := F.2.2.2.1 b l2 (by rw [l3]; exact Or.inl rfl)
  have e2 := F.2.2.2.1 ed l8 (by rw [l9]; exact Or.inr (Or.inr (Or.inr rfl)))
  refine ⟨l1, by omega, by rw [F.2.2.1 b l2]; exact l3, by rw [e1.2]; exact l4, by rw [e1.1]; exact l5, l6, l7, by omega, by rw [F.2.2.1 ed l8]; exact l9, l10, fun i hi => ?_⟩
  rw [e2.2]
  exact zob_up hn F.2.2.1 (l11 i hi)
theorem Fr_LW (W : LW h n) (F : Fr h h2) : LW h2 n := by
  have e1 := Fr_ed W F
  have e2 := LW_ed W
  obtain ⟨w1, w2, ⟨cap, w3⟩, w4, w5, w6⟩ := id W
  have hn := F.1.1
  refine ⟨F.2.1, w2, ⟨cap, by rw [e1]; exact Fr_Li F w3⟩, by rw [e1]; exact w4, fun l hl => ?_, fun l j hl hj q => ?_⟩
  · obtain ⟨u1, u2, u3, u4⟩ := w5 l hl
    rw [Fr_la W F, e1, (F.2.2.2.1 (zed h) e2.1 (by omega)).2]
    exact ⟨u1, u2, by omega, by rw [F.2.2.1 _ u3]; exact u4⟩
  · rw [Fr_la W F, Fr_la W F] at q; exact w6 l j hl hj q
theorem Fr_bl (W : LW h n) (F : Fr h h2) (hl : l < n) : zbl h2 l = zbl h l := by
  obtain ⟨u1, u2, u3⟩ := LW_la W hl
  unfold zbl
  rw [Fr_la W F, F.2.2.2.2 _ u2 (by rw [u3])]
theorem Fr_be (W : LW h n) (F : Fr h h2) (hl : l < n) {m : Nat} (B : RB1 h l m) : zbe h2 l = zbe h l := by
  obtain ⟨b1, b2, b3, ⟨cap, b4⟩, b5⟩ := B
  unfold zbe
  rw [Fr_bl W F hl, (F.2.2.2.1 _ b4.2.1 (by rw [b4.2.2.1]; exact Or.inl rfl)).2]
theorem Fr_ba (W : LW h n) (F : Fr h h2) (hl : l < n) {m : Nat} (B : RB1 h l m) (i : Nat) : zba h2 l i = zba h l i := by
  have e := Fr_be W F hl B
  obtain ⟨b1, b2, b3, ⟨cap, b4⟩, b5⟩ := B
  obtain ⟨-, -, -, -, -, -, -, l8, l9, -⟩ := b4
  unfold zba
  rw [e, (F.2.2.2.1 _ l8 (by rw [l9]; exact Or.inr (Or.inr (Or.inr rfl)))).2]
theorem Fr_B1 (W : LW h n) (F : Fr h h2) (hl : l < n) {m : Nat} (B : RB1 h l m) : RB1 h2 l m := by
  have e1 := Fr_be W F hl B
  have e2 := Fr_ba W F hl B
  obtain ⟨b1, b2, b3, ⟨cap, b4⟩, b5⟩ := B
  obtain ⟨u1, u2, u3⟩ := LW_la W hl
  have hn := F.1.1
  refine ⟨?_, by rw [Fr_bl W F hl]; exact b2, by rw [e1]; exact b3, ⟨cap, by rw [e1, Fr_bl W F hl]; exact Fr_Li F b4⟩, fun i hi => ?_⟩
  · rw [Fr_la W F, Fr_bl W F hl, F.2.2.2.2 _ u2 (by rw [u3])]; exact b1
  · obtain ⟨v1, v2, v3, v4⟩ := b5 i hi
    rw [e1, e2]
    obtain ⟨-, -, -, -, -, -, -, l8, l9, -⟩ := b4
    refine ⟨?_, v2, by omega, by rw [F.2.2.1 _ v3]; exact v4⟩
    rw [(F.2.2.2.1 _ l8 (by rw [l9]; exact Or.inr (Or.inr (Or.inr rfl)))).2]
    exact v1
theorem Fr_ch (F : Fr h h2) : ∀ (T : List (Int32 × Int32)) (q : Option Nat), zch h T q → zch h2 T q
  | [], q, e => e
  | e :: T, q, ⟨a, a1, a2, a3, a4, a5, a6, a7⟩ => by
    have e1 := F.2.2.2.1 a a3 (by rw [a4]; exact Or.inr (Or.inr (Or.inl rfl)))
    have hn := F.1.1
    refine ⟨a, a1, a2, by omega, by rw [F.2.2.1 a a3]; exact a4, by rw [e1.1]; exact a5, by rw [e1.1]; exact a6, ?_⟩
    rw [e1.2]
    exact Fr_ch F T _ a7
theorem Fgi (W : LW h n) (F : Fr h h2) (hl : l < n) (hk : k < 17) {f : Int32 → Option α} : zgI h2 (some (zla h l)) 2 k f = f (zi h2 (zla h l) k) := by
  have := Lgi (Fr_LW W F) hl hk (f := f)
  rw [Fr_la W F] at this
  exact this
theorem Fgr (W : LW h n) (F : Fr h h2) (hl : l < n) (hk : k < 17) {f : Option Nat → Option α} : zgR h2 (some (zla h l)) 2 k f = f (zr h2 (zla h l) k) := by
  have := Lgr (Fr_LW W F) hl hk (f := f)
  rw [Fr_la W F] at this
  exact this
theorem Fpi (W : LW h n) (F : Fr h h2) (hl : l < n) (hk : k < 17) {f : zH → Option α} : zpI h2 (some (zla h l)) 2 k x f = f (zui h2 (zla h l) k x) := by
  have := Lpi (x := x) (Fr_LW W F) hl hk (f := f)
  rw [Fr_la W F] at this
  exact this
theorem Fpz (W : LW h n) (F : Fr h h2) (hl : l < n) (hk : k < 17) (hx : x = 0 ∨ x = 1) {f : zH → Option α} : zpZ h2 (some (zla h l)) 2 k x f = f (zui h2 (zla h l) k x) := by
  have := Lpz (Fr_LW W F) hl hk hx (f := f)
  rw [Fr_la W F] at this
  exact this
theorem Flv (W : LW h n) (F : Fr h h2) (hl : l < n) {f : Option α} : zvr h2 (some (zla h l)) 2 f = f := by
  have := Lv (Fr_LW W F) hl (f := f)
  rw [Fr_la W F] at this
  exact this
/-- a lot's cell is changed -/
theorem Fl (W : LW h n) (F : Fr h h2) (hl : l < n) : Fr h (zui h2 (zla h l) k x) := by
  obtain ⟨u1, u2, u3⟩ := LW_la W hl
  exact Fr_u F u2 (by omega) (by rw [u3]; decide)
theorem zl_l (W : LW h n) (hj : j < n) (hl : l < n) : zi (zui h2 (zla h l) k x) (zla h j) i = if j = l ∧ i = k then x else zi h2 (zla h j) i := by
  rw [zi_ui]
  by_cases e : j = l
  · subst e
    simp
  · have : zla h j ≠ zla h l := fun q => e (W.2.2.2.2.2 j l hj hl q)
    rw [if_neg (fun q => this q.1), if_neg (fun q => e q.1)]
theorem zl_a (W : LW h n) (hj : j < n) (ha : a < 45) : zi (zui h2 a k x) (zla h j) i = zi h2 (zla h j) i := zi_ua (by have := (LW_la W hj).1; omega)
theorem zl_f (W : LW h n) (hl : l < n) (ha : a < 45) : zi (zui h2 (zla h l) k x) a i = zi h2 a i := zi_ua (by have := (LW_la W hl).1; omega)
theorem Fx (A : Fr h h2) (ha : a = 9 ∨ a = 12 ∨ a = 13 ∨ a = 17 ∨ a = 10 ∨ a = 11 ∨ a = 14 ∨ a = 15 ∨ a = 18) (H : CS h) : Fr h (zui h2 a k x) := by
  obtain ⟨c1, c8, c9, c12, c13, c17, -, -, -, -, -, -, -, -, -, -, c10, c11, c14, c15, c18, -⟩ := H
  refine Fr_u A (by omega) (by omega) ?_
  rcases ha with e | e | e | e | e | e | e | e | e <;> subst e <;> simp [c8, c9, c12, c13, c17, c10, c11, c14, c15, c18]
/-- a title is put by -/
def kT (h : zH) (l : Nat) : zH := zur (zur (zui (zui (znw h 7 3) (zn h) 0 (cf h l 7)) (zn h) 1 (cf h l 8)) (zn h) 2 (zr h (zla h l) 9)) (zla h l) 9 (some (zn h))
theorem kT_i (ha : a < zn h) : zi (kT h l) a = zi h a := by
  funext k
  show zi (zui (zui (znw h 7 3) (zn h) 0 (cf h l 7)) (zn h) 1 (cf h l 8)) a k = _
  rw [zi_ua (by omega), zi_ua (by omega), zi_nw, if_neg (by omega)]
theorem kT_k (ha : a < zn h) : zk (kT h l) a = zk h a := by
  show zk (znw h 7 3) a = _
  rw [zk_nw, if_neg (by omega)]
theorem kT_r (ha : a < zn h) (hk : ¬ (a = zla h l ∧ k = 9)) : zr (kT h l) a k = zr h a k := by
  show (if a = zla h l ∧ k = 9 then some (zn h) else if a = zn h ∧ k = 2 then zr h (zla h l) 9 else zr (znw h 7 3) a k) = _
  rw [if_neg hk, if_neg (by omega), zr_nw, if_neg (by omega)]
theorem Fr_kT (W : LW h n) (hl : l < n) : Fr h (kT h l) := by
  obtain ⟨u1, u2, u3⟩ := LW_la W hl
  have h45 := W.1.1
  have er : ∀ b, b < zn h → (zk h b).1 ≠ 2 → zr (kT h l) b = zr h b := fun b hb hk => funext fun k => kT_r hb (fun q => hk (by rw [q.1, u3]))
  have hn : zn h ≤ zn (kT h l) := Nat.le_succ _
  have hc := W.1
  refine ⟨⟨hn, fun b h1 h2 => ⟨kT_k (by omega), kT_i (by omega), funext fun k => kT_r (by omega) (by omega)⟩, fun b hb => ⟨kT_k (by omega), kT_i (by omega)⟩⟩, CS_of hc hn (fun b hb => kT_k (by omega)) (fun b hb _ => funext fun k => kT_r (by omega) (by omega)), fun b hb => kT_k hb, fun b hb hk => ⟨kT_i hb, er b hb (by omega)⟩, fun b hb _ => kT_r hb (by omega)⟩
theorem q83 (W : LW h n) (hl : l < n) : zcall 83 [vR (some (zla h l))] h = some (none, kT h l) := by
  obtain ⟨u1, u2, u3⟩ := LW_la W hl
  have ek : ∀ b, b < zn h → zk (znw h 7 3) b = zk h b := fun b hb => by rw [zk_nw, if_neg (by omega)]
  have e7 : zk (znw h 7 3) (zn h) = (7, 3) := by rw [zk_nw, if_pos rfl]
  have gi : ∀ (k : Nat) (f : Int32 → Option (Option zV × zH)), k < 17 → zgI (znw h 7 3) (some (zla h l)) 2 k f = f (cf h l k) := fun k f hk => by
    rw [gI_k (by omega) (by rw [zn_nw]; omega) ((ek _ u2).trans u3) hk, zi_nw, if_neg (by omega)]
    rfl
  have hcl : (zcl 7).2.2 = 3 := rfl
  have h84 : zcall 84 [vR (some (zn h)), vI (cf h l 7), vI (cf h l 8), vR (zr h (zla h l) 9)] (znw h 7 3) = some (none, zur (zui (zui (znw h 7 3) (zn h) 0 (cf h l 7)) (zn h) 1 (cf h l 8)) (zn h) 2 (zr h (zla h l) 9)) := by
    have h45 := W.1.1
    rw [e84, ul_s, pI_k (by omega) (by rw [zn_nw]; omega) (by exact e7) (by decide), pI_k (by omega) (by rw [zn_ui, zn_nw]; omega) (by exact e7) (by decide), pR_k (by omega) (by rw [zn_ui, zn_ui, zn_nw]; omega) (by exact e7) (by decide)]
  rw [e83]
  unfold zno
  rw [hcl]
  dsimp only
  rw [gi 7 _ (by decide), gi 8 _ (by decide), gR_k (by omega) (by rw [zn_nw]; omega) ((ek _ u2).trans u3) (by decide), zr_nw, if_neg (by omega), ul_s, cV_k h84, pR_k (by omega) (by rw [zn_ur, zn_ui, zn_ui, zn_nw]; omega) (by exact (ek _ u2).trans u3) (by decide)]
  rfl
/-- the title goes over to x -/
def cChg (h : zH) (l : Nat) (x : Int32) (c : Nat) : zH := zui (zui (zui (zui (kT h l) (zla h l) 7 x) (zla h l) 8 (zi h 12 2)) (zla h l) 10 0) 12 8 (nI (c + 1))
theorem Fr_chg (W : LW h n) (hl : l < n) {c : Nat} : Fr h (cChg h l x c) := Fx (Fl W (Fl W (Fl W (Fr_kT W hl) hl) hl) hl) (by decide) W.1
theorem w81 (W : LW h n) (hl : l < n) {c : Nat} (e : zi h 12 8 = nI c) (hc : c < 1024) : zev 81 9 [some (vR (some 12)), some (vR (some (zla h l))), some (vI x)] [] h = some (none, cChg h l x c) := by
  have F1 := Fr_kT W hl
  have h45 := W.1.1
  have h85 : zcall 85 [vR (some (zla h l)), vI x, vI (zi h 12 2)] (kT h l) = some (none, zui (zui (zui (kT h l) (zla h l) 7 x) (zla h l) 8 (zi h 12 2)) (zla h l) 10 0) := by
    rw [e85, Fpi W F1 hl (by decide), Fpi W (Fl W F1 hl) hl (by decide), Fpz W (Fl W (Fl W F1 hl) hl) hl (by decide) (Or.inl rfl)]
  have F2 := Fl (k := 10) (x := 0) W (Fl (k := 8) (x := zi h 12 2) W (Fl (k := 7) (x := x) W F1 hl) hl) hl
  rw [b81_9, Ci12_8 W.1, e, show (1024 : Int32) = nI 1024 from rfl, if_pos (nI_lt hc (by decide)), Lv W hl, cV_k (q83 W hl), Ci12_2 F1.2.1, kT_i (by omega), Flv W F1 hl, cV_k h85, Ci12_8 F2.2.1, Cp12_8 F2.2.1, zl_f W hl (by decide), zl_f W hl (by decide), zl_f W hl (by decide), kT_i (by omega), e, nI_1]
  rfl
theorem q81 (W : LW h n) (hl : l < n) {c : Nat} (e : zi h 12 8 = nI c) (hc : c < 1024) (hx : x ≠ -1) : zcall 81 [vR (some 12), vR (some (zla h l)), vI x] h = some (none, cChg h l x c) := by
  rw [e81, if_neg hx, w81 W hl e hc]
def cFor (h : zH) (l : Nat) : zH := zui (zui (zui (zui h (zla h l) 11 0) (zla h l) 12 0) (zla h l) 15 0) (zla h l) 16 (-1)
theorem Fr_for (W : LW h n) (hl : l < n) : Fr h (cFor h l) := Fl W (Fl W (Fl W (Fl W (Fr_rfl W.1) hl) hl) hl) hl
theorem q81b (W : LW h n) (hl : l < n) {c : Nat} (e : zi h 12 8 = nI c) (hc : c < 1024) : zcall 81 [vR (some 12), vR (some (zla h l)), vI (-1)] h = some (none, cChg (cFor h l) l (-1) c) := by
  have h82 : zcall 82 [vR (some (zla h l))] h = some (none, cFor h l) := by
    have F0 := Fr_rfl W.1
    rw [e82, Fpi W F0 hl (by decide), Fpi W (Fl W F0 hl) hl (by decide), Fpi W (Fl W (Fl W F0 hl) hl) hl (by decide), Fpi W (Fl W (Fl W (Fl W F0 hl) hl) hl) hl (by decide)]
    rfl
  rw [e81, if_pos rfl, Lv W hl, cV_k h82]
  exact w81 (Fr_LW W (Fr_for W hl)) hl (by rw [← e]; unfold cFor; rw [zl_f W hl (by decide), zl_f W hl (by decide), zl_f W hl (by decide), zl_f W hl (by decide)]) hc
end ZFS
