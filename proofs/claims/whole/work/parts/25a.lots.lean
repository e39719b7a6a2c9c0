/-- a lot is laid at the end of the list -/
def AL (h h' : zH) (n X Y W B : Nat) (g : Int32) : Prop := zn h ≤ zn h' ∧ zn h' ≤ zn h + 3 ∧ zs h' + 4 * (zk h (zed h)).2 ≤ zs h + 20 + 4 * (zk h' (zed h')).2 ∧ (∀ a, a < zn h → zk h' a = zk h a) ∧ (∀ a, a < zn h → a ≠ 14 → a ≠ 16 → zi h' a = zi h a) ∧ (∀ a, a < zn h → a ≠ 16 → a ≠ zed h → zr h' a = zr h a) ∧ (∀ l, l < n → zla h' l = zla h l) ∧ zla h' n = zn h ∧ (zed h' = zed h ∨ zn h ≤ zed h') ∧ (∀ c, c < 320 → (inR X Y W B c → zi h 14 c = -1 → zi h' 14 c = nI n) ∧ (¬ inR X Y W B c ∨ zi h 14 c ≠ -1 → zi h' 14 c = zi h 14 c)) ∧ (∀ k, zi h' (zn h) k = if k = 0 then nI X else if k = 1 then nI Y else if k = 2 then nI W else if k = 3 then nI B else if k = 4 then g else if k = 7 ∨ k = 8 ∨ k = 16 then -1 else 0) ∧ zr h' (zn h) 6 = some (zn h + 1) ∧ zr h' (zn h) 9 = none ∧ zn h + 1 < zn h' ∧ zk h' (zn h + 1) = (0, 3) ∧ zr h' (zn h + 1) 1 = some 7 ∧ zi h' (zn h + 1) 2 = 0
section ZAL
variable {h h' hc : zH} {n X Y W B a k : Nat} {g x : Int32} {q : Option Nat}
theorem q27 (w : LW h n) (hn : n < 40) (hX : X + W ≤ 20) (hY : Y + B ≤ 16) (hg : g = 0 ∨ g = 1) : ∃ h', zcall 27 [vR (some 13), vI (nI X), vI (nI Y), vI (nI W), vI (nI B), vI g] h = some (none, h') ∧ LW h' (n + 1) ∧ AL h h' n X Y W B g := by
  have h45 := w.1.1
  obtain ⟨w1, w2, ⟨cap, w3⟩, w4, w5, w6⟩ := id w
  have o2 : ∀ (h : zH) (f : Option Nat → zH → Option (Option zV × zH)), zno h 2 f = f (some (zn h)) (znw h 2 17) := fun h f => rfl
  have o0 : ∀ (h : zH) (f : Option Nat → zH → Option (Option zV × zH)), zno h 0 f = f (some (zn h)) (znw h 0 3) := fun h f => rfl
  generalize hh6 : znw h 2 17 = h6
  have n6 : zn h6 = zn h + 1 := by rw [← hh6]; rfl
  have kk6 : zk h6 (zn h) = (2, 17) := by rw [← hh6, zk_nw, if_pos rfl]
  generalize hh2 : znw h6 0 3 = h2
  have n2 : zn h2 = zn h + 2 := by rw [← hh2, zn_nw, n6]
  have s2 : zs h2 = zs h + 20 := by rw [← hh2, zs_nw, ← hh6, zs_nw]
  have k2 : ∀ a, a < zn h → zk h2 a = zk h a := fun a ha => by rw [← hh2, zk_nw, n6, if_neg (by omega), ← hh6, zk_nw, if_neg (by omega)]
  have k2a : zk h2 (zn h) = (2, 17) := by rw [← hh2, zk_nw, n6, if_neg (by omega), kk6]
  have k2b : zk h2 (zn h + 1) = (0, 3) := by rw [← hh2, zk_nw, n6, if_pos rfl]
  have i2 : ∀ a k, a < zn h → zi h2 a k = zi h a k := fun a k ha => by rw [← hh2, zi_nw, n6, if_neg (by omega), ← hh6, zi_nw, if_neg (by omega)]
  have i2a : ∀ k, zi h2 (zn h) k = 0 := fun k => by rw [← hh2, zi_nw, n6, if_neg (by omega), ← hh6, zi_nw, if_pos rfl]
  have i2b : ∀ k, zi h2 (zn h + 1) k = 0 := fun k => by rw [← hh2, zi_nw, n6, if_pos rfl]
  have r2 : ∀ a k, a < zn h → zr h2 a k = zr h a k := fun a k ha => by rw [← hh2, zr_nw, n6, if_neg (by omega), ← hh6, zr_nw, if_neg (by omega)]
  have r2a : ∀ k, zr h2 (zn h) k = none := fun k => by rw [← hh2, zr_nw, n6, if_neg (by omega), ← hh6, zr_nw, if_pos rfl]
  generalize hh3 : zur (zui h2 (zn h + 1) 0 0) (zn h + 1) 1 (some 7) = h3
  have c5 : zcall 5 [vR (some (zn h + 1))] h2 = some (none, h3) := by
    have c7 : zcall 7 [vR (some (zn h + 1))] h2 = some (none, h2) := by rw [e7, ul_s]
    have c6 : zcall 6 [vR (some (zn h + 1))] h2 = some (none, zui h2 (zn h + 1) 0 0) := by
      rw [e6, ul_s, cV_k c7, pI_k (by omega) (by omega) k2b (by decide)]
    rw [e5, ul_s, cV_k c6, pR_k (by omega) (by rw [zn_ui]; omega) (by rw [zk_ui]; exact k2b) (by decide), hh3]
  have n3 : zn h3 = zn h + 2 := by rw [← hh3]; exact n2
  have k3 : ∀ a, zk h3 a = zk h2 a := fun a => by rw [← hh3]; rfl
  have i3 : ∀ a k, a ≠ zn h + 1 → zi h3 a k = zi h2 a k := fun a k ha => by rw [← hh3, zi_ur, zi_ua ha]
  generalize hh7 : zui (zui (zui (zui (zui (zui (zui (zui (zur h3 (zn h) 6 (some (zn h + 1))) (zn h) 7 (-1)) (zn h) 8 (-1)) (zn h) 16 (-1)) (zn h) 0 (nI X)) (zn h) 1 (nI Y)) (zn h) 2 (nI W)) (zn h) 3 (nI B)) (zn h) 4 g = h7
  have kz : zk h3 (zn h) = (2, 17) := (k3 _).trans k2a
  have nz : zn h < zn h3 := by omega
  have c28 : zcall 28 [vR (some (zn h)), vI (nI X), vI (nI Y), vI (nI W), vI (nI B), vI g] h6 = some (none, h7) := by
    have pz : ∀ {hx : zH} {k : Nat} {x : Int32} {f : zH → Option (Option zV × zH)}, zn hx = zn h3 → zk hx = zk h3 → k < 17 → zpI hx (some (zn h)) 2 k x f = f (zui hx (zn h) k x) := fun e1 e2 hk => pI_k (by omega) (by rw [e1]; exact nz) (by rw [e2]; exact kz) hk
    have pzz : ∀ {hx : zH} {f : zH → Option (Option zV × zH)}, zn hx = zn h3 → zk hx = zk h3 → zpZ hx (some (zn h)) 2 4 g f = f (zui hx (zn h) 4 g) := fun e1 e2 => pZ_k (by omega) (by rw [e1]; exact nz) (by rw [e2]; exact kz) (by decide) hg
    rw [e28, ul_s, o0, hh2, n6, ul_s, cV_k c5, pR_k (by omega) nz kz (by decide), pz (by rfl) (by rfl) (by decide), pz (by rfl) (by rfl) (by decide), pz (by rfl) (by rfl) (by decide), pz (by rfl) (by rfl) (by decide), pz (by rfl) (by rfl) (by decide), pz (by rfl) (by rfl) (by decide), pz (by rfl) (by rfl) (by decide), pzz (by rfl) (by rfl), hh7]
  have n7 : zn h7 = zn h + 2 := by rw [← hh7]; exact n3
  have s7 : zs h7 = zs h + 20 := by rw [← hh7, ← s2, ← hh3]; rfl
  have k7 : ∀ a, zk h7 a = zk h2 a := fun a => by rw [← hh7]; exact k3 a
  have i7 : ∀ a k, a < zn h → zi h7 a k = zi h a k := fun a k ha => by
    rw [← hh7, zi_ua (by omega), zi_ua (by omega), zi_ua (by omega), zi_ua (by omega), zi_ua (by omega), zi_ua (by omega), zi_ua (by omega), zi_ua (by omega), zi_ur, i3 a k (by omega), i2 a k ha]
  have i7a : ∀ k, zi h7 (zn h) k = if k = 0 then nI X else if k = 1 then nI Y else if k = 2 then nI W else if k = 3 then nI B else if k = 4 then g else if k = 7 ∨ k = 8 ∨ k = 16 then -1 else 0 := fun k => by
    rw [← hh7, zi_ui, zi_ui, zi_ui, zi_ui, zi_ui, zi_ui, zi_ui, zi_ui, zi_ur, i3 _ k (by omega), i2a]
    simp only [true_and]
    rcases (show k = 0 ∨ k = 1 ∨ k = 2 ∨ k = 3 ∨ k = 4 ∨ k = 7 ∨ k = 8 ∨ k = 16 ∨ (k ≠ 0 ∧ k ≠ 1 ∧ k ≠ 2 ∧ k ≠ 3 ∧ k ≠ 4 ∧ k ≠ 7 ∧ k ≠ 8 ∧ k ≠ 16) by omega) with q | q | q | q | q | q | q | q | ⟨c0, c1, c2, c3, c4, c7, c8, c16⟩
    · subst q; rfl
    · subst q; rfl
    · subst q; rfl
    · subst q; rfl
    · subst q; rfl
    · subst q; rfl
    · subst q; rfl
    · subst q; rfl
    · simp [c0, c1, c2, c3, c4, c7, c8, c16]
  have i7b : zi h7 (zn h + 1) 2 = 0 := by
    rw [← hh7, zi_ua (by omega), zi_ua (by omega), zi_ua (by omega), zi_ua (by omega), zi_ua (by omega), zi_ua (by omega), zi_ua (by omega), zi_ua (by omega), zi_ur, ← hh3, zi_ur, zi_uk (by decide), i2b]
  have r7 : ∀ a k, zr h7 a k = if a = zn h ∧ k = 6 then some (zn h + 1) else if a = zn h + 1 ∧ k = 1 then some 7 else zr h2 a k := fun a k => by
    rw [← hh7]
    show (if a = zn h ∧ k = 6 then some (zn h + 1) else zr h3 a k) = _
    rw [← hh3]
    rfl
  have L7 : zLi h7 16 (zed h) n cap := by
    obtain ⟨l1, l2, l3, l4, l5, l6, l7, l8, l9, l10, l11⟩ := w3
    refine ⟨l1, by omega, by rw [k7, k2 16 l2]; exact l3, by rw [r7, if_neg (by omega), if_neg (by omega), r2 _ _ l2]; exact l4, by rw [i7 _ _ l2]; exact l5, l6, l7, by omega, by rw [k7, k2 _ l8]; exact l9, l10, fun i hi => ?_⟩
    rw [r7, if_neg (by omega), if_neg (by omega), r2 _ _ l8]
    exact zob_up (by omega) (fun b hb => by rw [k7, k2 b hb]) (l11 i hi)
  have ho : zob h7 (zn h) := ⟨by omega, by omega, by rw [k7, k2a]; exact Or.inr rfl⟩
  obtain ⟨h8, ed', cap', c1, L8, ⟨a1, a2, a3, a4, a5, a6, a7, a8, a9, a10⟩, a11⟩ := q29 L7 ho (by omega)
  have hed := (LW_ed w).1
  have C8 : CS h8 := by
    have C7 : CS h7 := CS_of w1 (by omega) (fun a ha => by rw [k7, k2 a (by omega)]) (fun a ha _ => funext fun k => by rw [r7, if_neg (by omega), if_neg (by omega), r2 a k (by omega)])
    refine CS_of2 C7 a7 (fun a ha => a6 a (by omega)) (fun a q1 q2 q3 => funext fun k => a5 a k (by omega) ?_ (by omega))
    rcases w4 with q | q <;> omega
  obtain ⟨h9, c39, M⟩ := q39 (x := X) (y := Y) (w := W) (b := B) (v := nI n) C8 hX hY
  obtain ⟨⟨f1, f2, f3, f4, f5⟩, f6⟩ := id M
  have z9 : zed h9 = ed' := by
    unfold zed
    rw [f4, L8.2.2.2.1]
    rfl
  have hed' : ed' = zed h ∨ ed' = zn h + 2 := by
    rcases a3 with q | q
    · exact Or.inl q
    · exact Or.inr (by omega)
  have la : ∀ l, l < n → zla h9 l = zla h l := fun l hl => by
    unfold zla
    rw [z9, f4, a1 l hl, r7, if_neg (by omega), if_neg (by omega), r2 _ _ hed]
  have lan : zla h9 n = zn h := by
    unfold zla
    rw [z9, f4, a2]
    rfl
  refine ⟨h9, ?_, ⟨F1_cs M.1 C8, by omega, ⟨cap', ?_⟩, ?_, fun l hl => ?_, fun l j hl hj q => ?_⟩, by omega, by omega, ?_, fun a ha => by rw [f3, a6 a (by omega), k7, k2 a ha], fun a ha h1 h2 => ?_, fun a ha h1 h2 => ?_, la, lan, ?_, fun c hc => ?_, fun k => ?_, ?_, ?_, by omega, by rw [f3, a6 _ (by omega), k7, k2b], ?_, ?_⟩
  · rw [e27, Cr13_2 w1, Lv16 w, Lsz w, Cr13_2 w1, o2, hh6, ul_s, cV_k c28, vr_k L7.1 L7.2.1 L7.2.2.1, cI_k c1, Cv13 C8, cV_k c39]
  · rw [z9]
    obtain ⟨l1, l2, l3, l4, l5, l6, l7, l8, l9, l10, l11⟩ := L8
    refine ⟨l1, by omega, by rw [f3]; exact l3, by rw [f4]; exact l4, by rw [f5 16 (by decide)]; exact l5, l6, l7, by omega, by rw [f3]; exact l9, l10, fun i hi => ?_⟩
    rw [f4]
    exact zob_up (by omega) (fun b _ => by rw [f3]) (l11 i hi)
  · rw [z9]
    rcases hed' with q | q
    · rw [q]; exact w4
    · exact Or.inr (by omega)
  · by_cases e : l = n
    · subst e
      rw [z9, lan, f4, a2, f1, f3]
      exact ⟨rfl, by omega, by omega, by rw [a6 _ (by omega), k7, k2a]⟩
    · have hl' : l < n := by omega
      obtain ⟨u1, u2, u3, u4⟩ := w5 l hl'
      rw [z9, la l hl', f4, a1 l hl', r7, if_neg (by omega), if_neg (by omega), r2 _ _ hed, f1, f3]
      exact ⟨u1, u2, by omega, by rw [a6 _ (by omega), k7, k2 _ u3]; exact u4⟩
  · have lt : ∀ l, l < n → zla h l < zn h := fun l hl => (w5 l hl).2.2.1
    by_cases e1 : l = n
    · by_cases e2 : j = n
      · omega
      · rw [e1, lan, la j (by omega)] at q
        have := lt j (by omega)
        omega
    · by_cases e2 : j = n
      · rw [e2, lan, la l (by omega)] at q
        have := lt l (by omega)
        omega
      · rw [la l (by omega), la j (by omega)] at q
        exact w6 l j (by omega) (by omega) q
  · rw [z9, f3, L8.2.2.2.2.2.2.2.2.1, w3.2.2.2.2.2.2.2.2.1]
    show zs h9 + 4 * cap ≤ zs h + 20 + 4 * cap'
    omega
  · rw [f5 a h1]
    funext k
    rw [a4 a k (by omega) (fun q => h2 q.1), i7 a k ha]
  · rw [f4]
    funext k
    rw [a5 a k (by omega) h2 (fun q => h1 q.1), r7, if_neg (by omega), if_neg (by omega), r2 a k ha]
  · rw [z9]
    rcases hed' with q | q
    · exact Or.inl q
    · exact Or.inr (by omega)
  · have e14 : zi h8 14 c = zi h 14 c := by rw [a4 14 c (by omega) (by omega), i7 14 c (by omega)]
    have := f6 c hc
    rw [e14] at this
    exact this
  · rw [f5 _ (by omega), a4 _ k (by omega) (by omega), i7a]
  · rw [f4, a5 _ _ (by omega) (by omega) (by omega), r7, if_pos ⟨rfl, rfl⟩]
  · rw [f4, a5 _ _ (by omega) (by omega) (by omega), r7, if_neg (by omega), if_neg (by omega), r2a]
  · rw [f4, a5 _ _ (by omega) (by omega) (by omega), r7, if_neg (by omega), if_pos ⟨rfl, rfl⟩]
  · rw [f5 _ (by omega), a4 _ _ (by omega) (by omega), i7b]
end ZAL
