/-! How the small machine's state stands for the real one. -/
/-- where the law's own cells begin, the statics' addresses, the classes' numbers and slots, the array classes, the class object's address, the statics' kinds and contents -/
abbrev zg : Type := Nat × (Nat → Nat) × va_G × (Nat → ClassId) × Nat × (Nat → Nat × Nat) × (Nat → Nat → Int32)
def zad (G : zg) (a : Nat) : Nat := if a < 8 then G.2.1 a else G.1 + (a - 8)
def zxr (G : zg) (r : Option Nat) : Value := va_rf (r.map (zad G))
def zxv (G : zg) (v : zV) : Value := match v with
  | .inl x => .int x
  | .inr (.inl x) => .long x
  | .inr (.inr r) => zxr G r
def zAf (G : zg) : Nat → Prop := fun q => G.1 ≤ q
def zat (t : Nat) : FieldType := match t with
  | 100 => .int
  | 101 => .byte
  | 102 => .boolean
  | _ => .object "java/lang/Object"
def zfv (G : zg) (h : zH) (a t : Nat) : Nat → Value := fun k => if zft t k = 2 then zxr G (zr h a k) else .int (zi h a k)
/-- a cell of the heap, as the small heap has it -/
def zce (G : zg) (h : zH) (H : Heap) (a : Nat) : Prop :=
  ((zk h a).1 < 10 ∧ (zk h a).2 = (zcl (zk h a).1).2.2 ∧ t_OB (zad G a) (G.2.2.1.1 (zk h a).1) (zk h a).2 (G.2.2.1.2 (zk h a).1) H (zfv G h a (zk h a).1))
  ∨ (((zk h a).1 = 100 ∨ (zk h a).1 = 101 ∨ (zk h a).1 = 102) ∧ H[zad G a]? = some (arrV (G.2.2.2.1 (zk h a).1) (zk h a).2 (fun j => .int (zi h a j))))
  ∨ ((zk h a).1 = 103 ∧ H[zad G a]? = some (arrV (G.2.2.2.1 103) (zk h a).2 (fun j => zxr G (zr h a j))))
def zWd (G : zg) (h : zH) (H : Heap) : Prop := 8 ≤ zn h ∧ H.size = G.1 + (zn h - 8) ∧ (∀ a, 8 ≤ a → a < zn h → zce G h H a) ∧ ∀ a, a < 8 → zk h a = G.2.2.2.2.2.1 a ∧ ∀ j, zi h a j = G.2.2.2.2.2.2 a j
def zisN (w : Cond) : Bool := match w with
  | .methodLinkNest _ _ _ _ => true
  | _ => false
def zTb (G : zg) (s : State) : Prop := (∀ t, t < 10 → u_Kn s (zcl t).1 (zcl t).2.1 (zcl t).2.2 (G.2.2.1.1 t) (G.2.2.1.2 t)) ∧ (∀ t, 100 ≤ t → t ≤ 103 → ArrOfT s (G.2.2.2.1 t) (zat t) ∧ va_RA s (G.2.2.2.1 t) (zat t)) ∧ va_AO "java/lang/Object" s ∧ va_Mi "[Ljava/lang/Object;" G.2.2.2.2.1 s ∧ va_Dc s ∧ (∀ w ∈ lw_tbl, zisN w = true → va_Nw w s) ∧ va_Nw (.castable (zcl 1).1 "java/lang/Object") s ∧ va_Nw (.castable (zcl 2).1 "java/lang/Object") s
def zSt (G : zg) (s : State) (H : Heap) : Prop := (∀ a, 1 ≤ a → a < 8 → va_Z (zsta a).1 (zsta a).2.1 (zsta a).2.2 (.ref (G.2.1 a)) (zAf G) s H) ∧ (∀ a, a < 7 → (G.2.2.2.2.2.1 a).1 = 100 ∧ va_T .int (G.2.1 a) (G.2.2.2.2.2.1 a).2 (fun j => .int (G.2.2.2.2.2.2 a j)) (zAf G) s H) ∧ (G.2.2.2.2.2.1 7 = (103, 0) ∧ va_T (.object "java/lang/Object") (G.2.1 7) 0 (fun _ => .null) (zAf G) s H) ∧ G.2.1 7 < G.1
theorem zTb.moved {G : zg} {s U : State} (hW : s.WarmedH U.vm) (h : zTb G s) : zTb G U := by
  obtain ⟨h1, h2, h3, h4, h5, h6, h7, h8⟩ := h
  have hA := hW.alike
  refine ⟨fun t ht => u_Kn_moved hA (h1 t ht), fun t ha hb => ⟨arrOfT_moved hA (h2 t ha hb).1, (h2 t ha hb).2.moved hA⟩, h3.moved hA, h4.moved hA, h5.moved hA, fun w hw hn => ?_, h7.warmC hW, h8.warmC hW⟩
  have := h6 w hw hn
  cases w <;> simp [zisN] at hn
  exact this.warmM hW
theorem zSt.moved {G : zg} {s U : State} {H H1 : Heap} (hA : s.vm.Alike U.vm) (hq : ∀ a : Nat, a < H.size → ¬ zAf G a → H1[a]? = H[a]?) (h : zSt G s H) : zSt G U H1 := by
  obtain ⟨h1, h2, ⟨h3, h4⟩, h5⟩ := h
  exact ⟨fun a ha hb => ((h1 a ha hb).moved hA).kept hq, fun a ha => ⟨(h2 a ha).1, ((h2 a ha).2.moved hA).kept hq⟩, ⟨h3, (h4.moved hA).kept hq⟩, h5⟩
/-- the locals -/
def zxl (G : zg) (ls : Array Slot) (nL : Nat) (al : zLs) : Prop := ls.size = nL ∧ lv_wf ls ∧ al.length = nL ∧ ∀ (i : Nat) (v : zV), al[i]? = some (some v) → ls[i]? = some (Slot.val (zxv G v))
def zasA (G : zg) : Nat → zLs → List (Nat × Value)
  | _, [] => []
  | i, none :: r => zasA G (i + 1) r
  | i, some v :: r => (i, zxv G v) :: zasA G (i + 1) r
theorem zasA_mem (G : zg) : ∀ (al : zLs) (i : Nat) (q : Nat × Value), q ∈ zasA G i al ↔ ∃ (j : Nat) (v : zV), al[j]? = some (some v) ∧ q = (i + j, zxv G v)
  | [], i, q => by simp [zasA]
  | none :: r, i, q => by
    rw [zasA, zasA_mem G r (i + 1) q]
    constructor
    · rintro ⟨j, v, h1, h2⟩
      exact ⟨j + 1, v, by simpa using h1, by rw [h2, show i + 1 + j = i + (j + 1) by omega]⟩
    · rintro ⟨j, v, h1, h2⟩
      cases j with
      | zero => simp at h1
      | succ j => exact ⟨j, v, by simpa using h1, by rw [h2, show i + 1 + j = i + (j + 1) by omega]⟩
  | some w :: r, i, q => by
    rw [zasA, List.mem_cons, zasA_mem G r (i + 1) q]
    constructor
    · rintro (h | ⟨j, v, h1, h2⟩)
      · exact ⟨0, w, by simp, by rw [h]; simp⟩
      · exact ⟨j + 1, v, by simpa using h1, by rw [h2, show i + 1 + j = i + (j + 1) by omega]⟩
    · rintro ⟨j, v, h1, h2⟩
      cases j with
      | zero => simp at h1; subst h1; exact Or.inl (by rw [h2]; simp)
      | succ j => exact Or.inr ⟨j, v, by simpa using h1, by rw [h2, show i + 1 + j = i + (j + 1) by omega]⟩
theorem zxl.has {G : zg} {ls : Array Slot} {nL : Nat} {al : zLs} (h : zxl G ls nL al) : lv_has ls nL (zasA G 0 al) := by
  refine ⟨h.1, h.2.1, fun q hq => ?_⟩
  obtain ⟨j, v, h1, rfl⟩ := (zasA_mem G al 0 q).mp hq
  simpa using h.2.2.2 j v h1
theorem zct_cat (G : zg) (v : zV) : (zxv G v).category = zct v := by
  rcases v with x | x | r
  · rfl
  · rfl
  · cases r <;> rfl
theorem zsm_cat {G : zg} {v : zV} (h : zsm v = true) : (zxv G v).category = 1 := by
  rw [zct_cat]
  rcases v with x | x | r
  · rfl
  · simp [zsm] at h
  · rfl
theorem zcs_cat (G : zg) (st : List zV) : ((st.map (zxv G)).map fun v => v.category).sum = zcs st := by
  unfold zcs
  rw [List.map_map]
  congr 1
  exact List.map_congr_left fun v _ => zct_cat G v
theorem zsto_ok {al al' : zLs} {i : Nat} {v : zV} (h : zsto al i v = some al') : i < al.length ∧ al' = al.set i (some v) ∧ ∀ (j : Nat) (x : Int64), j + 1 = i → al[j]? ≠ some (some (vL x)) := by
  unfold zsto at h
  split at h
  · rename_i hi
    split at h
    · simp only [Option.some.injEq] at h
      exact ⟨hi, h.symm, fun j x hj => by omega⟩
    · rename_i j
      split at h
      · cases h
      · rename_i hne
        simp only [Option.some.injEq] at h
        refine ⟨hi, h.symm, fun k x hk => ?_⟩
        have : k = j := by omega
        subst this
        intro hc
        exact hne x hc
  · cases h
theorem zstl2_ok {al al' : zLs} {i : Nat} {v : zV} (h : zstl2 al i v = some al') : i + 1 < al.length ∧ al' = (al.set i (some v)).set (i + 1) none ∧ ∀ (j : Nat) (x : Int64), j + 1 = i → al[j]? ≠ some (some (vL x)) := by
  unfold zstl2 at h
  split at h
  · rename_i hi
    split at h
    · simp only [Option.some.injEq] at h
      exact ⟨hi, h.symm, fun j x hj => by omega⟩
    · rename_i j
      split at h
      · cases h
      · rename_i hne
        simp only [Option.some.injEq] at h
        refine ⟨hi, h.symm, fun k x hk => ?_⟩
        have : k = j := by omega
        subst this
        intro hc
        exact hne x hc
  · cases h
theorem zcat2 {G : zg} {v : zV} (h : (zxv G v).category = 2) : ∃ x, v = vL x := by
  rw [zct_cat] at h
  rcases v with x | x | r
  · simp [zct] at h
  · exact ⟨x, rfl⟩
  · simp [zct] at h
theorem zxl.set1 {G : zg} {ls ls' : Array Slot} {nL i : Nat} {al al' : zLs} {v : zV} (h : zxl G ls nL al) (hs : zsto al i v = some al') (h' : lv_has ls' nL ((i, zxv G v) :: (zasA G 0 al).filter (fun q => !(q.1 == i) && !(q.1 + 1 == i && q.2.category == 2)))) : zxl G ls' nL al' := by
  obtain ⟨h1, rfl, h3⟩ := zsto_ok hs
  refine ⟨h'.1, h'.2.1, by rw [List.length_set]; exact h.2.2.1, fun j w hj => ?_⟩
  by_cases hji : j = i
  · subst hji
    rw [List.getElem?_set_self h1] at hj
    cases hj
    exact h'.2.2 _ List.mem_cons_self
  · rw [List.getElem?_set_ne (Ne.symm hji)] at hj
    refine h'.2.2 (j, zxv G w) (List.mem_cons_of_mem _ (List.mem_filter.mpr ⟨(zasA_mem G al 0 _).mpr ⟨j, w, hj, by simp⟩, ?_⟩))
    simp only [Bool.and_eq_true, Bool.not_eq_true', beq_eq_false_iff_ne, ne_eq, Bool.and_eq_false_iff]
    refine ⟨hji, ?_⟩
    by_cases hj1 : j + 1 = i
    · right
      intro hc
      obtain ⟨x, rfl⟩ := zcat2 hc
      exact h3 j x hj1 hj
    · exact Or.inl hj1
theorem zxl.set2 {G : zg} {ls ls' : Array Slot} {nL i : Nat} {al al' : zLs} {v : zV} (h : zxl G ls nL al) (hs : zstl2 al i v = some al') (h' : lv_has ls' nL ((i, zxv G v) :: (zasA G 0 al).filter (fun q => !(q.1 == i) && (!(q.1 == i + 1) && !(q.1 + 1 == i && q.2.category == 2))))) : zxl G ls' nL al' := by
  obtain ⟨h1, rfl, h3⟩ := zstl2_ok hs
  refine ⟨h'.1, h'.2.1, by rw [List.length_set, List.length_set]; exact h.2.2.1, fun j w hj => ?_⟩
  by_cases hj2 : j = i + 1
  · subst hj2
    rw [List.getElem?_set_self (by rw [List.length_set]; exact h1)] at hj
    cases hj
  · rw [List.getElem?_set_ne (Ne.symm hj2)] at hj
    by_cases hji : j = i
    · subst hji
      rw [List.getElem?_set_self (by omega)] at hj
      cases hj
      exact h'.2.2 _ List.mem_cons_self
    · rw [List.getElem?_set_ne (Ne.symm hji)] at hj
      refine h'.2.2 (j, zxv G w) (List.mem_cons_of_mem _ (List.mem_filter.mpr ⟨(zasA_mem G al 0 _).mpr ⟨j, w, hj, by simp⟩, ?_⟩))
      simp only [Bool.and_eq_true, Bool.not_eq_true', beq_eq_false_iff_ne, ne_eq, Bool.and_eq_false_iff]
      refine ⟨hji, hj2, ?_⟩
      by_cases hj1 : j + 1 = i
      · right
        intro hc
        obtain ⟨x, rfl⟩ := zcat2 hc
        exact h3 j x hj1 hj
      · exact Or.inl hj1
/-- entry -/
theorem zexp_sl (G : zg) : ∀ as : List zV, (lg_sl (as.map (zxv G))).length = (zexp as).length
  | [] => rfl
  | .inl x :: as => by simpa [lg_sl, zexp, zxv, Value.category] using zexp_sl G as
  | .inr (.inl x) :: as => by simpa [lg_sl, zexp, zxv, Value.category] using zexp_sl G as
  | .inr (.inr r) :: as => by cases r <;> simpa [lg_sl, zexp, zxv, zxr, va_rf, Value.category] using zexp_sl G as
theorem zexp_args (G : zg) : ∀ (as : List zV) (i j : Nat) (v : zV), (zexp as)[j]? = some (some v) → (i + j, zxv G v) ∈ lv_args i (as.map (zxv G))
  | [], i, j, v, h => by simp [zexp] at h
  | .inl x :: as, i, 0, v, h => by simp [zexp] at h; subst h; simp [lv_args, zxv]
  | .inl x :: as, i, j + 1, v, h => by
    have := zexp_args G as (i + 1) j v (by simpa [zexp] using h)
    rw [show i + 1 + j = i + (j + 1) by omega] at this
    simp only [List.map_cons, lv_args]
    exact List.mem_cons_of_mem _ (by simpa [zxv, Value.category] using this)
  | .inr (.inl x) :: as, i, 0, v, h => by simp [zexp] at h; subst h; simp [lv_args, zxv]
  | .inr (.inl x) :: as, i, 1, v, h => by simp [zexp] at h
  | .inr (.inl x) :: as, i, j + 2, v, h => by
    have := zexp_args G as (i + 2) j v (by simpa [zexp] using h)
    rw [show i + 2 + j = i + (j + 2) by omega] at this
    simp only [List.map_cons, lv_args]
    exact List.mem_cons_of_mem _ (by simpa [zxv, Value.category] using this)
  | .inr (.inr r) :: as, i, 0, v, h => by simp [zexp] at h; subst h; simp [lv_args, zxv]
  | .inr (.inr r) :: as, i, j + 1, v, h => by
    have := zexp_args G as (i + 1) j v (by simpa [zexp] using h)
    rw [show i + 1 + j = i + (j + 1) by omega] at this
    simp only [List.map_cons, lv_args]
    refine List.mem_cons_of_mem _ ?_
    cases r <;> simpa [zxv, zxr, va_rf, Value.category] using this
theorem zent_xl {G : zg} {m : Nat} {as : List zV} (h : (zexp as).length ≤ zL m) : zxl G ((lg_sl (as.map (zxv G)) ++ List.replicate (zL m - (lg_sl (as.map (zxv G))).length) Slot.unset).toArray) (zL m) (zent m as) := by
  have hh := lv_entry (as.map (zxv G)) (n := zL m) (by rw [zexp_sl]; exact h)
  refine ⟨hh.1, hh.2.1, by simp [zent]; omega, fun i v hi => ?_⟩
  unfold zent at hi
  by_cases hl : i < (zexp as).length
  · rw [List.getElem?_append_left hl] at hi
    have := hh.2.2 _ (zexp_args G as 0 i v hi)
    simpa using this
  · rw [List.getElem?_append_right (by omega)] at hi
    have := List.eq_of_mem_replicate (List.mem_of_getElem? hi)
    cases this
