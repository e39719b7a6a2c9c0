/-! the same residue under a binder; calls by the kind of their answer -/
section ZCg
variable {α : Type} {h : zH} {r q : Option Nat} {t k : Nat} {x y : Int32}
theorem zgI_c {f g : Int32 → Option α} (e : ∀ v, f v = g v) : zgI h r t k f = zgI h r t k g := by rw [funext e]
theorem zgR_c {f g : Option Nat → Option α} (e : ∀ v, f v = g v) : zgR h r t k f = zgR h r t k g := by rw [funext e]
theorem zpI_c {f g : zH → Option α} (e : ∀ v, f v = g v) : zpI h r t k x f = zpI h r t k x g := by rw [funext e]
theorem zpZ_c {f g : zH → Option α} (e : ∀ v, f v = g v) : zpZ h r t k x f = zpZ h r t k x g := by rw [funext e]
theorem zpR_c {f g : zH → Option α} (e : ∀ v, f v = g v) : zpR h r t k q f = zpR h r t k q g := by rw [funext e]
theorem zaI_c {f g : Int32 → Option α} (e : ∀ v, f v = g v) : zaI h r x f = zaI h r x g := by rw [funext e]
theorem zaB_c {f g : Int32 → Option α} (e : ∀ v, f v = g v) : zaB h r x f = zaB h r x g := by rw [funext e]
theorem zaR_c {f g : Option Nat → Option α} (e : ∀ v, f v = g v) : zaR h r x f = zaR h r x g := by rw [funext e]
theorem ztI_c {f g : zH → Option α} (e : ∀ v, f v = g v) : ztI h r x y f = ztI h r x y g := by rw [funext e]
theorem ztB_c {f g : zH → Option α} (e : ∀ v, f v = g v) : ztB h r x y f = ztB h r x y g := by rw [funext e]
theorem ztR_c {f g : zH → Option α} (e : ∀ v, f v = g v) : ztR h r x q f = ztR h r x q g := by rw [funext e]
theorem zal_c {f g : Int32 → Option α} (e : ∀ v, f v = g v) : zal h r f = zal h r g := by rw [funext e]
theorem zno_c {f g : Option Nat → zH → Option α} (e : ∀ v w, f v w = g v w) : zno h t f = zno h t g := by rw [funext fun v => funext (e v)]
theorem zna_c {f g : Option Nat → zH → Option α} (e : ∀ v w, f v w = g v w) : zna h t x f = zna h t x g := by rw [funext fun v => funext (e v)]
theorem zca_c {f g : Option α} (e : f = g) : zca h t r f = zca h t r g := by rw [e]
theorem zcO_c {f g : Option Nat → zH → Option α} (e : ∀ v w, f v w = g v w) : zcO h r x f = zcO h r x g := by rw [funext fun v => funext (e v)]
theorem zdv_c {f g : Option α} (e : f = g) : zdv x f = zdv x g := by rw [e]
theorem zvr_c {f g : Option α} (e : f = g) : zvr h r t f = zvr h r t g := by rw [e]
theorem zcM_c {dp n : Int32} {f g : zH → Option α} (e : ∀ v, f v = g v) : zcM h r x q dp n f = zcM h r x q dp n g := by rw [funext e]
theorem zul_c {f g f2 g2 : Option α} (e : f = f2) (e2 : g = g2) : zul r f g = zul r f2 g2 := by rw [e, e2]
theorem zac_c {f g f2 g2 : Option α} (e : f = f2) (e2 : g = g2) : zac r q f g = zac r q f2 g2 := by rw [e, e2]
theorem zif_c {c : Prop} [Decidable c] {f g f2 g2 : Option α} (e : f = f2) (e2 : g = g2) : (if c then f else g) = if c then f2 else g2 := by rw [e, e2]
theorem zcI_c {as : List zV} {f g : Int32 → zH → Option α} (e : ∀ v w, f v w = g v w) : zcI k as h f = zcI k as h g := by rw [funext fun v => funext (e v)]
theorem zcR_c {as : List zV} {f g : Option Nat → zH → Option α} (e : ∀ v w, f v w = g v w) : zcR k as h f = zcR k as h g := by rw [funext fun v => funext (e v)]
theorem zcV_c {as : List zV} {f g : zH → Option α} (e : ∀ v, f v = g v) : zcV k as h f = zcV k as h g := by rw [funext e]
end ZCg
section ZY
variable {m pc : Nat} {ls : zLs} {st st' as : List zV} {h : zH} {len a b pos N t k : Nat} {n : Int} {r : Option Nat}
theorem zle {x y : Nat} (h : Nat.ble x y = true) : x ≤ y := Nat.le_of_ble_eq_true h
theorem zv_stI (hc : zcod m pc = some (.invokestatic k, len, a, b, pos, n)) (ha : ¬ (a = 1000 ∨ a = 36)) (hp : zpop b [] st = some (as, st')) (hL : zL a = N) (hr : zrt a = 1 ∨ zrt a = 2) (hs : Nat.ble (zcs st') 8 = true) (hx : Nat.ble (zexp as).length N = true) : zev m pc ls st h = zcI a as h (fun x h => zev m (pc + 3) ls (vI x :: st') h) := (zv_st hc ha hp (zle hs) (by rw [hL]; exact zle hx)).trans (zbI hr)
theorem zv_stR (hc : zcod m pc = some (.invokestatic k, len, a, b, pos, n)) (ha : ¬ (a = 1000 ∨ a = 36)) (hp : zpop b [] st = some (as, st')) (hL : zL a = N) (hr : zrt a = 3) (hs : Nat.ble (zcs st') 8 = true) (hx : Nat.ble (zexp as).length N = true) : zev m pc ls st h = zcR a as h (fun x h => zev m (pc + 3) ls (vR x :: st') h) := (zv_st hc ha hp (zle hs) (by rw [hL]; exact zle hx)).trans (zbR hr)
theorem zv_stV (hc : zcod m pc = some (.invokestatic k, len, a, b, pos, n)) (ha : ¬ (a = 1000 ∨ a = 36)) (hp : zpop b [] st = some (as, st')) (hL : zL a = N) (hr : zrt a = 0) (hs : Nat.ble (zcs st') 8 = true) (hx : Nat.ble (zexp as).length N = true) : zev m pc ls st h = zcV a as h (fun h => zev m (pc + 3) ls st' h) := (zv_st hc ha hp (zle hs) (by rw [hL]; exact zle hx)).trans (zbV hr)
theorem zv_spI (hc : zcod m pc = some (.invokespecial k, len, a, b, pos, n)) (ha : ¬ a = 1) (hp : zpop b [] st = some (as, vR r :: st')) (hL : zL a = N) (hr : zrt a = 1 ∨ zrt a = 2) (hs : Nat.ble (zcs st') 8 = true) (hx : Nat.ble (zexp (vR none :: as)).length N = true) : zev m pc ls st h = zul r none (zcI a (vR r :: as) h (fun x h => zev m (pc + 3) ls (vI x :: st') h)) := (zv_sp hc ha hp (zle hs) (by rw [hL]; exact zle hx)).trans (zul_c rfl (zbI hr))
theorem zv_spR (hc : zcod m pc = some (.invokespecial k, len, a, b, pos, n)) (ha : ¬ a = 1) (hp : zpop b [] st = some (as, vR r :: st')) (hL : zL a = N) (hr : zrt a = 3) (hs : Nat.ble (zcs st') 8 = true) (hx : Nat.ble (zexp (vR none :: as)).length N = true) : zev m pc ls st h = zul r none (zcR a (vR r :: as) h (fun x h => zev m (pc + 3) ls (vR x :: st') h)) := (zv_sp hc ha hp (zle hs) (by rw [hL]; exact zle hx)).trans (zul_c rfl (zbR hr))
theorem zv_spV (hc : zcod m pc = some (.invokespecial k, len, a, b, pos, n)) (ha : ¬ a = 1) (hp : zpop b [] st = some (as, vR r :: st')) (hL : zL a = N) (hr : zrt a = 0) (hs : Nat.ble (zcs st') 8 = true) (hx : Nat.ble (zexp (vR none :: as)).length N = true) : zev m pc ls st h = zul r none (zcV a (vR r :: as) h (fun h => zev m (pc + 3) ls st' h)) := (zv_sp hc ha hp (zle hs) (by rw [hL]; exact zle hx)).trans (zul_c rfl (zbV hr))
theorem zv_viI (hc : zcod m pc = some (.invokevirtual k, len, a, b, pos, n)) (ht : zcn a = t) (hp : zpop b [] st = some (as, vR r :: st')) (hL : zL a = N) (hr : zrt a = 1 ∨ zrt a = 2) (hs : Nat.ble (zcs st') 8 = true) (hx : Nat.ble (zexp (vR none :: as)).length N = true) : zev m pc ls st h = zvr h r t (zcI a (vR r :: as) h (fun x h => zev m (pc + 3) ls (vI x :: st') h)) := (zv_vi hc ht hp (zle hs) (by rw [hL]; exact zle hx)).trans (zvr_c (zbI hr))
theorem zv_viR (hc : zcod m pc = some (.invokevirtual k, len, a, b, pos, n)) (ht : zcn a = t) (hp : zpop b [] st = some (as, vR r :: st')) (hL : zL a = N) (hr : zrt a = 3) (hs : Nat.ble (zcs st') 8 = true) (hx : Nat.ble (zexp (vR none :: as)).length N = true) : zev m pc ls st h = zvr h r t (zcR a (vR r :: as) h (fun x h => zev m (pc + 3) ls (vR x :: st') h)) := (zv_vi hc ht hp (zle hs) (by rw [hL]; exact zle hx)).trans (zvr_c (zbR hr))
theorem zv_viV (hc : zcod m pc = some (.invokevirtual k, len, a, b, pos, n)) (ht : zcn a = t) (hp : zpop b [] st = some (as, vR r :: st')) (hL : zL a = N) (hr : zrt a = 0) (hs : Nat.ble (zcs st') 8 = true) (hx : Nat.ble (zexp (vR none :: as)).length N = true) : zev m pc ls st h = zvr h r t (zcV a (vR r :: as) h (fun h => zev m (pc + 3) ls st' h)) := (zv_vi hc ht hp (zle hs) (by rw [hL]; exact zle hx)).trans (zvr_c (zbV hr))
end ZY
/-- a tableswitch from 0 on -/
noncomputable def zsl (m : Nat) (ls : zLs) (st : List zV) (h : zH) (x : Int32) (d : Nat) (T : List Nat) (k : Nat) : Option (Option zV × zH) := match T with
  | [] => zev m d ls st h
  | t :: r => if x = Int32.ofNat k then zev m t ls st h else zsl m ls st h x d r (k + 1)
theorem zsl_out (m : Nat) (ls : zLs) (st : List zV) (h : zH) (x : Int32) (d : Nat) : ∀ (T : List Nat) (k : Nat), k + T.length < 2 ^ 31 → (x.toInt < k ∨ (k : Int) + T.length ≤ x.toInt) → zsl m ls st h x d T k = zev m d ls st h
  | [], _, _, _ => rfl
  | t :: r, k, hk, hx => by
    rw [List.length_cons] at hk hx
    have hne : ¬ x = Int32.ofNat k := by
      intro q
      have : x.toInt = (k : Int) := by rw [q]; exact Int32.toInt_ofNat_of_lt (by omega)
      omega
    unfold zsl
    rw [if_neg hne]
    exact zsl_out m ls st h x d r (k + 1) (by omega) (by omega)
theorem zsl_in (m : Nat) (ls : zLs) (st : List zV) (h : zH) (x : Int32) (d : Nat) : ∀ (T : List Nat) (k j t : Nat), k + T.length < 2 ^ 31 → x.toInt = (k : Int) + j → T[j]? = some t → zsl m ls st h x d T k = zev m t ls st h
  | [], _, _, _, _, _, h => by simp at h
  | t :: r, k, 0, u, hk, hx, hu => by
    rw [List.length_cons] at hk
    have he : x = Int32.ofNat k := by
      apply Int32.toInt_inj.mp
      rw [Int32.toInt_ofNat_of_lt (by omega)]
      omega
    unfold zsl
    rw [if_pos he]
    simp at hu
    rw [hu]
  | t :: r, k, j + 1, u, hk, hx, hu => by
    rw [List.length_cons] at hk
    have hne : ¬ x = Int32.ofNat k := by
      intro q
      have : x.toInt = (k : Int) := by rw [q]; exact Int32.toInt_ofNat_of_lt (by omega)
      omega
    unfold zsl
    rw [if_neg hne]
    exact zsl_in m ls st h x d r (k + 1) j u (by omega) (by omega) (by simpa using hu)
theorem zv_ts {m pc : Nat} {ls : zLs} {st : List zV} {h : zH} {len a b pos : Nat} {n : Int} {d hi : Int} {offs : Array Int} {x : Int32} {T : List Nat} {dt : Nat} (hc : zcod m pc = some (.tableswitch d 0 hi offs, len, a, b, pos, n)) (hd : ((pc : Int) + d).toNat = dt) (hT : offs.toList.map (fun o => ((pc : Int) + o).toNat) = T) (hh : hi + 1 = (T.length : Int)) (hs : T.length < 1000) : zev m pc ls (vI x :: st) h = zsl m ls st h x dt T 0 := by
  by_cases ho : x.toInt < 0 ∨ hi < x.toInt
  · rw [zsl_out m ls st h x dt T 0 (by omega) (by omega)]
    refine zv_p hc ?_
    simp only [zp1]
    rw [if_pos ho, hd]
  · have hj : (x.toInt - 0).toNat < T.length := by omega
    have hj2 : (x.toInt - 0).toNat < offs.size := by rw [← hT, List.length_map, Array.length_toList] at hj; exact hj
    have hTj : T[(x.toInt - 0).toNat]? = some (((pc : Int) + offs[(x.toInt - 0).toNat]).toNat) := by
      rw [← hT, List.getElem?_map, Array.getElem?_toList, Array.getElem?_eq_getElem hj2]
      rfl
    rw [zsl_in m ls st h x dt T 0 _ _ (by omega) (by omega) hTj]
    refine zv_p hc ?_
    simp only [zp1]
    rw [if_neg ho, Array.getElem?_eq_getElem hj2]
    rfl
theorem zv_lk {m pc : Nat} {ls : zLs} {st : List zV} {h : zH} {len a b pos : Nat} {n : Int} {d : Int} {ps : Array (Int × Int)} {x : Int32} (hc : zcod m pc = some (.lookupswitch d ps, len, a, b, pos, n)) : zev m pc ls (vI x :: st) h = zev m (((pc : Int) + Op.lookupswitch.offset ps.toList d x.toInt).toNat) ls st h := zv_p hc rfl
theorem zv_lk3 {m pc : Nat} {ls : zLs} {st : List zV} {h : zH} {len a b pos : Nat} {n : Int} {d o1 o2 o3 : Int} {k1 k2 k3 x : Int32} {i1 i2 i3 : Int} {t1 t2 t3 dt : Nat} (hc : zcod m pc = some (.lookupswitch d #[(i1, o1), (i2, o2), (i3, o3)], len, a, b, pos, n)) (e1 : k1.toInt = i1) (e2 : k2.toInt = i2) (e3 : k3.toInt = i3) (h1 : ((pc : Int) + o1).toNat = t1) (h2 : ((pc : Int) + o2).toNat = t2) (h3 : ((pc : Int) + o3).toNat = t3) (hd : ((pc : Int) + d).toNat = dt) : zev m pc ls (vI x :: st) h = if x = k1 then zev m t1 ls st h else if x = k2 then zev m t2 ls st h else if x = k3 then zev m t3 ls st h else zev m dt ls st h := by
  have key : ∀ {k : Int32} {i : Int}, k.toInt = i → (i = x.toInt ↔ x = k) := fun {k i} e => ⟨fun q => Int32.toInt_inj.mp (q.symm.trans e.symm), fun q => by rw [q, e]⟩
  rw [zv_lk hc]
  simp only [Op.lookupswitch.offset_cons, key e1, key e2, key e3]
  by_cases c1 : x = k1
  · rw [if_pos c1, if_pos c1, h1]
  · rw [if_neg c1, if_neg c1]
    by_cases c2 : x = k2
    · rw [if_pos c2, if_pos c2, h2]
    · rw [if_neg c2, if_neg c2]
      by_cases c3 : x = k3
      · rw [if_pos c3, if_pos c3, h3]
      · rw [if_neg c3, if_neg c3, ← hd]
        rfl
