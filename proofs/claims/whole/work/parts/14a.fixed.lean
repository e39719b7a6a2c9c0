/-- the fixed cells of the class: PaperTown 8, Text 9 (bytes 10, numbers 11), Office 12, Plat 13 (cells 14, vacated 15, lots 16), People 17 (purses 18) -/
def CS (h : zH) : Prop := 45 ≤ zn h ∧ zk h 8 = (8, 2) ∧ zk h 9 = (6, 6) ∧ zk h 12 = (3, 9) ∧ zk h 13 = (5, 5) ∧ zk h 17 = (4, 2) ∧ zr h 8 0 = some 9 ∧ zr h 8 1 = some 12 ∧ zr h 9 0 = some 10 ∧ zr h 9 1 = some 11 ∧ zr h 12 0 = some 13 ∧ zr h 12 1 = some 17 ∧ zr h 13 0 = some 14 ∧ zr h 13 1 = some 15 ∧ zr h 13 2 = some 16 ∧ zr h 17 0 = some 18 ∧ zk h 10 = (101, 200) ∧ zk h 11 = (100, 5) ∧ zk h 14 = (100, 320) ∧ zk h 15 = (102, 12) ∧ zk h 18 = (100, 20) ∧ zk h 1 = (100, 5) ∧ zk h 2 = (100, 5) ∧ zk h 3 = (100, 4) ∧ zk h 4 = (100, 4) ∧ zk h 5 = (100, 4) ∧ zk h 6 = (100, 4) ∧ zk h 7 = (103, 0)
section ZCS
variable {h : zH} {a k : Nat} {x : Int32} {α : Type}
theorem CS_ui : CS (zui h a k x) = CS h := rfl
theorem C_n (H : CS h) : 45 ≤ zn h := H.1
theorem Cv8 {f : Option α} (H : CS h) : zvr h (some 8) 8 f = f := vr_k (by decide) (Nat.lt_of_lt_of_le (by decide) H.1) H.2.1
theorem Cr8_0 {f : Option Nat → Option α} (H : CS h) : zgR h (some 8) 8 0 f = f (some 9) := by
  rw [gR_k (by decide) (Nat.lt_of_lt_of_le (by decide) H.1) H.2.1 (by decide), H.2.2.2.2.2.2.1]
theorem Cr8_1 {f : Option Nat → Option α} (H : CS h) : zgR h (some 8) 8 1 f = f (some 12) := by
  rw [gR_k (by decide) (Nat.lt_of_lt_of_le (by decide) H.1) H.2.1 (by decide), H.2.2.2.2.2.2.2.1]
theorem Cv9 {f : Option α} (H : CS h) : zvr h (some 9) 6 f = f := vr_k (by decide) (Nat.lt_of_lt_of_le (by decide) H.1) H.2.2.1
theorem Cr9_0 {f : Option Nat → Option α} (H : CS h) : zgR h (some 9) 6 0 f = f (some 10) := by
  rw [gR_k (by decide) (Nat.lt_of_lt_of_le (by decide) H.1) H.2.2.1 (by decide), H.2.2.2.2.2.2.2.2.1]
theorem Cr9_1 {f : Option Nat → Option α} (H : CS h) : zgR h (some 9) 6 1 f = f (some 11) := by
  rw [gR_k (by decide) (Nat.lt_of_lt_of_le (by decide) H.1) H.2.2.1 (by decide), H.2.2.2.2.2.2.2.2.2.1]
theorem Ci9_2 {f : Int32 → Option α} (H : CS h) : zgI h (some 9) 6 2 f = f (zi h 9 2) := gI_k (by decide) (Nat.lt_of_lt_of_le (by decide) H.1) H.2.2.1 (by decide)
theorem Cp9_2 {f : zH → Option α} (H : CS h) : zpI h (some 9) 6 2 x f = f (zui h 9 2 x) := pI_k (by decide) (Nat.lt_of_lt_of_le (by decide) H.1) H.2.2.1 (by decide)
theorem Ci9_3 {f : Int32 → Option α} (H : CS h) : zgI h (some 9) 6 3 f = f (zi h 9 3) := gI_k (by decide) (Nat.lt_of_lt_of_le (by decide) H.1) H.2.2.1 (by decide)
theorem Cp9_3 {f : zH → Option α} (H : CS h) : zpI h (some 9) 6 3 x f = f (zui h 9 3 x) := pI_k (by decide) (Nat.lt_of_lt_of_le (by decide) H.1) H.2.2.1 (by decide)
theorem Ci9_4 {f : Int32 → Option α} (H : CS h) : zgI h (some 9) 6 4 f = f (zi h 9 4) := gI_k (by decide) (Nat.lt_of_lt_of_le (by decide) H.1) H.2.2.1 (by decide)
theorem Cp9_4 {f : zH → Option α} (H : CS h) : zpI h (some 9) 6 4 x f = f (zui h 9 4 x) := pI_k (by decide) (Nat.lt_of_lt_of_le (by decide) H.1) H.2.2.1 (by decide)
theorem Ci9_5 {f : Int32 → Option α} (H : CS h) : zgI h (some 9) 6 5 f = f (zi h 9 5) := gI_k (by decide) (Nat.lt_of_lt_of_le (by decide) H.1) H.2.2.1 (by decide)
theorem Cp9_5 {f : zH → Option α} (H : CS h) : zpI h (some 9) 6 5 x f = f (zui h 9 5 x) := pI_k (by decide) (Nat.lt_of_lt_of_le (by decide) H.1) H.2.2.1 (by decide)
theorem Cv12 {f : Option α} (H : CS h) : zvr h (some 12) 3 f = f := vr_k (by decide) (Nat.lt_of_lt_of_le (by decide) H.1) H.2.2.2.1
theorem Cr12_0 {f : Option Nat → Option α} (H : CS h) : zgR h (some 12) 3 0 f = f (some 13) := by
  rw [gR_k (by decide) (Nat.lt_of_lt_of_le (by decide) H.1) H.2.2.2.1 (by decide), H.2.2.2.2.2.2.2.2.2.2.1]
theorem Cr12_1 {f : Option Nat → Option α} (H : CS h) : zgR h (some 12) 3 1 f = f (some 17) := by
  rw [gR_k (by decide) (Nat.lt_of_lt_of_le (by decide) H.1) H.2.2.2.1 (by decide), H.2.2.2.2.2.2.2.2.2.2.2.1]
theorem Ci12_2 {f : Int32 → Option α} (H : CS h) : zgI h (some 12) 3 2 f = f (zi h 12 2) := gI_k (by decide) (Nat.lt_of_lt_of_le (by decide) H.1) H.2.2.2.1 (by decide)
theorem Cp12_2 {f : zH → Option α} (H : CS h) : zpI h (some 12) 3 2 x f = f (zui h 12 2 x) := pI_k (by decide) (Nat.lt_of_lt_of_le (by decide) H.1) H.2.2.2.1 (by decide)
theorem Ci12_3 {f : Int32 → Option α} (H : CS h) : zgI h (some 12) 3 3 f = f (zi h 12 3) := gI_k (by decide) (Nat.lt_of_lt_of_le (by decide) H.1) H.2.2.2.1 (by decide)
theorem Cp12_3 {f : zH → Option α} (H : CS h) : zpI h (some 12) 3 3 x f = f (zui h 12 3 x) := pI_k (by decide) (Nat.lt_of_lt_of_le (by decide) H.1) H.2.2.2.1 (by decide)
theorem Ci12_4 {f : Int32 → Option α} (H : CS h) : zgI h (some 12) 3 4 f = f (zi h 12 4) := gI_k (by decide) (Nat.lt_of_lt_of_le (by decide) H.1) H.2.2.2.1 (by decide)
theorem Cp12_4 {f : zH → Option α} (H : CS h) : zpI h (some 12) 3 4 x f = f (zui h 12 4 x) := pI_k (by decide) (Nat.lt_of_lt_of_le (by decide) H.1) H.2.2.2.1 (by decide)
theorem Ci12_5 {f : Int32 → Option α} (H : CS h) : zgI h (some 12) 3 5 f = f (zi h 12 5) := gI_k (by decide) (Nat.lt_of_lt_of_le (by decide) H.1) H.2.2.2.1 (by decide)
theorem Cp12_5 {f : zH → Option α} (H : CS h) : zpI h (some 12) 3 5 x f = f (zui h 12 5 x) := pI_k (by decide) (Nat.lt_of_lt_of_le (by decide) H.1) H.2.2.2.1 (by decide)
theorem Ci12_6 {f : Int32 → Option α} (H : CS h) : zgI h (some 12) 3 6 f = f (zi h 12 6) := gI_k (by decide) (Nat.lt_of_lt_of_le (by decide) H.1) H.2.2.2.1 (by decide)
theorem Cp12_6 {f : zH → Option α} (H : CS h) : zpI h (some 12) 3 6 x f = f (zui h 12 6 x) := pI_k (by decide) (Nat.lt_of_lt_of_le (by decide) H.1) H.2.2.2.1 (by decide)
theorem Ci12_7 {f : Int32 → Option α} (H : CS h) : zgI h (some 12) 3 7 f = f (zi h 12 7) := gI_k (by decide) (Nat.lt_of_lt_of_le (by decide) H.1) H.2.2.2.1 (by decide)
theorem Cp12_7 {f : zH → Option α} (H : CS h) : zpI h (some 12) 3 7 x f = f (zui h 12 7 x) := pI_k (by decide) (Nat.lt_of_lt_of_le (by decide) H.1) H.2.2.2.1 (by decide)
theorem Ci12_8 {f : Int32 → Option α} (H : CS h) : zgI h (some 12) 3 8 f = f (zi h 12 8) := gI_k (by decide) (Nat.lt_of_lt_of_le (by decide) H.1) H.2.2.2.1 (by decide)
theorem Cp12_8 {f : zH → Option α} (H : CS h) : zpI h (some 12) 3 8 x f = f (zui h 12 8 x) := pI_k (by decide) (Nat.lt_of_lt_of_le (by decide) H.1) H.2.2.2.1 (by decide)
theorem Cv13 {f : Option α} (H : CS h) : zvr h (some 13) 5 f = f := vr_k (by decide) (Nat.lt_of_lt_of_le (by decide) H.1) H.2.2.2.2.1
theorem Cr13_0 {f : Option Nat → Option α} (H : CS h) : zgR h (some 13) 5 0 f = f (some 14) := by
  rw [gR_k (by decide) (Nat.lt_of_lt_of_le (by decide) H.1) H.2.2.2.2.1 (by decide), H.2.2.2.2.2.2.2.2.2.2.2.2.1]
theorem Cr13_1 {f : Option Nat → Option α} (H : CS h) : zgR h (some 13) 5 1 f = f (some 15) := by
  rw [gR_k (by decide) (Nat.lt_of_lt_of_le (by decide) H.1) H.2.2.2.2.1 (by decide), H.2.2.2.2.2.2.2.2.2.2.2.2.2.1]
theorem Cr13_2 {f : Option Nat → Option α} (H : CS h) : zgR h (some 13) 5 2 f = f (some 16) := by
  rw [gR_k (by decide) (Nat.lt_of_lt_of_le (by decide) H.1) H.2.2.2.2.1 (by decide), H.2.2.2.2.2.2.2.2.2.2.2.2.2.2.1]
theorem Ci13_3 {f : Int32 → Option α} (H : CS h) : zgI h (some 13) 5 3 f = f (zi h 13 3) := gI_k (by decide) (Nat.lt_of_lt_of_le (by decide) H.1) H.2.2.2.2.1 (by decide)
theorem Cp13_3 {f : zH → Option α} (H : CS h) : zpI h (some 13) 5 3 x f = f (zui h 13 3 x) := pI_k (by decide) (Nat.lt_of_lt_of_le (by decide) H.1) H.2.2.2.2.1 (by decide)
theorem Ci13_4 {f : Int32 → Option α} (H : CS h) : zgI h (some 13) 5 4 f = f (zi h 13 4) := gI_k (by decide) (Nat.lt_of_lt_of_le (by decide) H.1) H.2.2.2.2.1 (by decide)
theorem Cp13_4 {f : zH → Option α} (H : CS h) : zpI h (some 13) 5 4 x f = f (zui h 13 4 x) := pI_k (by decide) (Nat.lt_of_lt_of_le (by decide) H.1) H.2.2.2.2.1 (by decide)
theorem Cv17 {f : Option α} (H : CS h) : zvr h (some 17) 4 f = f := vr_k (by decide) (Nat.lt_of_lt_of_le (by decide) H.1) H.2.2.2.2.2.1
theorem Cr17_0 {f : Option Nat → Option α} (H : CS h) : zgR h (some 17) 4 0 f = f (some 18) := by
  rw [gR_k (by decide) (Nat.lt_of_lt_of_le (by decide) H.1) H.2.2.2.2.2.1 (by decide), H.2.2.2.2.2.2.2.2.2.2.2.2.2.2.2.1]
theorem Ci17_1 {f : Int32 → Option α} (H : CS h) : zgI h (some 17) 4 1 f = f (zi h 17 1) := gI_k (by decide) (Nat.lt_of_lt_of_le (by decide) H.1) H.2.2.2.2.2.1 (by decide)
theorem Cp17_1 {f : zH → Option α} (H : CS h) : zpI h (some 17) 4 1 x f = f (zui h 17 1 x) := pI_k (by decide) (Nat.lt_of_lt_of_le (by decide) H.1) H.2.2.2.2.2.1 (by decide)
theorem Ca10 {f : Int32 → Option α} {i : Nat} (H : CS h) (hi : i < 200) : zaB h (some 10) (nI i) f = f (zi h 10 i) := aB_k (by decide) (Nat.lt_of_lt_of_le (by decide) H.1) (Or.inl rfl) H.2.2.2.2.2.2.2.2.2.2.2.2.2.2.2.2.1 hi (by decide)
theorem Ct10 {f : zH → Option α} {i : Nat} (H : CS h) (hi : i < 200) : ztB h (some 10) (nI i) x f = f (zui h 10 i x.toInt8.toInt32) := tY_k (by decide) (Nat.lt_of_lt_of_le (by decide) H.1) H.2.2.2.2.2.2.2.2.2.2.2.2.2.2.2.2.1 hi (by decide)
theorem Cl10 {f : Int32 → Option α} (H : CS h) : zal h (some 10) f = f (nI 200) := al_k (Nat.lt_of_lt_of_le (by decide) H.1) H.2.2.2.2.2.2.2.2.2.2.2.2.2.2.2.2.1 (by decide)
theorem Ca11 {f : Int32 → Option α} {i : Nat} (H : CS h) (hi : i < 5) : zaI h (some 11) (nI i) f = f (zi h 11 i) := aI_k (Nat.lt_of_lt_of_le (by decide) H.1) H.2.2.2.2.2.2.2.2.2.2.2.2.2.2.2.2.2.1 hi (by decide)
theorem Ct11 {f : zH → Option α} {i : Nat} (H : CS h) (hi : i < 5) : ztI h (some 11) (nI i) x f = f (zui h 11 i x) := tI_k (by decide) (Nat.lt_of_lt_of_le (by decide) H.1) H.2.2.2.2.2.2.2.2.2.2.2.2.2.2.2.2.2.1 hi (by decide)
theorem Cl11 {f : Int32 → Option α} (H : CS h) : zal h (some 11) f = f (nI 5) := al_k (Nat.lt_of_lt_of_le (by decide) H.1) H.2.2.2.2.2.2.2.2.2.2.2.2.2.2.2.2.2.1 (by decide)
theorem Ca14 {f : Int32 → Option α} {i : Nat} (H : CS h) (hi : i < 320) : zaI h (some 14) (nI i) f = f (zi h 14 i) := aI_k (Nat.lt_of_lt_of_le (by decide) H.1) H.2.2.2.2.2.2.2.2.2.2.2.2.2.2.2.2.2.2.1 hi (by decide)
theorem Ct14 {f : zH → Option α} {i : Nat} (H : CS h) (hi : i < 320) : ztI h (some 14) (nI i) x f = f (zui h 14 i x) := tI_k (by decide) (Nat.lt_of_lt_of_le (by decide) H.1) H.2.2.2.2.2.2.2.2.2.2.2.2.2.2.2.2.2.2.1 hi (by decide)
theorem Cl14 {f : Int32 → Option α} (H : CS h) : zal h (some 14) f = f (nI 320) := al_k (Nat.lt_of_lt_of_le (by decide) H.1) H.2.2.2.2.2.2.2.2.2.2.2.2.2.2.2.2.2.2.1 (by decide)
theorem Ca15 {f : Int32 → Option α} {i : Nat} (H : CS h) (hi : i < 12) : zaB h (some 15) (nI i) f = f (zi h 15 i) := aB_k (by decide) (Nat.lt_of_lt_of_le (by decide) H.1) (Or.inr rfl) H.2.2.2.2.2.2.2.2.2.2.2.2.2.2.2.2.2.2.2.1 hi (by decide)
theorem Ct15 {f : zH → Option α} {i : Nat} (H : CS h) (hi : i < 12) (hx : x = 0 ∨ x = 1) : ztB h (some 15) (nI i) x f = f (zui h 15 i x) := tZ_k (by decide) (Nat.lt_of_lt_of_le (by decide) H.1) H.2.2.2.2.2.2.2.2.2.2.2.2.2.2.2.2.2.2.2.1 hi (by decide) hx
theorem Cl15 {f : Int32 → Option α} (H : CS h) : zal h (some 15) f = f (nI 12) := al_k (Nat.lt_of_lt_of_le (by decide) H.1) H.2.2.2.2.2.2.2.2.2.2.2.2.2.2.2.2.2.2.2.1 (by decide)
theorem Ca18 {f : Int32 → Option α} {i : Nat} (H : CS h) (hi : i < 20) : zaI h (some 18) (nI i) f = f (zi h 18 i) := aI_k (Nat.lt_of_lt_of_le (by decide) H.1) H.2.2.2.2.2.2.2.2.2.2.2.2.2.2.2.2.2.2.2.2.1 hi (by decide)
theorem Ct18 {f : zH → Option α} {i : Nat} (H : CS h) (hi : i < 20) : ztI h (some 18) (nI i) x f = f (zui h 18 i x) := tI_k (by decide) (Nat.lt_of_lt_of_le (by decide) H.1) H.2.2.2.2.2.2.2.2.2.2.2.2.2.2.2.2.2.2.2.2.1 hi (by decide)
theorem Cl18 {f : Int32 → Option α} (H : CS h) : zal h (some 18) f = f (nI 20) := al_k (Nat.lt_of_lt_of_le (by decide) H.1) H.2.2.2.2.2.2.2.2.2.2.2.2.2.2.2.2.2.2.2.2.1 (by decide)
theorem Ca1 {f : Int32 → Option α} {i : Nat} (H : CS h) (hi : i < 5) : zaI h (some 1) (nI i) f = f (zi h 1 i) := aI_k (Nat.lt_of_lt_of_le (by decide) H.1) H.2.2.2.2.2.2.2.2.2.2.2.2.2.2.2.2.2.2.2.2.2.1 hi (by decide)
theorem Cl1 {f : Int32 → Option α} (H : CS h) : zal h (some 1) f = f (nI 5) := al_k (Nat.lt_of_lt_of_le (by decide) H.1) H.2.2.2.2.2.2.2.2.2.2.2.2.2.2.2.2.2.2.2.2.2.1 (by decide)
theorem Ca2 {f : Int32 → Option α} {i : Nat} (H : CS h) (hi : i < 5) : zaI h (some 2) (nI i) f = f (zi h 2 i) := aI_k (Nat.lt_of_lt_of_le (by decide) H.1) H.2.2.2.2.2.2.2.2.2.2.2.2.2.2.2.2.2.2.2.2.2.2.1 hi (by decide)
theorem Cl2 {f : Int32 → Option α} (H : CS h) : zal h (some 2) f = f (nI 5) := al_k (Nat.lt_of_lt_of_le (by decide) H.1) H.2.2.2.2.2.2.2.2.2.2.2.2.2.2.2.2.2.2.2.2.2.2.1 (by decide)
theorem Ca3 {f : Int32 → Option α} {i : Nat} (H : CS h) (hi : i < 4) : zaI h (some 3) (nI i) f = f (zi h 3 i) := aI_k (Nat.lt_of_lt_of_le (by decide) H.1) H.2.2.2.2.2.2.2.2.2.2.2.2.2.2.2.2.2.2.2.2.2.2.2.1 hi (by decide)
theorem Cl3 {f : Int32 → Option α} (H : CS h) : zal h (some 3) f = f (nI 4) := al_k (Nat.lt_of_lt_of_le (by decide) H.1) H.2.2.2.2.2.2.2.2.2.2.2.2.2.2.2.2.2.2.2.2.2.2.2.1 (by decide)
theorem Ca4 {f : Int32 → Option α} {i : Nat} (H : CS h) (hi : i < 4) : zaI h (some 4) (nI i) f = f (zi h 4 i) := aI_k (Nat.lt_of_lt_of_le (by decide) H.1) H.2.2.2.2.2.2.2.2.2.2.2.2.2.2.2.2.2.2.2.2.2.2.2.2.1 hi (by decide)
theorem Cl4 {f : Int32 → Option α} (H : CS h) : zal h (some 4) f = f (nI 4) := al_k (Nat.lt_of_lt_of_le (by decide) H.1) H.2.2.2.2.2.2.2.2.2.2.2.2.2.2.2.2.2.2.2.2.2.2.2.2.1 (by decide)
theorem Ca5 {f : Int32 → Option α} {i : Nat} (H : CS h) (hi : i < 4) : zaI h (some 5) (nI i) f = f (zi h 5 i) := aI_k (Nat.lt_of_lt_of_le (by decide) H.1) H.2.2.2.2.2.2.2.2.2.2.2.2.2.2.2.2.2.2.2.2.2.2.2.2.2.1 hi (by decide)
theorem Cl5 {f : Int32 → Option α} (H : CS h) : zal h (some 5) f = f (nI 4) := al_k (Nat.lt_of_lt_of_le (by decide) H.1) H.2.2.2.2.2.2.2.2.2.2.2.2.2.2.2.2.2.2.2.2.2.2.2.2.2.1 (by decide)
theorem Ca6 {f : Int32 → Option α} {i : Nat} (H : CS h) (hi : i < 4) : zaI h (some 6) (nI i) f = f (zi h 6 i) := aI_k (Nat.lt_of_lt_of_le (by decide) H.1) H.2.2.2.2.2.2.2.2.2.2.2.2.2.2.2.2.2.2.2.2.2.2.2.2.2.2.1 hi (by decide)
theorem Cl6 {f : Int32 → Option α} (H : CS h) : zal h (some 6) f = f (nI 4) := al_k (Nat.lt_of_lt_of_le (by decide) H.1) H.2.2.2.2.2.2.2.2.2.2.2.2.2.2.2.2.2.2.2.2.2.2.2.2.2.2.1 (by decide)
theorem C_7 (H : CS h) : zk h 7 = (103, 0) := H.2.2.2.2.2.2.2.2.2.2.2.2.2.2.2.2.2.2.2.2.2.2.2.2.2.2.2
end ZCS
