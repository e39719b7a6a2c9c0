def RJx4a65c : String := "java/util/ArrayList"
def TJx4a65c : u_T := fun k => match k with
  | 0 => ("java/util/AbstractList", "modCount", "I", false)
  | 1 => ("java/util/ArrayList", "elementData", "[Ljava/lang/Object;", false)
  | _ => ("java/util/ArrayList", "size", "I", false)
def tyJx4a65c : Nat → FieldType := fun k => match k with
  | 0 => .int
  | 1 => .array (.object "java/lang/Object")
  | _ => .int
abbrev wsJx4a65c0 : List Cond := u_ws RJx4a65c TJx4a65c 3
theorem nmJx4a65c : ∀ a, a < 3 → ∀ b, b < 3 → a ≠ b → (TJx4a65c a).2.1 ≠ (TJx4a65c b).2.1 := by decide +kernel
theorem tyJx4a65c_ok : ∀ k, k < 3 → parseFieldDescriptor (TJx4a65c k).2.2.1 = some (tyJx4a65c k) := by decide +kernel
def RX0 : String := "PaperTown$Bid"
def TX0 : u_T := fun k => match k with
  | 0 => ("PaperTown$Bid", "bidder", "I", true)
  | _ => ("PaperTown$Bid", "sum", "I", true)
def tyX0 : Nat → FieldType := fun k => match k with
  | 0 => .int
  | _ => .int
abbrev wsX00 : List Cond := u_ws RX0 TX0 2
theorem nmX0 : ∀ a, a < 2 → ∀ b, b < 2 → a ≠ b → (TX0 a).2.1 ≠ (TX0 b).2.1 := by decide +kernel
theorem tyX0_ok : ∀ k, k < 2 → parseFieldDescriptor (TX0 k).2.2.1 = some (tyX0 k) := by decide +kernel
def RX1 : String := "PaperTown$Lot"
def TX1 : u_T := fun k => match k with
  | 0 => ("PaperTown$Lot", "x", "I", true)
  | 1 => ("PaperTown$Lot", "y", "I", true)
  | 2 => ("PaperTown$Lot", "w", "I", true)
  | 3 => ("PaperTown$Lot", "h", "I", true)
  | 4 => ("PaperTown$Lot", "gift", "Z", true)
  | 5 => ("PaperTown$Lot", "halvesFromStreets", "I", false)
  | 6 => ("PaperTown$Lot", "bids", "Ljava/util/ArrayList;", true)
  | 7 => ("PaperTown$Lot", "owner", "I", false)
  | 8 => ("PaperTown$Lot", "since", "I", false)
  | 9 => ("PaperTown$Lot", "past", "LPaperTown$Title;", false)
  | 10 => ("PaperTown$Lot", "lived", "Z", false)
  | 11 => ("PaperTown$Lot", "owed", "I", false)
  | 12 => ("PaperTown$Lot", "partsLeft", "I", false)
  | 13 => ("PaperTown$Lot", "part", "I", false)
  | 14 => ("PaperTown$Lot", "due", "I", false)
  | 15 => ("PaperTown$Lot", "yearsOut", "I", false)
  | _ => ("PaperTown$Lot", "condition", "I", false)
def tyX1 : Nat → FieldType := fun k => match k with
  | 0 => .int
  | 1 => .int
  | 2 => .int
  | 3 => .int
  | 4 => .boolean
  | 5 => .int
  | 6 => .object "java/util/ArrayList"
  | 7 => .int
  | 8 => .int
  | 9 => .object "PaperTown$Title"
  | 10 => .boolean
  | 11 => .int
  | 12 => .int
  | 13 => .int
  | 14 => .int
  | 15 => .int
  | _ => .int
abbrev wsX10 : List Cond := u_ws RX1 TX1 17
theorem nmX1 : ∀ a, a < 17 → ∀ b, b < 17 → a ≠ b → (TX1 a).2.1 ≠ (TX1 b).2.1 := by decide +kernel
theorem tyX1_ok : ∀ k, k < 17 → parseFieldDescriptor (TX1 k).2.2.1 = some (tyX1 k) := by decide +kernel
def RX2 : String := "PaperTown$Office"
def TX2 : u_T := fun k => match k with
  | 0 => ("PaperTown$Office", "plat", "LPaperTown$Plat;", true)
  | 1 => ("PaperTown$Office", "people", "LPaperTown$People;", true)
  | 2 => ("PaperTown$Office", "now", "I", false)
  | 3 => ("PaperTown$Office", "taxRate", "I", false)
  | 4 => ("PaperTown$Office", "forfeits", "I", false)
  | 5 => ("PaperTown$Office", "takenForTaxes", "I", false)
  | 6 => ("PaperTown$Office", "income", "I", false)
  | 7 => ("PaperTown$Office", "taxesPaid", "I", false)
  | _ => ("PaperTown$Office", "changes", "I", false)
def tyX2 : Nat → FieldType := fun k => match k with
  | 0 => .object "PaperTown$Plat"
  | 1 => .object "PaperTown$People"
  | 2 => .int
  | 3 => .int
  | 4 => .int
  | 5 => .int
  | 6 => .int
  | 7 => .int
  | _ => .int
abbrev wsX20 : List Cond := u_ws RX2 TX2 9
theorem nmX2 : ∀ a, a < 9 → ∀ b, b < 9 → a ≠ b → (TX2 a).2.1 ≠ (TX2 b).2.1 := by decide +kernel
theorem tyX2_ok : ∀ k, k < 9 → parseFieldDescriptor (TX2 k).2.2.1 = some (tyX2 k) := by decide +kernel
def RX3 : String := "PaperTown$People"
def TX3 : u_T := fun k => match k with
  | 0 => ("PaperTown$People", "purses", "[I", true)
  | _ => ("PaperTown$People", "size", "I", false)
def tyX3 : Nat → FieldType := fun k => match k with
  | 0 => .array .int
  | _ => .int
abbrev wsX30 : List Cond := u_ws RX3 TX3 2
theorem nmX3 : ∀ a, a < 2 → ∀ b, b < 2 → a ≠ b → (TX3 a).2.1 ≠ (TX3 b).2.1 := by decide +kernel
theorem tyX3_ok : ∀ k, k < 2 → parseFieldDescriptor (TX3 k).2.2.1 = some (tyX3 k) := by decide +kernel
def RX4 : String := "PaperTown$Plat"
def TX4 : u_T := fun k => match k with
  | 0 => ("PaperTown$Plat", "cells", "[I", true)
  | 1 => ("PaperTown$Plat", "vacated", "[Z", true)
  | 2 => ("PaperTown$Plat", "lots", "Ljava/util/ArrayList;", true)
  | 3 => ("PaperTown$Plat", "streets", "I", false)
  | _ => ("PaperTown$Plat", "haltCell", "I", false)
def tyX4 : Nat → FieldType := fun k => match k with
  | 0 => .array .int
  | 1 => .array .boolean
  | 2 => .object "java/util/ArrayList"
  | 3 => .int
  | _ => .int
abbrev wsX40 : List Cond := u_ws RX4 TX4 5
theorem nmX4 : ∀ a, a < 5 → ∀ b, b < 5 → a ≠ b → (TX4 a).2.1 ≠ (TX4 b).2.1 := by decide +kernel
theorem tyX4_ok : ∀ k, k < 5 → parseFieldDescriptor (TX4 k).2.2.1 = some (tyX4 k) := by decide +kernel
def RX5 : String := "PaperTown$Text"
def TX5 : u_T := fun k => match k with
  | 0 => ("PaperTown$Text", "bytes", "[B", true)
  | 1 => ("PaperTown$Text", "numbers", "[I", true)
  | 2 => ("PaperTown$Text", "length", "I", false)
  | 3 => ("PaperTown$Text", "faultAt", "I", false)
  | 4 => ("PaperTown$Text", "fault", "I", false)
  | _ => ("PaperTown$Text", "pos", "I", false)
def tyX5 : Nat → FieldType := fun k => match k with
  | 0 => .array .byte
  | 1 => .array .int
  | 2 => .int
  | 3 => .int
  | 4 => .int
  | _ => .int
abbrev wsX50 : List Cond := u_ws RX5 TX5 6
theorem nmX5 : ∀ a, a < 6 → ∀ b, b < 6 → a ≠ b → (TX5 a).2.1 ≠ (TX5 b).2.1 := by decide +kernel
theorem tyX5_ok : ∀ k, k < 6 → parseFieldDescriptor (TX5 k).2.2.1 = some (tyX5 k) := by decide +kernel
def RX6 : String := "PaperTown$Title"
def TX6 : u_T := fun k => match k with
  | 0 => ("PaperTown$Title", "owner", "I", true)
  | 1 => ("PaperTown$Title", "since", "I", true)
  | _ => ("PaperTown$Title", "past", "LPaperTown$Title;", true)
def tyX6 : Nat → FieldType := fun k => match k with
  | 0 => .int
  | 1 => .int
  | _ => .object "PaperTown$Title"
abbrev wsX60 : List Cond := u_ws RX6 TX6 3
theorem nmX6 : ∀ a, a < 3 → ∀ b, b < 3 → a ≠ b → (TX6 a).2.1 ≠ (TX6 b).2.1 := by decide +kernel
theorem tyX6_ok : ∀ k, k < 3 → parseFieldDescriptor (TX6 k).2.2.1 = some (tyX6 k) := by decide +kernel
def RX7 : String := "PaperTown"
def TX7 : u_T := fun k => match k with
  | 0 => ("PaperTown", "text", "LPaperTown$Text;", true)
  | _ => ("PaperTown", "office", "LPaperTown$Office;", true)
def tyX7 : Nat → FieldType := fun k => match k with
  | 0 => .object "PaperTown$Text"
  | _ => .object "PaperTown$Office"
abbrev wsX70 : List Cond := u_ws RX7 TX7 2
theorem nmX7 : ∀ a, a < 2 → ∀ b, b < 2 → a ≠ b → (TX7 a).2.1 ≠ (TX7 b).2.1 := by decide +kernel
theorem tyX7_ok : ∀ k, k < 2 → parseFieldDescriptor (TX7 k).2.2.1 = some (tyX7 k) := by decide +kernel
def RX8 : String := "PaperTownModel"
def TX8 : u_T := fun k => match k with
  | 0 => ("PaperTownModel", "text", "[I", true)
  | 1 => ("PaperTownModel", "texted", "I", false)
  | 2 => ("PaperTownModel", "faultPlace", "I", false)
  | 3 => ("PaperTownModel", "cells", "[I", true)
  | 4 => ("PaperTownModel", "draft", "[I", true)
  | 5 => ("PaperTownModel", "lots", "I", false)
  | 6 => ("PaperTownModel", "halves", "[I", true)
  | 7 => ("PaperTownModel", "owners", "[I", true)
  | 8 => ("PaperTownModel", "isGift", "[Z", true)
  | 9 => ("PaperTownModel", "part", "[I", true)
  | 10 => ("PaperTownModel", "lastPart", "[I", true)
  | 11 => ("PaperTownModel", "partsLeft", "[I", true)
  | 12 => ("PaperTownModel", "dueDay", "[I", true)
  | 13 => ("PaperTownModel", "yearsOut", "[I", true)
  | 14 => ("PaperTownModel", "gotDay", "[I", true)
  | 15 => ("PaperTownModel", "condition", "[I", true)
  | 16 => ("PaperTownModel", "streets", "I", false)
  | 17 => ("PaperTownModel", "vacated", "[Z", true)
  | 18 => ("PaperTownModel", "persons", "I", false)
  | 19 => ("PaperTownModel", "money", "[I", true)
  | 20 => ("PaperTownModel", "home", "[I", true)
  | 21 => ("PaperTownModel", "bidMany", "[I", true)
  | 22 => ("PaperTownModel", "bidders", "[I", true)
  | 23 => ("PaperTownModel", "bids", "[I", true)
  | 24 => ("PaperTownModel", "now", "I", false)
  | 25 => ("PaperTownModel", "halt", "I", false)
  | 26 => ("PaperTownModel", "rate", "I", false)
  | 27 => ("PaperTownModel", "forfeits", "I", false)
  | 28 => ("PaperTownModel", "taken", "I", false)
  | 29 => ("PaperTownModel", "got", "I", false)
  | 30 => ("PaperTownModel", "taxes", "I", false)
  | 31 => ("PaperTownModel", "changes", "I", false)
  | 32 => ("PaperTownModel", "changeLot", "[I", true)
  | 33 => ("PaperTownModel", "changeDay", "[I", true)
  | 34 => ("PaperTownModel", "changeOwner", "[I", true)
  | 35 => ("PaperTownModel", "at", "I", false)
  | 36 => ("PaperTownModel", "newLots", "I", false)
  | 37 => ("PaperTownModel", "newStreets", "I", false)
  | 38 => ("PaperTownModel", "numbers", "[I", true)
  | 39 => ("PaperTownModel", "newCells", "[I", true)
  | _ => ("PaperTownModel", "newGift", "[Z", true)
def tyX8 : Nat → FieldType := fun k => match k with
  | 0 => .array .int
  | 1 => .int
  | 2 => .int
  | 3 => .array .int
  | 4 => .array .int
  | 5 => .int
  | 6 => .array .int
  | 7 => .array .int
  | 8 => .array .boolean
  | 9 => .array .int
  | 10 => .array .int
  | 11 => .array .int
  | 12 => .array .int
  | 13 => .array .int
  | 14 => .array .int
  | 15 => .array .int
  | 16 => .int
  | 17 => .array .boolean
  | 18 => .int
  | 19 => .array .int
  | 20 => .array .int
  | 21 => .array .int
  | 22 => .array .int
  | 23 => .array .int
  | 24 => .int
  | 25 => .int
  | 26 => .int
  | 27 => .int
  | 28 => .int
  | 29 => .int
  | 30 => .int
  | 31 => .int
  | 32 => .array .int
  | 33 => .array .int
  | 34 => .array .int
  | 35 => .int
  | 36 => .int
  | 37 => .int
  | 38 => .array .int
  | 39 => .array .int
  | _ => .array .boolean
abbrev wsX80 : List Cond := u_ws RX8 TX8 41
theorem nmX8 : ∀ a, a < 41 → ∀ b, b < 41 → a ≠ b → (TX8 a).2.1 ≠ (TX8 b).2.1 := by decide +kernel
theorem tyX8_ok : ∀ k, k < 41 → parseFieldDescriptor (TX8 k).2.2.1 = some (tyX8 k) := by decide +kernel
abbrev zCl : List vw_C := [(RJx4a65c, TJx4a65c, 3), (RX0, TX0, 2), (RX1, TX1, 17), (RX2, TX2, 9), (RX3, TX3, 2), (RX4, TX4, 5), (RX5, TX5, 6), (RX6, TX6, 3), (RX7, TX7, 2), (RX8, TX8, 41)]
/-- class number t: name, fields, how many -/
def zcl (t : Nat) : vw_C := zCl.getD t (RX0, TX0, 2)
def ztyl : List (Nat → FieldType) := [tyJx4a65c, tyX0, tyX1, tyX2, tyX3, tyX4, tyX5, tyX6, tyX7, tyX8]
def ztf (t : Nat) : Nat → FieldType := ztyl.getD t tyX0
def zG : List Cond := lw_tbl.filter goodWord
theorem zG_in {w : Cond} {i : Nat} (h : lw_tbl[i]? = some w) (hg : goodWord w = true) : w ∈ zG := List.mem_filter.mpr ⟨List.mem_of_getElem? h, hg⟩
theorem zG_good {w : Cond} (h : w ∈ zG) : goodWord w = true := (List.mem_filter.mp h).2
theorem zG_tbl {w : Cond} (h : w ∈ zG) : w ∈ lw_tbl := (List.mem_filter.mp h).1
theorem zlt10 {P : Nat → Prop} (h0 : P 0) (h1 : P 1) (h2 : P 2) (h3 : P 3) (h4 : P 4) (h5 : P 5) (h6 : P 6) (h7 : P 7) (h8 : P 8) (h9 : P 9) : ∀ t, t < 10 → P t := by
  intro t ht
  match t, ht with
  | 0, _ => exact h0
  | 1, _ => exact h1
  | 2, _ => exact h2
  | 3, _ => exact h3
  | 4, _ => exact h4
  | 5, _ => exact h5
  | 6, _ => exact h6
  | 7, _ => exact h7
  | 8, _ => exact h8
  | 9, _ => exact h9
  | n + 10, h => exact absurd h (by omega)
/-- where the words of class t's fields stand -/
def zlayp : List (List Nat) := [[138, 134, 136], [609, 611], [353, 355, 357, 359, 361, 363, 365, 367, 369, 371, 373, 375, 377, 379, 381, 383, 385], [200, 202, 204, 206, 208, 210, 212, 214, 216], [177, 179], [156, 158, 160, 162, 164], [88, 90, 92, 94, 96, 98], [673, 675, 677], [221, 223], [837, 839, 841, 843, 845, 847, 849, 851, 853, 855, 857, 859, 861, 863, 865, 867, 869, 871, 873, 875, 877, 879, 881, 883, 885, 887, 889, 891, 893, 895, 897, 899, 901, 903, 905, 907, 909, 911, 913, 915, 917]]
def zlayok (t : Nat) : Bool := (List.range (zcl t).2.2).all fun k => decide (lw_tbl[(zlayp.getD t []).getD k 0]? = some (u_lay (zcl t).1 (zcl t).2.1 k)) && goodWord (u_lay (zcl t).1 (zcl t).2.1 k)
theorem zlay0 : zlayok 0 = true := by decide +kernel
theorem zlay1 : zlayok 1 = true := by decide +kernel
theorem zlay2 : zlayok 2 = true := by decide +kernel
theorem zlay3 : zlayok 3 = true := by decide +kernel
theorem zlay4 : zlayok 4 = true := by decide +kernel
theorem zlay5 : zlayok 5 = true := by decide +kernel
theorem zlay6 : zlayok 6 = true := by decide +kernel
theorem zlay7 : zlayok 7 = true := by decide +kernel
theorem zlay8 : zlayok 8 = true := by decide +kernel
theorem zlay9 : zlayok 9 = true := by decide +kernel
theorem zlay : ∀ t, t < 10 → zlayok t = true := zlt10 zlay0 zlay1 zlay2 zlay3 zlay4 zlay5 zlay6 zlay7 zlay8 zlay9
theorem zuw {t : Nat} (ht : t < 10) : ∀ w ∈ u_ws (zcl t).1 (zcl t).2.1 (zcl t).2.2, w ∈ zG := by
  intro w hw
  obtain ⟨k, hk, rfl⟩ := List.mem_map.mp hw
  have h := List.all_eq_true.mp (zlay t ht) k hk
  simp only [Bool.and_eq_true, decide_eq_true_eq] at h
  exact zG_in h.1 h.2
theorem ztf_ok : ∀ t, t < 10 → ∀ k, k < (zcl t).2.2 → parseFieldDescriptor ((zcl t).2.1 k).2.2.1 = some (ztf t k) := zlt10 tyJx4a65c_ok tyX0_ok tyX1_ok tyX2_ok tyX3_ok tyX4_ok tyX5_ok tyX6_ok tyX7_ok tyX8_ok
theorem znm_ok : ∀ t, t < 10 → ∀ a, a < (zcl t).2.2 → ∀ b, b < (zcl t).2.2 → a ≠ b → ((zcl t).2.1 a).2.1 ≠ ((zcl t).2.1 b).2.1 := zlt10 nmJx4a65c nmX0 nmX1 nmX2 nmX3 nmX4 nmX5 nmX6 nmX7 nmX8
def zinsp : List (Nat × Nat) := [(116, 54), (599, 64), (302, 58), (104, 50), (168, 56), (110, 51), (75, 49), (662, 65), (67, 48), (791, 57)]
def zinsok (t : Nat) : Bool := decide (lw_tbl[(zinsp.getD t (0, 0)).1]? = some (.instantiable (zcl t).1 (zcl t).2.2)) && decide (lw_tbl[(zinsp.getD t (0, 0)).2]? = some (.initialized (zcl t).1))
theorem zins : ∀ t, t < 10 → zinsok t = true := zlt10 (by decide +kernel) (by decide +kernel) (by decide +kernel) (by decide +kernel) (by decide +kernel) (by decide +kernel) (by decide +kernel) (by decide +kernel) (by decide +kernel) (by decide +kernel)
theorem zins1 {t : Nat} (ht : t < 10) : Cond.instantiable (zcl t).1 (zcl t).2.2 ∈ zG ∧ Cond.initialized (zcl t).1 ∈ zG := by
  have h := zins t ht
  simp only [zinsok, Bool.and_eq_true, decide_eq_true_eq] at h
  exact ⟨zG_in h.1 rfl, zG_in h.2 rfl⟩
