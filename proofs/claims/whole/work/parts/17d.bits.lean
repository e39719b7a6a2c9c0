-- deps: 15a.lots 16a.rel
theorem bit_c : ∀ b, b < 40 → ∀ k, k < 40 → ((1 : Int64) <<< ((nI b).toInt64 &&& 63)).toBitVec.getLsbD k = decide (k = b) := by decide +kernel
theorem bit_s : ∀ b, b < 40 → (((nI b).toInt64 &&& 63).toBitVec.smod 64).toNat = b := by decide +kernel
theorem bit_or (x : Int64) {b k : Nat} (hb : b < 40) (hk : k < 40) : (x ||| ((1 : Int64) <<< ((nI b).toInt64 &&& 63))).toBitVec.getLsbD k = (x.toBitVec.getLsbD k || decide (k = b)) := by
  rw [Int64.toBitVec_or, BitVec.getLsbD_or, bit_c b hb k hk]
theorem bv_one (v : BitVec 64) : v &&& 1#64 = 1#64 ↔ v.getLsbD 0 = true := by
  constructor
  · intro h
    have := congrArg (fun u => u.getLsbD 0) h
    simpa using this
  · intro h
    apply BitVec.eq_of_getLsbD_eq
    intro i hi
    rw [BitVec.getLsbD_and]
    by_cases e : i = 0
    · subst e
      simp [h]
    · have : (1#64).getLsbD i = false := by
        rw [BitVec.getLsbD_one]
        simp [e]
      rw [this, Bool.and_false]
theorem lg_eq (a b : Int64) : lg_cmp a b = 0 ↔ a = b := by
  unfold lg_cmp
  simp only [gt_iff_lt, Int64.lt_iff_toInt_lt, ← Int64.toInt_inj]
  split
  · simp; omega
  · split
    · simp; omega
    · simp; omega
theorem bit_t (x : Int64) {k : Nat} (hk : k < 40) : (lg_cmp ((x >>> ((nI k).toInt64 &&& 63)) &&& 1) 1 = 0) ↔ x.toBitVec.getLsbD k = true := by
  rw [lg_eq, ← Int64.toBitVec_inj, Int64.toBitVec_and, Int64.toBitVec_shiftRight]
  show _ &&& 1#64 = 1#64 ↔ _
  rw [bv_one]
  unfold BitVec.sshiftRight'
  rw [BitVec.getLsbD_sshiftRight, bit_s k hk]
  simp
  omega
