theorem zv_x {m pc : Nat} {ls : zLs} {st : List zV} {h : zH} (hc : zcod m pc = none) : zev m pc ls st h = none := by
  refine zev_no ?_
  unfold zstp
  rw [hc]
theorem zsl_k {m : Nat} {ls : zLs} {st : List zV} {h : zH} {x v : Int32} {d t k : Nat} {r : List Nat} (hv : Int32.ofNat k = v) : zsl m ls st h x d (t :: r) k = if x = v then zev m t ls st h else zsl m ls st h x d r (k + 1) := by
  subst hv; rfl
theorem zsl_n {m : Nat} {ls : zLs} {st : List zV} {h : zH} {x : Int32} {d k : Nat} : zsl m ls st h x d [] k = zev m d ls st h := rfl
theorem zf0_0 : zft 0 0 = 0 := by decide +kernel
theorem zg0_0 : zft 0 0 ≠ 2 := by decide +kernel
theorem zf0_1 : zft 0 1 = 2 := by decide +kernel
theorem zf0_2 : zft 0 2 = 0 := by decide +kernel
theorem zg0_2 : zft 0 2 ≠ 2 := by decide +kernel
theorem zf1_0 : zft 1 0 = 0 := by decide +kernel
theorem zg1_0 : zft 1 0 ≠ 2 := by decide +kernel
theorem zf1_1 : zft 1 1 = 0 := by decide +kernel
theorem zg1_1 : zft 1 1 ≠ 2 := by decide +kernel
theorem zf2_0 : zft 2 0 = 0 := by decide +kernel
theorem zg2_0 : zft 2 0 ≠ 2 := by decide +kernel
theorem zf2_1 : zft 2 1 = 0 := by decide +kernel
theorem zg2_1 : zft 2 1 ≠ 2 := by decide +kernel
theorem zf2_2 : zft 2 2 = 0 := by decide +kernel
theorem zg2_2 : zft 2 2 ≠ 2 := by decide +kernel
theorem zf2_3 : zft 2 3 = 0 := by decide +kernel
theorem zg2_3 : zft 2 3 ≠ 2 := by decide +kernel
theorem zf2_4 : zft 2 4 = 1 := by decide +kernel
theorem zg2_4 : zft 2 4 ≠ 2 := by decide +kernel
theorem zf2_5 : zft 2 5 = 0 := by decide +kernel
theorem zg2_5 : zft 2 5 ≠ 2 := by decide +kernel
theorem zf2_6 : zft 2 6 = 2 := by decide +kernel
theorem zf2_7 : zft 2 7 = 0 := by decide +kernel
theorem zg2_7 : zft 2 7 ≠ 2 := by decide +kernel
theorem zf2_8 : zft 2 8 = 0 := by decide +kernel
theorem zg2_8 : zft 2 8 ≠ 2 := by decide +kernel
theorem zf2_9 : zft 2 9 = 2 := by decide +kernel
theorem zf2_10 : zft 2 10 = 1 := by decide +kernel
theorem zg2_10 : zft 2 10 ≠ 2 := by decide +kernel
theorem zf2_11 : zft 2 11 = 0 := by decide +kernel
theorem zg2_11 : zft 2 11 ≠ 2 := by decide +kernel
theorem zf2_12 : zft 2 12 = 0 := by decide +kernel
theorem zg2_12 : zft 2 12 ≠ 2 := by decide +kernel
theorem zf2_13 : zft 2 13 = 0 := by decide +kernel
theorem zg2_13 : zft 2 13 ≠ 2 := by decide +kernel
theorem zf2_14 : zft 2 14 = 0 := by decide +kernel
theorem zg2_14 : zft 2 14 ≠ 2 := by decide +kernel
theorem zf2_15 : zft 2 15 = 0 := by decide +kernel
theorem zg2_15 : zft 2 15 ≠ 2 := by decide +kernel
theorem zf2_16 : zft 2 16 = 0 := by decide +kernel
theorem zg2_16 : zft 2 16 ≠ 2 := by decide +kernel
theorem zf3_0 : zft 3 0 = 2 := by decide +kernel
theorem zf3_1 : zft 3 1 = 2 := by decide +kernel
theorem zf3_2 : zft 3 2 = 0 := by decide +kernel
theorem zg3_2 : zft 3 2 ≠ 2 := by decide +kernel
theorem zf3_3 : zft 3 3 = 0 := by decide +kernel
theorem zg3_3 : zft 3 3 ≠ 2 := by decide +kernel
theorem zf3_4 : zft 3 4 = 0 := by decide +kernel
theorem zg3_4 : zft 3 4 ≠ 2 := by decide +kernel
theorem zf3_5 : zft 3 5 = 0 := by decide +kernel
theorem zg3_5 : zft 3 5 ≠ 2 := by decide +kernel
theorem zf3_6 : zft 3 6 = 0 := by decide +kernel
theorem zg3_6 : zft 3 6 ≠ 2 := by decide +kernel
theorem zf3_7 : zft 3 7 = 0 := by decide +kernel
theorem zg3_7 : zft 3 7 ≠ 2 := by decide +kernel
theorem zf3_8 : zft 3 8 = 0 := by decide +kernel
theorem zg3_8 : zft 3 8 ≠ 2 := by decide +kernel
theorem zf4_0 : zft 4 0 = 2 := by decide +kernel
theorem zf4_1 : zft 4 1 = 0 := by decide +kernel
theorem zg4_1 : zft 4 1 ≠ 2 := by decide +kernel
theorem zf5_0 : zft 5 0 = 2 := by decide +kernel
theorem zf5_1 : zft 5 1 = 2 := by decide +kernel
theorem zf5_2 : zft 5 2 = 2 := by decide +kernel
theorem zf5_3 : zft 5 3 = 0 := by decide +kernel
theorem zg5_3 : zft 5 3 ≠ 2 := by decide +kernel
theorem zf5_4 : zft 5 4 = 0 := by decide +kernel
theorem zg5_4 : zft 5 4 ≠ 2 := by decide +kernel
theorem zf6_0 : zft 6 0 = 2 := by decide +kernel
theorem zf6_1 : zft 6 1 = 2 := by decide +kernel
theorem zf6_2 : zft 6 2 = 0 := by decide +kernel
theorem zg6_2 : zft 6 2 ≠ 2 := by decide +kernel
theorem zf6_3 : zft 6 3 = 0 := by decide +kernel
theorem zg6_3 : zft 6 3 ≠ 2 := by decide +kernel
theorem zf6_4 : zft 6 4 = 0 := by decide +kernel
theorem zg6_4 : zft 6 4 ≠ 2 := by decide +kernel
theorem zf6_5 : zft 6 5 = 0 := by decide +kernel
theorem zg6_5 : zft 6 5 ≠ 2 := by decide +kernel
theorem zf7_0 : zft 7 0 = 0 := by decide +kernel
theorem zg7_0 : zft 7 0 ≠ 2 := by decide +kernel
theorem zf7_1 : zft 7 1 = 0 := by decide +kernel
theorem zg7_1 : zft 7 1 ≠ 2 := by decide +kernel
theorem zf7_2 : zft 7 2 = 2 := by decide +kernel
theorem zf8_0 : zft 8 0 = 2 := by decide +kernel
theorem zf8_1 : zft 8 1 = 2 := by decide +kernel
theorem zf9_0 : zft 9 0 = 2 := by decide +kernel
theorem zf9_1 : zft 9 1 = 0 := by decide +kernel
theorem zg9_1 : zft 9 1 ≠ 2 := by decide +kernel
theorem zf9_2 : zft 9 2 = 0 := by decide +kernel
theorem zg9_2 : zft 9 2 ≠ 2 := by decide +kernel
theorem zf9_3 : zft 9 3 = 2 := by decide +kernel
theorem zf9_4 : zft 9 4 = 2 := by decide +kernel
theorem zf9_5 : zft 9 5 = 0 := by decide +kernel
theorem zg9_5 : zft 9 5 ≠ 2 := by decide +kernel
theorem zf9_6 : zft 9 6 = 2 := by decide +kernel
theorem zf9_7 : zft 9 7 = 2 := by decide +kernel
theorem zf9_8 : zft 9 8 = 2 := by decide +kernel
theorem zf9_9 : zft 9 9 = 2 := by decide +kernel
theorem zf9_10 : zft 9 10 = 2 := by decide +kernel
theorem zf9_11 : zft 9 11 = 2 := by decide +kernel
theorem zf9_12 : zft 9 12 = 2 := by decide +kernel
theorem zf9_13 : zft 9 13 = 2 := by decide +kernel
theorem zf9_14 : zft 9 14 = 2 := by decide +kernel
theorem zf9_15 : zft 9 15 = 2 := by decide +kernel
theorem zf9_16 : zft 9 16 = 0 := by decide +kernel
theorem zg9_16 : zft 9 16 ≠ 2 := by decide +kernel
theorem zf9_17 : zft 9 17 = 2 := by decide +kernel
theorem zf9_18 : zft 9 18 = 0 := by decide +kernel
theorem zg9_18 : zft 9 18 ≠ 2 := by decide +kernel
theorem zf9_19 : zft 9 19 = 2 := by decide +kernel
theorem zf9_20 : zft 9 20 = 2 := by decide +kernel
theorem zf9_21 : zft 9 21 = 2 := by decide +kernel
theorem zf9_22 : zft 9 22 = 2 := by decide +kernel
theorem zf9_23 : zft 9 23 = 2 := by decide +kernel
theorem zf9_24 : zft 9 24 = 0 := by decide +kernel
theorem zg9_24 : zft 9 24 ≠ 2 := by decide +kernel
theorem zf9_25 : zft 9 25 = 0 := by decide +kernel
theorem zg9_25 : zft 9 25 ≠ 2 := by decide +kernel
theorem zf9_26 : zft 9 26 = 0 := by decide +kernel
theorem zg9_26 : zft 9 26 ≠ 2 := by decide +kernel
theorem zf9_27 : zft 9 27 = 0 := by decide +kernel
theorem zg9_27 : zft 9 27 ≠ 2 := by decide +kernel
theorem zf9_28 : zft 9 28 = 0 := by decide +kernel
theorem zg9_28 : zft 9 28 ≠ 2 := by decide +kernel
theorem zf9_29 : zft 9 29 = 0 := by decide +kernel
theorem zg9_29 : zft 9 29 ≠ 2 := by decide +kernel
theorem zf9_30 : zft 9 30 = 0 := by decide +kernel
theorem zg9_30 : zft 9 30 ≠ 2 := by decide +kernel
theorem zf9_31 : zft 9 31 = 0 := by decide +kernel
theorem zg9_31 : zft 9 31 ≠ 2 := by decide +kernel
theorem zf9_32 : zft 9 32 = 2 := by decide +kernel
theorem zf9_33 : zft 9 33 = 2 := by decide +kernel
theorem zf9_34 : zft 9 34 = 2 := by decide +kernel
theorem zf9_35 : zft 9 35 = 0 := by decide +kernel
theorem zg9_35 : zft 9 35 ≠ 2 := by decide +kernel
theorem zf9_36 : zft 9 36 = 0 := by decide +kernel
theorem zg9_36 : zft 9 36 ≠ 2 := by decide +kernel
theorem zf9_37 : zft 9 37 = 0 := by decide +kernel
theorem zg9_37 : zft 9 37 ≠ 2 := by decide +kernel
theorem zf9_38 : zft 9 38 = 2 := by decide +kernel
theorem zf9_39 : zft 9 39 = 2 := by decide +kernel
theorem zf9_40 : zft 9 40 = 2 := by decide +kernel
theorem zL_0 : zL 0 = 1 := by decide +kernel
theorem zrt_0 : zrt 0 = 0 := by decide +kernel
theorem zL_1 : zL 1 = 1 := by decide +kernel
theorem zrt_1 : zrt 1 = 0 := by decide +kernel
theorem zL_2 : zL 2 = 1 := by decide +kernel
theorem zrt_2 : zrt 2 = 0 := by decide +kernel
theorem zL_3 : zL 3 = 1 := by decide +kernel
theorem zrt_3 : zrt 3 = 0 := by decide +kernel
theorem zL_4 : zL 4 = 1 := by decide +kernel
theorem zrt_4 : zrt 4 = 0 := by decide +kernel
theorem zL_5 : zL 5 = 1 := by decide +kernel
theorem zrt_5 : zrt 5 = 0 := by decide +kernel
theorem zL_6 : zL 6 = 1 := by decide +kernel
theorem zrt_6 : zrt 6 = 0 := by decide +kernel
theorem zL_7 : zL 7 = 1 := by decide +kernel
theorem zrt_7 : zrt 7 = 0 := by decide +kernel
theorem zL_8 : zL 8 = 4 := by decide +kernel
theorem zrt_8 : zrt 8 = 0 := by decide +kernel
theorem zL_9 : zL 9 = 1 := by decide +kernel
theorem zrt_9 : zrt 9 = 0 := by decide +kernel
theorem zL_10 : zL 10 = 4 := by decide +kernel
theorem zrt_10 : zrt 10 = 1 := by decide +kernel
theorem zcn_10 : zcn 10 = 8 := by decide +kernel
theorem zL_11 : zL 11 = 5 := by decide +kernel
theorem zrt_11 : zrt 11 = 2 := by decide +kernel
theorem zcn_11 : zcn 11 = 6 := by decide +kernel
theorem zL_12 : zL 12 = 2 := by decide +kernel
theorem zrt_12 : zrt 12 = 1 := by decide +kernel
theorem zcn_12 : zcn 12 = 8 := by decide +kernel
theorem zL_13 : zL 13 = 5 := by decide +kernel
theorem zrt_13 : zrt 13 = 1 := by decide +kernel
theorem zcn_13 : zcn 13 = 6 := by decide +kernel
theorem zL_14 : zL 14 = 1 := by decide +kernel
theorem zrt_14 : zrt 14 = 1 := by decide +kernel
theorem zcn_14 : zcn 14 = 0 := by decide +kernel
theorem zL_15 : zL 15 = 1 := by decide +kernel
theorem zrt_15 : zrt 15 = 2 := by decide +kernel
theorem zcn_15 : zcn 15 = 6 := by decide +kernel
theorem zL_16 : zL 16 = 1 := by decide +kernel
theorem zrt_16 : zrt 16 = 0 := by decide +kernel
theorem zcn_16 : zcn 16 = 6 := by decide +kernel
theorem zL_17 : zL 17 = 2 := by decide +kernel
theorem zrt_17 : zrt 17 = 1 := by decide +kernel
theorem zcn_17 : zcn 17 = 6 := by decide +kernel
theorem zL_18 : zL 18 = 3 := by decide +kernel
theorem zrt_18 : zrt 18 = 0 := by decide +kernel
theorem zcn_18 : zcn 18 = 6 := by decide +kernel
theorem zL_19 : zL 19 = 4 := by decide +kernel
theorem zrt_19 : zrt 19 = 2 := by decide +kernel
theorem zcn_19 : zcn 19 = 6 := by decide +kernel
theorem zL_20 : zL 20 = 3 := by decide +kernel
theorem zrt_20 : zrt 20 = 0 := by decide +kernel
theorem zcn_20 : zcn 20 = 6 := by decide +kernel
theorem zL_21 : zL 21 = 5 := by decide +kernel
theorem zrt_21 : zrt 21 = 1 := by decide +kernel
theorem zcn_21 : zcn 21 = 6 := by decide +kernel
theorem zL_22 : zL 22 = 1 := by decide +kernel
theorem zrt_22 : zrt 22 = 2 := by decide +kernel
theorem zL_23 : zL 23 = 10 := by decide +kernel
theorem zrt_23 : zrt 23 = 0 := by decide +kernel
theorem zcn_23 : zcn 23 = 6 := by decide +kernel
theorem zL_24 : zL 24 = 9 := by decide +kernel
theorem zrt_24 : zrt 24 = 2 := by decide +kernel
theorem zcn_24 : zcn 24 = 5 := by decide +kernel
theorem zL_25 : zL 25 = 3 := by decide +kernel
theorem zrt_25 : zrt 25 = 1 := by decide +kernel
theorem zcn_25 : zcn 25 = 5 := by decide +kernel
theorem zL_26 : zL 26 = 2 := by decide +kernel
theorem zrt_26 : zrt 26 = 2 := by decide +kernel
theorem zL_27 : zL 27 = 7 := by decide +kernel
theorem zrt_27 : zrt 27 = 0 := by decide +kernel
theorem zcn_27 : zcn 27 = 5 := by decide +kernel
theorem zL_28 : zL 28 = 6 := by decide +kernel
theorem zrt_28 : zrt 28 = 0 := by decide +kernel
theorem zL_29 : zL 29 = 2 := by decide +kernel
theorem zrt_29 : zrt 29 = 2 := by decide +kernel
theorem zcn_29 : zcn 29 = 0 := by decide +kernel
theorem zL_30 : zL 30 = 4 := by decide +kernel
theorem zrt_30 : zrt 30 = 0 := by decide +kernel
theorem zcn_30 : zcn 30 = 0 := by decide +kernel
theorem zL_31 : zL 31 = 1 := by decide +kernel
theorem zrt_31 : zrt 31 = 3 := by decide +kernel
theorem zcn_31 : zcn 31 = 0 := by decide +kernel
theorem zL_32 : zL 32 = 4 := by decide +kernel
theorem zrt_32 : zrt 32 = 3 := by decide +kernel
theorem zcn_32 : zcn 32 = 0 := by decide +kernel
theorem zL_33 : zL 33 = 4 := by decide +kernel
theorem zrt_33 : zrt 33 = 1 := by decide +kernel
theorem zL_34 : zL 34 = 2 := by decide +kernel
theorem zrt_34 : zrt 34 = 1 := by decide +kernel
theorem zL_35 : zL 35 = 3 := by decide +kernel
theorem zrt_35 : zrt 35 = 1 := by decide +kernel
theorem zL_36 : zL 36 = 2 := by decide +kernel
theorem zrt_36 : zrt 36 = 3 := by decide +kernel
theorem zL_37 : zL 37 = 4 := by decide +kernel
theorem zrt_37 : zrt 37 = 3 := by decide +kernel
theorem zL_38 : zL 38 = 2 := by decide +kernel
theorem zrt_38 : zrt 38 = 1 := by decide +kernel
theorem zL_39 : zL 39 = 8 := by decide +kernel
theorem zrt_39 : zrt 39 = 0 := by decide +kernel
theorem zcn_39 : zcn 39 = 5 := by decide +kernel
theorem zL_40 : zL 40 = 7 := by decide +kernel
theorem zrt_40 : zrt 40 = 0 := by decide +kernel
theorem zcn_40 : zcn 40 = 6 := by decide +kernel
theorem zL_41 : zL 41 = 6 := by decide +kernel
theorem zrt_41 : zrt 41 = 0 := by decide +kernel
theorem zcn_41 : zcn 41 = 5 := by decide +kernel
theorem zL_42 : zL 42 = 7 := by decide +kernel
theorem zrt_42 : zrt 42 = 0 := by decide +kernel
theorem zcn_42 : zcn 42 = 5 := by decide +kernel
theorem zL_43 : zL 43 = 4 := by decide +kernel
theorem zrt_43 : zrt 43 = 3 := by decide +kernel
theorem zcn_43 : zcn 43 = 0 := by decide +kernel
theorem zL_44 : zL 44 = 2 := by decide +kernel
theorem zrt_44 : zrt 44 = 1 := by decide +kernel
theorem zL_45 : zL 45 = 3 := by decide +kernel
theorem zrt_45 : zrt 45 = 1 := by decide +kernel
theorem zL_46 : zL 46 = 4 := by decide +kernel
theorem zrt_46 : zrt 46 = 0 := by decide +kernel
theorem zcn_46 : zcn 46 = 0 := by decide +kernel
theorem zL_47 : zL 47 = 1 := by decide +kernel
theorem zrt_47 : zrt 47 = 1 := by decide +kernel
theorem zcn_47 : zcn 47 = 8 := by decide +kernel
theorem zL_48 : zL 48 = 3 := by decide +kernel
theorem zrt_48 : zrt 48 = 1 := by decide +kernel
theorem zcn_48 : zcn 48 = 8 := by decide +kernel
theorem zL_49 : zL 49 = 4 := by decide +kernel
theorem zrt_49 : zrt 49 = 1 := by decide +kernel
theorem zcn_49 : zcn 49 = 8 := by decide +kernel
theorem zL_50 : zL 50 = 2 := by decide +kernel
theorem zrt_50 : zrt 50 = 3 := by decide +kernel
theorem zcn_50 : zcn 50 = 5 := by decide +kernel
theorem zL_51 : zL 51 = 2 := by decide +kernel
theorem zrt_51 : zrt 51 = 3 := by decide +kernel
theorem zcn_51 : zcn 51 = 0 := by decide +kernel
theorem zL_52 : zL 52 = 2 := by decide +kernel
theorem zrt_52 : zrt 52 = 3 := by decide +kernel
theorem zcn_52 : zcn 52 = 0 := by decide +kernel
theorem zL_53 : zL 53 = 1 := by decide +kernel
theorem zrt_53 : zrt 53 = 1 := by decide +kernel
theorem zcn_53 : zcn 53 = 2 := by decide +kernel
theorem zL_54 : zL 54 = 4 := by decide +kernel
theorem zrt_54 : zrt 54 = 1 := by decide +kernel
theorem zcn_54 : zcn 54 = 5 := by decide +kernel
theorem zL_55 : zL 55 = 1 := by decide +kernel
theorem zrt_55 : zrt 55 = 1 := by decide +kernel
theorem zL_56 : zL 56 = 5 := by decide +kernel
theorem zrt_56 : zrt 56 = 1 := by decide +kernel
theorem zcn_56 : zcn 56 = 5 := by decide +kernel
theorem zL_57 : zL 57 = 9 := by decide +kernel
theorem zrt_57 : zrt 57 = 2 := by decide +kernel
theorem zcn_57 : zcn 57 = 2 := by decide +kernel
theorem zL_58 : zL 58 = 5 := by decide +kernel
theorem zrt_58 : zrt 58 = 2 := by decide +kernel
theorem zcn_58 : zcn 58 = 5 := by decide +kernel
theorem zL_59 : zL 59 = 2 := by decide +kernel
theorem zrt_59 : zrt 59 = 1 := by decide +kernel
theorem zcn_59 : zcn 59 = 8 := by decide +kernel
theorem zL_60 : zL 60 = 2 := by decide +kernel
theorem zrt_60 : zrt 60 = 2 := by decide +kernel
theorem zcn_60 : zcn 60 = 5 := by decide +kernel
theorem zL_61 : zL 61 = 2 := by decide +kernel
theorem zrt_61 : zrt 61 = 2 := by decide +kernel
theorem zcn_61 : zcn 61 = 5 := by decide +kernel
theorem zL_62 : zL 62 = 4 := by decide +kernel
theorem zrt_62 : zrt 62 = 1 := by decide +kernel
theorem zcn_62 : zcn 62 = 5 := by decide +kernel
theorem zL_63 : zL 63 = 7 := by decide +kernel
theorem zrt_63 : zrt 63 = 2 := by decide +kernel
theorem zcn_63 : zcn 63 = 5 := by decide +kernel
theorem zL_64 : zL 64 = 4 := by decide +kernel
theorem zrt_64 : zrt 64 = 1 := by decide +kernel
theorem zcn_64 : zcn 64 = 8 := by decide +kernel
theorem zL_65 : zL 65 = 2 := by decide +kernel
theorem zrt_65 : zrt 65 = 1 := by decide +kernel
theorem zcn_65 : zcn 65 = 8 := by decide +kernel
theorem zL_66 : zL 66 = 3 := by decide +kernel
theorem zrt_66 : zrt 66 = 1 := by decide +kernel
theorem zcn_66 : zcn 66 = 4 := by decide +kernel
theorem zL_67 : zL 67 = 4 := by decide +kernel
theorem zrt_67 : zrt 67 = 1 := by decide +kernel
theorem zcn_67 : zcn 67 = 8 := by decide +kernel
theorem zL_68 : zL 68 = 2 := by decide +kernel
theorem zrt_68 : zrt 68 = 2 := by decide +kernel
theorem zcn_68 : zcn 68 = 4 := by decide +kernel
theorem zL_69 : zL 69 = 2 := by decide +kernel
theorem zrt_69 : zrt 69 = 1 := by decide +kernel
theorem zcn_69 : zcn 69 = 4 := by decide +kernel
theorem zL_70 : zL 70 = 3 := by decide +kernel
theorem zrt_70 : zrt 70 = 0 := by decide +kernel
theorem zcn_70 : zcn 70 = 4 := by decide +kernel
theorem zL_71 : zL 71 = 5 := by decide +kernel
theorem zrt_71 : zrt 71 = 1 := by decide +kernel
theorem zcn_71 : zcn 71 = 8 := by decide +kernel
theorem zL_72 : zL 72 = 4 := by decide +kernel
theorem zrt_72 : zrt 72 = 0 := by decide +kernel
theorem zcn_72 : zcn 72 = 2 := by decide +kernel
theorem zL_73 : zL 73 = 3 := by decide +kernel
theorem zrt_73 : zrt 73 = 0 := by decide +kernel
theorem zL_74 : zL 74 = 3 := by decide +kernel
theorem zrt_74 : zrt 74 = 1 := by decide +kernel
theorem zcn_74 : zcn 74 = 8 := by decide +kernel
theorem zL_75 : zL 75 = 1 := by decide +kernel
theorem zrt_75 : zrt 75 = 2 := by decide +kernel
theorem zcn_75 : zcn 75 = 0 := by decide +kernel
theorem zL_76 : zL 76 = 4 := by decide +kernel
theorem zrt_76 : zrt 76 = 1 := by decide +kernel
theorem zcn_76 : zcn 76 = 3 := by decide +kernel
theorem zL_77 : zL 77 = 6 := by decide +kernel
theorem zrt_77 : zrt 77 = 3 := by decide +kernel
theorem zcn_77 : zcn 77 = 3 := by decide +kernel
theorem zL_78 : zL 78 = 4 := by decide +kernel
theorem zrt_78 : zrt 78 = 0 := by decide +kernel
theorem zcn_78 : zcn 78 = 0 := by decide +kernel
theorem zL_79 : zL 79 = 3 := by decide +kernel
theorem zrt_79 : zrt 79 = 2 := by decide +kernel
theorem zcn_79 : zcn 79 = 4 := by decide +kernel
theorem zL_80 : zL 80 = 3 := by decide +kernel
theorem zrt_80 : zrt 80 = 0 := by decide +kernel
theorem zcn_80 : zcn 80 = 2 := by decide +kernel
theorem zL_81 : zL 81 = 3 := by decide +kernel
theorem zrt_81 : zrt 81 = 0 := by decide +kernel
theorem zcn_81 : zcn 81 = 3 := by decide +kernel
theorem zL_82 : zL 82 = 1 := by decide +kernel
theorem zrt_82 : zrt 82 = 0 := by decide +kernel
theorem zcn_82 : zcn 82 = 2 := by decide +kernel
theorem zL_83 : zL 83 = 1 := by decide +kernel
theorem zrt_83 : zrt 83 = 0 := by decide +kernel
theorem zcn_83 : zcn 83 = 2 := by decide +kernel
theorem zL_84 : zL 84 = 4 := by decide +kernel
theorem zrt_84 : zrt 84 = 0 := by decide +kernel
theorem zL_85 : zL 85 = 3 := by decide +kernel
theorem zrt_85 : zrt 85 = 0 := by decide +kernel
theorem zcn_85 : zcn 85 = 2 := by decide +kernel
theorem zL_86 : zL 86 = 4 := by decide +kernel
theorem zrt_86 : zrt 86 = 1 := by decide +kernel
theorem zcn_86 : zcn 86 = 8 := by decide +kernel
theorem zL_87 : zL 87 = 5 := by decide +kernel
theorem zrt_87 : zrt 87 = 1 := by decide +kernel
theorem zcn_87 : zcn 87 = 8 := by decide +kernel
theorem zL_88 : zL 88 = 3 := by decide +kernel
theorem zrt_88 : zrt 88 = 1 := by decide +kernel
theorem zcn_88 : zcn 88 = 8 := by decide +kernel
theorem zL_89 : zL 89 = 3 := by decide +kernel
theorem zrt_89 : zrt 89 = 1 := by decide +kernel
theorem zcn_89 : zcn 89 = 8 := by decide +kernel
theorem zL_90 : zL 90 = 1 := by decide +kernel
theorem zrt_90 : zrt 90 = 0 := by decide +kernel
theorem zcn_90 : zcn 90 = 3 := by decide +kernel
theorem zL_91 : zL 91 = 3 := by decide +kernel
theorem zrt_91 : zrt 91 = 0 := by decide +kernel
theorem zcn_91 : zcn 91 = 3 := by decide +kernel
theorem zL_92 : zL 92 = 3 := by decide +kernel
theorem zrt_92 : zrt 92 = 0 := by decide +kernel
theorem zcn_92 : zcn 92 = 3 := by decide +kernel
theorem zL_93 : zL 93 = 1 := by decide +kernel
theorem zrt_93 : zrt 93 = 1 := by decide +kernel
theorem zcn_93 : zcn 93 = 2 := by decide +kernel
theorem zL_94 : zL 94 = 1 := by decide +kernel
theorem zrt_94 : zrt 94 = 0 := by decide +kernel
theorem zcn_94 : zcn 94 = 2 := by decide +kernel
theorem zL_95 : zL 95 = 3 := by decide +kernel
theorem zrt_95 : zrt 95 = 0 := by decide +kernel
theorem zcn_95 : zcn 95 = 3 := by decide +kernel
theorem zL_96 : zL 96 = 3 := by decide +kernel
theorem zrt_96 : zrt 96 = 0 := by decide +kernel
theorem zcn_96 : zcn 96 = 3 := by decide +kernel
theorem zL_97 : zL 97 = 3 := by decide +kernel
theorem zrt_97 : zrt 97 = 0 := by decide +kernel
theorem zcn_97 : zcn 97 = 3 := by decide +kernel
theorem zL_98 : zL 98 = 4 := by decide +kernel
theorem zrt_98 : zrt 98 = 1 := by decide +kernel
theorem zcn_98 : zcn 98 = 5 := by decide +kernel
theorem zL_99 : zL 99 = 7 := by decide +kernel
theorem zrt_99 : zrt 99 = 3 := by decide +kernel
theorem zcn_99 : zcn 99 = 5 := by decide +kernel
theorem zL_100 : zL 100 = 3 := by decide +kernel
theorem zrt_100 : zrt 100 = 0 := by decide +kernel
theorem zcn_100 : zcn 100 = 3 := by decide +kernel
theorem zL_101 : zL 101 = 4 := by decide +kernel
theorem zrt_101 : zrt 101 = 1 := by decide +kernel
theorem zcn_101 : zcn 101 = 8 := by decide +kernel
theorem zL_102 : zL 102 = 3 := by decide +kernel
theorem zrt_102 : zrt 102 = 1 := by decide +kernel
theorem zcn_102 : zcn 102 = 2 := by decide +kernel
theorem zL_103 : zL 103 = 3 := by decide +kernel
theorem zrt_103 : zrt 103 = 1 := by decide +kernel
theorem zcn_103 : zcn 103 = 8 := by decide +kernel
theorem zL_104 : zL 104 = 4 := by decide +kernel
theorem zrt_104 : zrt 104 = 1 := by decide +kernel
theorem zcn_104 : zcn 104 = 5 := by decide +kernel
theorem zL_105 : zL 105 = 5 := by decide +kernel
theorem zrt_105 : zrt 105 = 1 := by decide +kernel
theorem zcn_105 : zcn 105 = 5 := by decide +kernel
theorem zL_106 : zL 106 = 2 := by decide +kernel
theorem zrt_106 : zrt 106 = 1 := by decide +kernel
theorem zcn_106 : zcn 106 = 8 := by decide +kernel
theorem zL_107 : zL 107 = 3 := by decide +kernel
theorem zrt_107 : zrt 107 = 1 := by decide +kernel
theorem zcn_107 : zcn 107 = 5 := by decide +kernel
theorem zL_108 : zL 108 = 3 := by decide +kernel
theorem zrt_108 : zrt 108 = 1 := by decide +kernel
theorem zcn_108 : zcn 108 = 5 := by decide +kernel
theorem zL_109 : zL 109 = 5 := by decide +kernel
theorem zrt_109 : zrt 109 = 1 := by decide +kernel
theorem zcn_109 : zcn 109 = 8 := by decide +kernel
theorem zL_110 : zL 110 = 7 := by decide +kernel
theorem zrt_110 : zrt 110 = 1 := by decide +kernel
theorem zcn_110 : zcn 110 = 3 := by decide +kernel
theorem zL_111 : zL 111 = 2 := by decide +kernel
theorem zrt_111 : zrt 111 = 0 := by decide +kernel
theorem zL_112 : zL 112 = 5 := by decide +kernel
theorem zrt_112 : zrt 112 = 1 := by decide +kernel
theorem zcn_112 : zcn 112 = 9 := by decide +kernel
theorem zL_113 : zL 113 = 6 := by decide +kernel
theorem zrt_113 : zrt 113 = 2 := by decide +kernel
theorem zL_114 : zL 114 = 3 := by decide +kernel
theorem zrt_114 : zrt 114 = 1 := by decide +kernel
theorem zcn_114 : zcn 114 = 9 := by decide +kernel
theorem zL_115 : zL 115 = 2 := by decide +kernel
theorem zrt_115 : zrt 115 = 1 := by decide +kernel
theorem zcn_115 : zcn 115 = 9 := by decide +kernel
theorem zL_116 : zL 116 = 1 := by decide +kernel
theorem zrt_116 : zrt 116 = 0 := by decide +kernel
theorem zcn_116 : zcn 116 = 9 := by decide +kernel
theorem zL_117 : zL 117 = 7 := by decide +kernel
theorem zrt_117 : zrt 117 = 1 := by decide +kernel
theorem zcn_117 : zcn 117 = 9 := by decide +kernel
theorem zL_118 : zL 118 = 3 := by decide +kernel
theorem zrt_118 : zrt 118 = 1 := by decide +kernel
theorem zcn_118 : zcn 118 = 9 := by decide +kernel
theorem zL_119 : zL 119 = 6 := by decide +kernel
theorem zrt_119 : zrt 119 = 1 := by decide +kernel
theorem zcn_119 : zcn 119 = 9 := by decide +kernel
theorem zL_120 : zL 120 = 2 := by decide +kernel
theorem zrt_120 : zrt 120 = 1 := by decide +kernel
theorem zL_121 : zL 121 = 2 := by decide +kernel
theorem zrt_121 : zrt 121 = 1 := by decide +kernel
theorem zL_122 : zL 122 = 5 := by decide +kernel
theorem zrt_122 : zrt 122 = 2 := by decide +kernel
theorem zcn_122 : zcn 122 = 9 := by decide +kernel
theorem zL_123 : zL 123 = 4 := by decide +kernel
theorem zrt_123 : zrt 123 = 2 := by decide +kernel
theorem zcn_123 : zcn 123 = 9 := by decide +kernel
theorem zL_124 : zL 124 = 9 := by decide +kernel
theorem zrt_124 : zrt 124 = 2 := by decide +kernel
theorem zcn_124 : zcn 124 = 9 := by decide +kernel
theorem zL_125 : zL 125 = 1 := by decide +kernel
theorem zrt_125 : zrt 125 = 1 := by decide +kernel
theorem zcn_125 : zcn 125 = 9 := by decide +kernel
theorem zL_126 : zL 126 = 4 := by decide +kernel
theorem zrt_126 : zrt 126 = 1 := by decide +kernel
theorem zcn_126 : zcn 126 = 9 := by decide +kernel
theorem zL_127 : zL 127 = 2 := by decide +kernel
theorem zrt_127 : zrt 127 = 2 := by decide +kernel
theorem zL_128 : zL 128 = 3 := by decide +kernel
theorem zrt_128 : zrt 128 = 1 := by decide +kernel
theorem zcn_128 : zcn 128 = 9 := by decide +kernel
theorem zL_129 : zL 129 = 2 := by decide +kernel
theorem zrt_129 : zrt 129 = 2 := by decide +kernel
theorem zcn_129 : zcn 129 = 9 := by decide +kernel
theorem zL_130 : zL 130 = 11 := by decide +kernel
theorem zrt_130 : zrt 130 = 1 := by decide +kernel
theorem zcn_130 : zcn 130 = 9 := by decide +kernel
theorem zL_131 : zL 131 = 3 := by decide +kernel
theorem zrt_131 : zrt 131 = 1 := by decide +kernel
theorem zcn_131 : zcn 131 = 9 := by decide +kernel
theorem zL_132 : zL 132 = 1 := by decide +kernel
theorem zrt_132 : zrt 132 = 1 := by decide +kernel
theorem zL_133 : zL 133 = 5 := by decide +kernel
theorem zrt_133 : zrt 133 = 1 := by decide +kernel
theorem zcn_133 : zcn 133 = 9 := by decide +kernel
theorem zL_134 : zL 134 = 4 := by decide +kernel
theorem zrt_134 : zrt 134 = 1 := by decide +kernel
theorem zcn_134 : zcn 134 = 9 := by decide +kernel
theorem zL_135 : zL 135 = 2 := by decide +kernel
theorem zrt_135 : zrt 135 = 1 := by decide +kernel
theorem zcn_135 : zcn 135 = 9 := by decide +kernel
theorem zL_136 : zL 136 = 8 := by decide +kernel
theorem zrt_136 : zrt 136 = 1 := by decide +kernel
theorem zcn_136 : zcn 136 = 9 := by decide +kernel
theorem zL_137 : zL 137 = 4 := by decide +kernel
theorem zrt_137 : zrt 137 = 1 := by decide +kernel
theorem zcn_137 : zcn 137 = 9 := by decide +kernel
theorem zL_138 : zL 138 = 2 := by decide +kernel
theorem zrt_138 : zrt 138 = 1 := by decide +kernel
theorem zcn_138 : zcn 138 = 9 := by decide +kernel
theorem zL_139 : zL 139 = 3 := by decide +kernel
theorem zrt_139 : zrt 139 = 1 := by decide +kernel
theorem zcn_139 : zcn 139 = 9 := by decide +kernel
theorem zL_140 : zL 140 = 2 := by decide +kernel
theorem zrt_140 : zrt 140 = 2 := by decide +kernel
theorem zcn_140 : zcn 140 = 9 := by decide +kernel
theorem zL_141 : zL 141 = 6 := by decide +kernel
theorem zrt_141 : zrt 141 = 1 := by decide +kernel
theorem zcn_141 : zcn 141 = 9 := by decide +kernel
theorem zL_142 : zL 142 = 6 := by decide +kernel
theorem zrt_142 : zrt 142 = 1 := by decide +kernel
theorem zcn_142 : zcn 142 = 9 := by decide +kernel
theorem zL_143 : zL 143 = 4 := by decide +kernel
theorem zrt_143 : zrt 143 = 0 := by decide +kernel
theorem zcn_143 : zcn 143 = 9 := by decide +kernel
theorem zL_144 : zL 144 = 3 := by decide +kernel
theorem zrt_144 : zrt 144 = 1 := by decide +kernel
theorem zcn_144 : zcn 144 = 9 := by decide +kernel
theorem zL_145 : zL 145 = 4 := by decide +kernel
theorem zrt_145 : zrt 145 = 1 := by decide +kernel
theorem zcn_145 : zcn 145 = 9 := by decide +kernel
theorem zL_146 : zL 146 = 3 := by decide +kernel
theorem zrt_146 : zrt 146 = 1 := by decide +kernel
theorem zcn_146 : zcn 146 = 9 := by decide +kernel
theorem zL_147 : zL 147 = 3 := by decide +kernel
theorem zrt_147 : zrt 147 = 1 := by decide +kernel
theorem zcn_147 : zcn 147 = 9 := by decide +kernel
theorem zL_148 : zL 148 = 2 := by decide +kernel
theorem zrt_148 : zrt 148 = 0 := by decide +kernel
theorem zcn_148 : zcn 148 = 9 := by decide +kernel
theorem zL_149 : zL 149 = 3 := by decide +kernel
theorem zrt_149 : zrt 149 = 0 := by decide +kernel
theorem zcn_149 : zcn 149 = 9 := by decide +kernel
theorem zL_150 : zL 150 = 2 := by decide +kernel
theorem zrt_150 : zrt 150 = 0 := by decide +kernel
theorem zcn_150 : zcn 150 = 9 := by decide +kernel
theorem zL_151 : zL 151 = 4 := by decide +kernel
theorem zrt_151 : zrt 151 = 0 := by decide +kernel
theorem zcn_151 : zcn 151 = 9 := by decide +kernel
theorem zL_152 : zL 152 = 4 := by decide +kernel
theorem zrt_152 : zrt 152 = 0 := by decide +kernel
theorem zcn_152 : zcn 152 = 9 := by decide +kernel
theorem zL_153 : zL 153 = 5 := by decide +kernel
theorem zrt_153 : zrt 153 = 1 := by decide +kernel
theorem zcn_153 : zcn 153 = 9 := by decide +kernel
theorem zL_154 : zL 154 = 5 := by decide +kernel
theorem zrt_154 : zrt 154 = 1 := by decide +kernel
theorem zcn_154 : zcn 154 = 9 := by decide +kernel
theorem zL_155 : zL 155 = 4 := by decide +kernel
theorem zrt_155 : zrt 155 = 1 := by decide +kernel
theorem zcn_155 : zcn 155 = 9 := by decide +kernel
theorem zL_156 : zL 156 = 4 := by decide +kernel
theorem zrt_156 : zrt 156 = 1 := by decide +kernel
theorem zcn_156 : zcn 156 = 9 := by decide +kernel
theorem zL_157 : zL 157 = 3 := by decide +kernel
theorem zrt_157 : zrt 157 = 1 := by decide +kernel
theorem zcn_157 : zcn 157 = 9 := by decide +kernel
theorem zL_158 : zL 158 = 6 := by decide +kernel
theorem zrt_158 : zrt 158 = 1 := by decide +kernel
theorem zcn_158 : zcn 158 = 9 := by decide +kernel
theorem zL_159 : zL 159 = 4 := by decide +kernel
theorem zrt_159 : zrt 159 = 2 := by decide +kernel
