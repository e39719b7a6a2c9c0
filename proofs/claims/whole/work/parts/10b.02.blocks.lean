theorem c92_0 : zcod 92 0 = some (.aload_n 1, 1, 0, 0, 0, 0) := by decide +kernel
theorem c92_1 : zcod 92 1 = some (.invokevirtual 116, 3, 93, 0, 714, 0) := by decide +kernel
theorem c92_4 : zcod 92 4 = some (.istore_n 2, 1, 0, 0, 0, 0) := by decide +kernel
theorem c92_5 : zcod 92 5 = some (.aload_n 0, 1, 0, 0, 0, 0) := by decide +kernel
theorem c92_6 : zcod 92 6 = some (.getfield 21, 3, 3, 1, 184, 0) := by decide +kernel
theorem c92_9 : zcod 92 9 = some (.aload_n 1, 1, 0, 0, 0, 0) := by decide +kernel
theorem c92_10 : zcod 92 10 = some (.getfield 119, 3, 2, 7, 328, 0) := by decide +kernel
theorem c92_13 : zcod 92 13 = some (.iload_n 2, 1, 0, 0, 0, 0) := by decide +kernel
theorem c92_14 : zcod 92 14 = some (.invokevirtual 65, 3, 79, 2, 639, 0) := by decide +kernel
theorem c92_17 : zcod 92 17 = some (.ifCond .eq 20, 3, 37, 0, 0, 0) := by decide +kernel
theorem c92_20 : zcod 92 20 = some (.aload_n 0, 1, 0, 0, 0, 0) := by decide +kernel
theorem c92_21 : zcod 92 21 = some (.dup, 1, 0, 0, 0, 0) := by decide +kernel
theorem c92_22 : zcod 92 22 = some (.getfield 69, 3, 3, 6, 194, 0) := by decide +kernel
theorem c92_25 : zcod 92 25 = some (.iload_n 2, 1, 0, 0, 0, 0) := by decide +kernel
theorem c92_26 : zcod 92 26 = some (.iadd, 1, 0, 0, 0, 0) := by decide +kernel
theorem c92_27 : zcod 92 27 = some (.putfield 69, 3, 3, 6, 194, 0) := by decide +kernel
theorem c92_30 : zcod 92 30 = some (.aload_n 1, 1, 0, 0, 0, 0) := by decide +kernel
theorem c92_31 : zcod 92 31 = some (.invokevirtual 122, 3, 94, 0, 718, 0) := by decide +kernel
theorem c92_34 : zcod 92 34 = some (.goto 33, 3, 67, 0, 0, 0) := by decide +kernel
theorem c92_37 : zcod 92 37 = some (.aload_n 0, 1, 0, 0, 0, 0) := by decide +kernel
theorem c92_38 : zcod 92 38 = some (.getfield 37, 3, 3, 2, 186, 0) := by decide +kernel
theorem c92_41 : zcod 92 41 = some (.aload_n 1, 1, 0, 0, 0, 0) := by decide +kernel
theorem c92_42 : zcod 92 42 = some (.getfield 109, 3, 2, 14, 344, 0) := by decide +kernel
theorem c92_45 : zcod 92 45 = some (.bipush 30, 2, 0, 0, 0, 0) := by decide +kernel
theorem c92_47 : zcod 92 47 = some (.iadd, 1, 0, 0, 0, 0) := by decide +kernel
theorem c92_48 : zcod 92 48 = some (.if_icmp .lt 19, 3, 67, 0, 0, 0) := by decide +kernel
theorem c92_51 : zcod 92 51 = some (.aload_n 0, 1, 0, 0, 0, 0) := by decide +kernel
theorem c92_52 : zcod 92 52 = some (.dup, 1, 0, 0, 0, 0) := by decide +kernel
theorem c92_53 : zcod 92 53 = some (.getfield 125, 3, 3, 4, 190, 0) := by decide +kernel
theorem c92_56 : zcod 92 56 = some (.iconst 1, 1, 0, 0, 0, 0) := by decide +kernel
theorem c92_57 : zcod 92 57 = some (.iadd, 1, 0, 0, 0, 0) := by decide +kernel
theorem c92_58 : zcod 92 58 = some (.putfield 125, 3, 3, 4, 190, 0) := by decide +kernel
theorem c92_61 : zcod 92 61 = some (.aload_n 0, 1, 0, 0, 0, 0) := by decide +kernel
theorem c92_62 : zcod 92 62 = some (.aload_n 1, 1, 0, 0, 0, 0) := by decide +kernel
theorem c92_63 : zcod 92 63 = some (.iconst (-1), 1, 0, 0, 0, 0) := by decide +kernel
theorem c92_64 : zcod 92 64 = some (.invokevirtual 75, 3, 81, 2, 649, 0) := by decide +kernel
theorem c92_67 : zcod 92 67 = some (.return_, 1, 0, 0, 0, 0) := by decide +kernel
set_option maxRecDepth 100000 in
theorem b92_0 (l0 : Option Nat) (l1 : Option Nat) (h : zH) : zev 92 0 [some (vR l0), some (vR l1), none] [] h = (zvr h l1 2 (zcI 93 [vR l1] h fun x2 h1 => (zgR h1 l0 3 1 fun x3 => (zgI h1 l1 2 7 fun x4 => (zvr h1 x3 4 (zcI 79 [vR x3, vI x4, vI x2] h1 fun x6 h5 => (if x6 = 0 then (zgI h5 l0 3 2 fun x7 => (zgI h5 l1 2 14 fun x8 => (if x7 < (x8 + 30) then some (none, h5) else (zgI h5 l0 3 4 fun x9 => (zpI h5 l0 3 4 (x9 + 1) fun h10 => (zvr h10 l0 3 (zcV 81 [vR l0, vR l1, vI (-1)] h10 fun h11 => some (none, h11)))))))) else (zgI h5 l0 3 6 fun x12 => (zpI h5 l0 3 6 (x12 + x2) fun h13 => (zvr h13 l1 2 (zcV 94 [vR l1] h13 fun h14 => some (none, h14)))))))))))) := by
  refine (zv_an c92_0 rfl).trans ?_
  refine (zv_viI c92_1 zcn_93 rfl zL_93 (Or.inl zrt_93) rfl rfl).trans (zvr_c (zcI_c fun x2 h1 => ?_))
  refine (zv_it c92_4 rfl).trans ?_
  refine (zv_an c92_5 rfl).trans ?_
  refine (zv_gR c92_6 zf3_1).trans (zgR_c fun x3 => ?_)
  refine (zv_an c92_9 rfl).trans ?_
  refine (zv_gI c92_10 zg2_7).trans (zgI_c fun x4 => ?_)
  refine (zv_in c92_13 rfl).trans ?_
  refine (zv_viI c92_14 zcn_79 rfl zL_79 (Or.inr zrt_79) rfl rfl).trans (zvr_c (zcI_c fun x6 h5 => ?_))
  refine (zv_ifeq c92_17).trans (zif_c ?_ ?_)
  · refine (zv_an c92_37 rfl).trans ?_
    refine (zv_gI c92_38 zg3_2).trans (zgI_c fun x7 => ?_)
    refine (zv_an c92_41 rfl).trans ?_
    refine (zv_gI c92_42 zg2_14).trans (zgI_c fun x8 => ?_)
    refine (zv_bi (v := 30) c92_45 (by decide)).trans ?_
    refine (zv_iadd c92_47).trans ?_
    refine (zv_iclt c92_48).trans (zif_c ?_ ?_)
    · exact zv_vr c92_67 zrt_92
    · refine (zv_an c92_51 rfl).trans ?_
      refine (zv_dup c92_52 rfl).trans ?_
      refine (zv_gI c92_53 zg3_4).trans (zgI_c fun x9 => ?_)
      refine (zv_k (v := 1) c92_56 (by decide)).trans ?_
      refine (zv_iadd c92_57).trans ?_
      refine (zv_pI c92_58 zf3_4).trans (zpI_c fun h10 => ?_)
      refine (zv_an c92_61 rfl).trans ?_
      refine (zv_an c92_62 rfl).trans ?_
      refine (zv_k (v := -1) c92_63 (by decide)).trans ?_
      refine (zv_viV c92_64 zcn_81 rfl zL_81 zrt_81 rfl rfl).trans (zvr_c (zcV_c fun h11 => ?_))
      exact zv_vr c92_67 zrt_92
  · refine (zv_an c92_20 rfl).trans ?_
    refine (zv_dup c92_21 rfl).trans ?_
    refine (zv_gI c92_22 zg3_6).trans (zgI_c fun x12 => ?_)
    refine (zv_in c92_25 rfl).trans ?_
    refine (zv_iadd c92_26).trans ?_
    refine (zv_pI c92_27 zf3_6).trans (zpI_c fun h13 => ?_)
    refine (zv_an c92_30 rfl).trans ?_
    refine (zv_viV c92_31 zcn_94 rfl zL_94 zrt_94 rfl rfl).trans (zvr_c (zcV_c fun h14 => ?_))
    refine (zv_goto c92_34).trans ?_
    exact zv_vr c92_67 zrt_92
theorem e92 (l0 : Option Nat) (l1 : Option Nat) (h : zH) : zcall 92 [vR l0, vR l1] h = (zvr h l1 2 (zcI 93 [vR l1] h fun x2 h1 => (zgR h1 l0 3 1 fun x3 => (zgI h1 l1 2 7 fun x4 => (zvr h1 x3 4 (zcI 79 [vR x3, vI x4, vI x2] h1 fun x6 h5 => (if x6 = 0 then (zgI h5 l0 3 2 fun x7 => (zgI h5 l1 2 14 fun x8 => (if x7 < (x8 + 30) then some (none, h5) else (zgI h5 l0 3 4 fun x9 => (zpI h5 l0 3 4 (x9 + 1) fun h10 => (zvr h10 l0 3 (zcV 81 [vR l0, vR l1, vI (-1)] h10 fun h11 => some (none, h11)))))))) else (zgI h5 l0 3 6 fun x12 => (zpI h5 l0 3 6 (x12 + x2) fun h13 => (zvr h13 l1 2 (zcV 94 [vR l1] h13 fun h14 => some (none, h14)))))))))))) := by
  refine Eq.trans ?_ (b92_0 l0 l1 h)
  unfold zcall zent
  rw [zL_92]
  rfl
theorem c93_0 : zcod 93 0 = some (.aload_n 0, 1, 0, 0, 0, 0) := by decide +kernel
theorem c93_1 : zcod 93 1 = some (.getfield 91, 3, 2, 12, 342, 0) := by decide +kernel
theorem c93_4 : zcod 93 4 = some (.iconst 1, 1, 0, 0, 0, 0) := by decide +kernel
theorem c93_5 : zcod 93 5 = some (.if_icmp .ne 10, 3, 15, 0, 0, 0) := by decide +kernel
theorem c93_8 : zcod 93 8 = some (.aload_n 0, 1, 0, 0, 0, 0) := by decide +kernel
theorem c93_9 : zcod 93 9 = some (.getfield 85, 3, 2, 11, 338, 0) := by decide +kernel
theorem c93_12 : zcod 93 12 = some (.goto 7, 3, 19, 0, 0, 0) := by decide +kernel
theorem c93_15 : zcod 93 15 = some (.aload_n 0, 1, 0, 0, 0, 0) := by decide +kernel
theorem c93_16 : zcod 93 16 = some (.getfield 88, 3, 2, 13, 343, 0) := by decide +kernel
theorem c93_19 : zcod 93 19 = some (.ireturn, 1, 0, 0, 0, 0) := by decide +kernel
set_option maxRecDepth 100000 in
theorem b93_0 (l0 : Option Nat) (h : zH) : zev 93 0 [some (vR l0)] [] h = (zgI h l0 2 12 fun x1 => (if x1 = 1 then (zgI h l0 2 11 fun x2 => some (some (vI x2), h)) else (zgI h l0 2 13 fun x3 => some (some (vI x3), h)))) := by
  refine (zv_an c93_0 rfl).trans ?_
  refine (zv_gI c93_1 zg2_12).trans (zgI_c fun x1 => ?_)
  refine (zv_k (v := 1) c93_4 (by decide)).trans ?_
  refine (zv_icne c93_5).trans (zif_c ?_ ?_)
  · refine (zv_an c93_8 rfl).trans ?_
    refine (zv_gI c93_9 zg2_11).trans (zgI_c fun x2 => ?_)
    refine (zv_goto c93_12).trans ?_
    exact zv_ir c93_19 zrt_93
  · refine (zv_an c93_15 rfl).trans ?_
    refine (zv_gI c93_16 zg2_13).trans (zgI_c fun x3 => ?_)
    exact zv_ir c93_19 zrt_93
theorem e93 (l0 : Option Nat) (h : zH) : zcall 93 [vR l0] h = (zgI h l0 2 12 fun x1 => (if x1 = 1 then (zgI h l0 2 11 fun x2 => some (some (vI x2), h)) else (zgI h l0 2 13 fun x3 => some (some (vI x3), h)))) := by
  refine Eq.trans ?_ (b93_0 l0 h)
  unfold zcall zent
  rw [zL_93]
  rfl
theorem c94_0 : zcod 94 0 = some (.aload_n 0, 1, 0, 0, 0, 0) := by decide +kernel
theorem c94_1 : zcod 94 1 = some (.dup, 1, 0, 0, 0, 0) := by decide +kernel
theorem c94_2 : zcod 94 2 = some (.getfield 85, 3, 2, 11, 338, 0) := by decide +kernel
theorem c94_5 : zcod 94 5 = some (.aload_n 0, 1, 0, 0, 0, 0) := by decide +kernel
theorem c94_6 : zcod 94 6 = some (.invokevirtual 97, 3, 93, 0, 722, 0) := by decide +kernel
theorem c94_9 : zcod 94 9 = some (.isub, 1, 0, 0, 0, 0) := by decide +kernel
theorem c94_10 : zcod 94 10 = some (.putfield 85, 3, 2, 11, 338, 0) := by decide +kernel
theorem c94_13 : zcod 94 13 = some (.aload_n 0, 1, 0, 0, 0, 0) := by decide +kernel
theorem c94_14 : zcod 94 14 = some (.dup, 1, 0, 0, 0, 0) := by decide +kernel
theorem c94_15 : zcod 94 15 = some (.getfield 91, 3, 2, 12, 342, 0) := by decide +kernel
theorem c94_18 : zcod 94 18 = some (.iconst 1, 1, 0, 0, 0, 0) := by decide +kernel
theorem c94_19 : zcod 94 19 = some (.isub, 1, 0, 0, 0, 0) := by decide +kernel
theorem c94_20 : zcod 94 20 = some (.putfield 91, 3, 2, 12, 342, 0) := by decide +kernel
theorem c94_23 : zcod 94 23 = some (.aload_n 0, 1, 0, 0, 0, 0) := by decide +kernel
theorem c94_24 : zcod 94 24 = some (.dup, 1, 0, 0, 0, 0) := by decide +kernel
theorem c94_25 : zcod 94 25 = some (.getfield 94, 3, 2, 14, 346, 0) := by decide +kernel
theorem c94_28 : zcod 94 28 = some (.bipush 100, 2, 0, 0, 0, 0) := by decide +kernel
theorem c94_30 : zcod 94 30 = some (.iadd, 1, 0, 0, 0, 0) := by decide +kernel
theorem c94_31 : zcod 94 31 = some (.putfield 94, 3, 2, 14, 346, 0) := by decide +kernel
theorem c94_34 : zcod 94 34 = some (.return_, 1, 0, 0, 0, 0) := by decide +kernel
set_option maxRecDepth 100000 in
theorem b94_0 (l0 : Option Nat) (h : zH) : zev 94 0 [some (vR l0)] [] h = (zgI h l0 2 11 fun x1 => (zvr h l0 2 (zcI 93 [vR l0] h fun x3 h2 => (zpI h2 l0 2 11 (x1 - x3) fun h4 => (zgI h4 l0 2 12 fun x5 => (zpI h4 l0 2 12 (x5 - 1) fun h6 => (zgI h6 l0 2 14 fun x7 => (zpI h6 l0 2 14 (x7 + 100) fun h8 => some (none, h8))))))))) := by
  refine (zv_an c94_0 rfl).trans ?_
  refine (zv_dup c94_1 rfl).trans ?_
  refine (zv_gI c94_2 zg2_11).trans (zgI_c fun x1 => ?_)
  refine (zv_an c94_5 rfl).trans ?_
  refine (zv_viI c94_6 zcn_93 rfl zL_93 (Or.inl zrt_93) rfl rfl).trans (zvr_c (zcI_c fun x3 h2 => ?_))
  refine (zv_isub c94_9).trans ?_
  refine (zv_pI c94_10 zf2_11).trans (zpI_c fun h4 => ?_)
  refine (zv_an c94_13 rfl).trans ?_
  refine (zv_dup c94_14 rfl).trans ?_
  refine (zv_gI c94_15 zg2_12).trans (zgI_c fun x5 => ?_)
  refine (zv_k (v := 1) c94_18 (by decide)).trans ?_
  refine (zv_isub c94_19).trans ?_
  refine (zv_pI c94_20 zf2_12).trans (zpI_c fun h6 => ?_)
  refine (zv_an c94_23 rfl).trans ?_
  refine (zv_dup c94_24 rfl).trans ?_
  refine (zv_gI c94_25 zg2_14).trans (zgI_c fun x7 => ?_)
  refine (zv_bi (v := 100) c94_28 (by decide)).trans ?_
  refine (zv_iadd c94_30).trans ?_
  refine (zv_pI c94_31 zf2_14).trans (zpI_c fun h8 => ?_)
  exact zv_vr c94_34 zrt_94
theorem e94 (l0 : Option Nat) (h : zH) : zcall 94 [vR l0] h = (zgI h l0 2 11 fun x1 => (zvr h l0 2 (zcI 93 [vR l0] h fun x3 h2 => (zpI h2 l0 2 11 (x1 - x3) fun h4 => (zgI h4 l0 2 12 fun x5 => (zpI h4 l0 2 12 (x5 - 1) fun h6 => (zgI h6 l0 2 14 fun x7 => (zpI h6 l0 2 14 (x7 + 100) fun h8 => some (none, h8))))))))) := by
  refine Eq.trans ?_ (b94_0 l0 h)
  unfold zcall zent
  rw [zL_94]
  rfl
theorem c95_0 : zcod 95 0 = some (.iconst 0, 1, 0, 0, 0, 0) := by decide +kernel
theorem c95_1 : zcod 95 1 = some (.istore_n 1, 1, 0, 0, 0, 0) := by decide +kernel
theorem c95_2 : zcod 95 2 = some (.iload_n 1, 1, 0, 0, 0, 0) := by decide +kernel
theorem c95_3 : zcod 95 3 = some (.aload_n 0, 1, 0, 0, 0, 0) := by decide +kernel
theorem c95_4 : zcod 95 4 = some (.getfield 12, 3, 3, 0, 182, 0) := by decide +kernel
theorem c95_7 : zcod 95 7 = some (.getfield 103, 3, 5, 2, 150, 0) := by decide +kernel
theorem c95_10 : zcod 95 10 = some (.invokevirtual 79, 3, 14, 0, 631, 0) := by decide +kernel
theorem c95_13 : zcod 95 13 = some (.if_icmp .ge 37, 3, 50, 0, 0, 0) := by decide +kernel
theorem c95_16 : zcod 95 16 = some (.aload_n 0, 1, 0, 0, 0, 0) := by decide +kernel
theorem c95_17 : zcod 95 17 = some (.getfield 12, 3, 3, 0, 182, 0) := by decide +kernel
theorem c95_20 : zcod 95 20 = some (.getfield 103, 3, 5, 2, 150, 0) := by decide +kernel
theorem c95_23 : zcod 95 23 = some (.iload_n 1, 1, 0, 0, 0, 0) := by decide +kernel
theorem c95_24 : zcod 95 24 = some (.invokevirtual 83, 3, 51, 1, 632, 0) := by decide +kernel
theorem c95_27 : zcod 95 27 = some (.checkcast 26, 3, 2, 0, 709, 0) := by decide +kernel
theorem c95_30 : zcod 95 30 = some (.astore_n 2, 1, 0, 0, 0, 0) := by decide +kernel
theorem c95_31 : zcod 95 31 = some (.aload_n 2, 1, 0, 0, 0, 0) := by decide +kernel
theorem c95_32 : zcod 95 32 = some (.getfield 119, 3, 2, 7, 328, 0) := by decide +kernel
theorem c95_35 : zcod 95 35 = some (.iconst (-1), 1, 0, 0, 0, 0) := by decide +kernel
theorem c95_36 : zcod 95 36 = some (.if_icmp .eq 8, 3, 44, 0, 0, 0) := by decide +kernel
theorem c95_39 : zcod 95 39 = some (.aload_n 0, 1, 0, 0, 0, 0) := by decide +kernel
theorem c95_40 : zcod 95 40 = some (.aload_n 2, 1, 0, 0, 0, 0) := by decide +kernel
theorem c95_41 : zcod 95 41 = some (.invokevirtual 128, 3, 96, 1, 727, 0) := by decide +kernel
theorem c95_44 : zcod 95 44 = some (.iinc 1 1, 3, 0, 0, 0, 0) := by decide +kernel
theorem c95_47 : zcod 95 47 = some (.goto (-45), 3, 2, 0, 0, 0) := by decide +kernel
theorem c95_50 : zcod 95 50 = some (.return_, 1, 0, 0, 0, 0) := by decide +kernel
set_option maxRecDepth 100000 in
theorem b95_0 (l0 : Option Nat) (h : zH) : zev 95 0 [some (vR l0), none, none] [] h = zev 95 2 [some (vR l0), some (vI 0), none] [] h := by
  refine (zv_k (v := 0) c95_0 (by decide)).trans ?_
  refine (zv_it c95_1 rfl).trans ?_
  rfl
theorem e95 (l0 : Option Nat) (h : zH) : zcall 95 [vR l0] h = zev 95 2 [some (vR l0), some (vI 0), none] [] h := by
  refine Eq.trans ?_ (b95_0 l0 h)
  unfold zcall zent
  rw [zL_95]
  rfl
set_option maxRecDepth 100000 in
theorem b95_2 (l0 : Option Nat) (l1 : Int32) (l2 : Option zV) (h : zH) : zev 95 2 [some (vR l0), some (vI l1), l2] [] h = (zgR h l0 3 0 fun x1 => (zgR h x1 5 2 fun x2 => (zvr h x2 0 (zcI 14 [vR x2] h fun x4 h3 => (if l1 < x4 then (zgR h3 l0 3 0 fun x5 => (zgR h3 x5 5 2 fun x6 => (zvr h3 x6 0 (zcR 51 [vR x6, vI l1] h3 fun x8 h7 => (zca h7 2 x8 ((zgI h7 x8 2 7 fun x9 => (if x9 = (-1) then zev 95 2 [some (vR l0), some (vI (l1 + 1)), some (vR x8)] [] h7 else (zvr h7 l0 3 (zcV 96 [vR l0, vR x8] h7 fun h10 => zev 95 2 [some (vR l0), some (vI (l1 + 1)), some (vR x8)] [] h10)))))))))) else some (none, h3)))))) := by
  refine (zv_in c95_2 rfl).trans ?_
  refine (zv_an c95_3 rfl).trans ?_
  refine (zv_gR c95_4 zf3_0).trans (zgR_c fun x1 => ?_)
  refine (zv_gR c95_7 zf5_2).trans (zgR_c fun x2 => ?_)
  refine (zv_viI c95_10 zcn_14 rfl zL_14 (Or.inl zrt_14) rfl rfl).trans (zvr_c (zcI_c fun x4 h3 => ?_))
  refine (zv_icge c95_13).trans (zif_c ?_ ?_)
  · refine (zv_an c95_16 rfl).trans ?_
    refine (zv_gR c95_17 zf3_0).trans (zgR_c fun x5 => ?_)
    refine (zv_gR c95_20 zf5_2).trans (zgR_c fun x6 => ?_)
    refine (zv_in c95_23 rfl).trans ?_
    refine (zv_viR c95_24 zcn_51 rfl zL_51 zrt_51 rfl rfl).trans (zvr_c (zcR_c fun x8 h7 => ?_))
    refine (zv_ca c95_27).trans (zca_c ?_)
    refine (zv_at c95_30 rfl).trans ?_
    refine (zv_an c95_31 rfl).trans ?_
    refine (zv_gI c95_32 zg2_7).trans (zgI_c fun x9 => ?_)
    refine (zv_k (v := -1) c95_35 (by decide)).trans ?_
    refine (zv_iceq c95_36).trans (zif_c ?_ ?_)
    · refine (zv_inc (y := 1) c95_44 rfl (by decide) rfl).trans ?_
      refine (zv_goto c95_47).trans ?_
      rfl
    · refine (zv_an c95_39 rfl).trans ?_
      refine (zv_an c95_40 rfl).trans ?_
      refine (zv_viV c95_41 zcn_96 rfl zL_96 zrt_96 rfl rfl).trans (zvr_c (zcV_c fun h10 => ?_))
      refine (zv_inc (y := 1) c95_44 rfl (by decide) rfl).trans ?_
      refine (zv_goto c95_47).trans ?_
      rfl
  · exact zv_vr c95_50 zrt_95
theorem c96_0 : zcod 96 0 = some (.aload_n 0, 1, 0, 0, 0, 0) := by decide +kernel
theorem c96_1 : zcod 96 1 = some (.getfield 131, 3, 3, 3, 188, 0) := by decide +kernel
theorem c96_4 : zcod 96 4 = some (.aload_n 0, 1, 0, 0, 0, 0) := by decide +kernel
theorem c96_5 : zcod 96 5 = some (.getfield 12, 3, 3, 0, 182, 0) := by decide +kernel
theorem c96_8 : zcod 96 8 = some (.aload_n 1, 1, 0, 0, 0, 0) := by decide +kernel
theorem c96_9 : zcod 96 9 = some (.invokevirtual 134, 3, 54, 1, 731, 0) := by decide +kernel
theorem c96_12 : zcod 96 12 = some (.imul, 1, 0, 0, 0, 0) := by decide +kernel
theorem c96_13 : zcod 96 13 = some (.bipush 100, 2, 0, 0, 0, 0) := by decide +kernel
theorem c96_15 : zcod 96 15 = some (.idiv, 1, 0, 0, 0, 0) := by decide +kernel
theorem c96_16 : zcod 96 16 = some (.istore_n 2, 1, 0, 0, 0, 0) := by decide +kernel
theorem c96_17 : zcod 96 17 = some (.aload_n 0, 1, 0, 0, 0, 0) := by decide +kernel
theorem c96_18 : zcod 96 18 = some (.getfield 21, 3, 3, 1, 184, 0) := by decide +kernel
theorem c96_21 : zcod 96 21 = some (.aload_n 1, 1, 0, 0, 0, 0) := by decide +kernel
theorem c96_22 : zcod 96 22 = some (.getfield 119, 3, 2, 7, 328, 0) := by decide +kernel
theorem c96_25 : zcod 96 25 = some (.iload_n 2, 1, 0, 0, 0, 0) := by decide +kernel
theorem c96_26 : zcod 96 26 = some (.invokevirtual 65, 3, 79, 2, 639, 0) := by decide +kernel
theorem c96_29 : zcod 96 29 = some (.ifCond .eq 19, 3, 48, 0, 0, 0) := by decide +kernel
theorem c96_32 : zcod 96 32 = some (.aload_n 0, 1, 0, 0, 0, 0) := by decide +kernel
theorem c96_33 : zcod 96 33 = some (.dup, 1, 0, 0, 0, 0) := by decide +kernel
theorem c96_34 : zcod 96 34 = some (.getfield 138, 3, 3, 7, 196, 0) := by decide +kernel
theorem c96_37 : zcod 96 37 = some (.iload_n 2, 1, 0, 0, 0, 0) := by decide +kernel
theorem c96_38 : zcod 96 38 = some (.iadd, 1, 0, 0, 0, 0) := by decide +kernel
theorem c96_39 : zcod 96 39 = some (.putfield 138, 3, 3, 7, 196, 0) := by decide +kernel
theorem c96_42 : zcod 96 42 = some (.aload_n 1, 1, 0, 0, 0, 0) := by decide +kernel
theorem c96_43 : zcod 96 43 = some (.iconst 0, 1, 0, 0, 0, 0) := by decide +kernel
theorem c96_44 : zcod 96 44 = some (.putfield 141, 3, 2, 15, 348, 0) := by decide +kernel
theorem c96_47 : zcod 96 47 = some (.return_, 1, 0, 0, 0, 0) := by decide +kernel
theorem c96_48 : zcod 96 48 = some (.aload_n 1, 1, 0, 0, 0, 0) := by decide +kernel
theorem c96_49 : zcod 96 49 = some (.dup, 1, 0, 0, 0, 0) := by decide +kernel
theorem c96_50 : zcod 96 50 = some (.getfield 141, 3, 2, 15, 348, 0) := by decide +kernel
theorem c96_53 : zcod 96 53 = some (.iconst 1, 1, 0, 0, 0, 0) := by decide +kernel
theorem c96_54 : zcod 96 54 = some (.iadd, 1, 0, 0, 0, 0) := by decide +kernel
theorem c96_55 : zcod 96 55 = some (.putfield 141, 3, 2, 15, 348, 0) := by decide +kernel
theorem c96_58 : zcod 96 58 = some (.aload_n 1, 1, 0, 0, 0, 0) := by decide +kernel
theorem c96_59 : zcod 96 59 = some (.getfield 141, 3, 2, 15, 348, 0) := by decide +kernel
theorem c96_62 : zcod 96 62 = some (.iconst 2, 1, 0, 0, 0, 0) := by decide +kernel
theorem c96_63 : zcod 96 63 = some (.if_icmp .lt 19, 3, 82, 0, 0, 0) := by decide +kernel
theorem c96_66 : zcod 96 66 = some (.aload_n 0, 1, 0, 0, 0, 0) := by decide +kernel
theorem c96_67 : zcod 96 67 = some (.dup, 1, 0, 0, 0, 0) := by decide +kernel
theorem c96_68 : zcod 96 68 = some (.getfield 144, 3, 3, 5, 192, 0) := by decide +kernel
theorem c96_71 : zcod 96 71 = some (.iconst 1, 1, 0, 0, 0, 0) := by decide +kernel
theorem c96_72 : zcod 96 72 = some (.iadd, 1, 0, 0, 0, 0) := by decide +kernel
theorem c96_73 : zcod 96 73 = some (.putfield 144, 3, 3, 5, 192, 0) := by decide +kernel
theorem c96_76 : zcod 96 76 = some (.aload_n 0, 1, 0, 0, 0, 0) := by decide +kernel
theorem c96_77 : zcod 96 77 = some (.aload_n 1, 1, 0, 0, 0, 0) := by decide +kernel
theorem c96_78 : zcod 96 78 = some (.iconst (-1), 1, 0, 0, 0, 0) := by decide +kernel
theorem c96_79 : zcod 96 79 = some (.invokevirtual 75, 3, 81, 2, 649, 0) := by decide +kernel
theorem c96_82 : zcod 96 82 = some (.return_, 1, 0, 0, 0, 0) := by decide +kernel
set_option maxRecDepth 100000 in
theorem b96_0 (l0 : Option Nat) (l1 : Option Nat) (h : zH) : zev 96 0 [some (vR l0), some (vR l1), none] [] h = (zgI h l0 3 3 fun x1 => (zgR h l0 3 0 fun x2 => (zvr h x2 5 (zcI 54 [vR x2, vR l1] h fun x4 h3 => (zdv 100 ((zgR h3 l0 3 1 fun x5 => (zgI h3 l1 2 7 fun x6 => (zvr h3 x5 4 (zcI 79 [vR x5, vI x6, vI ((x1 * x4) / 100)] h3 fun x8 h7 => (if x8 = 0 then (zgI h7 l1 2 15 fun x9 => (zpI h7 l1 2 15 (x9 + 1) fun h10 => (zgI h10 l1 2 15 fun x11 => (if x11 < 2 then some (none, h10) else (zgI h10 l0 3 5 fun x12 => (zpI h10 l0 3 5 (x12 + 1) fun h13 => (zvr h13 l0 3 (zcV 81 [vR l0, vR l1, vI (-1)] h13 fun h14 => some (none, h14))))))))) else (zgI h7 l0 3 7 fun x15 => (zpI h7 l0 3 7 (x15 + ((x1 * x4) / 100)) fun h16 => (zpI h16 l1 2 15 0 fun h17 => some (none, h17))))))))))))))) := by
  refine (zv_an c96_0 rfl).trans ?_
  refine (zv_gI c96_1 zg3_3).trans (zgI_c fun x1 => ?_)
  refine (zv_an c96_4 rfl).trans ?_
  refine (zv_gR c96_5 zf3_0).trans (zgR_c fun x2 => ?_)
  refine (zv_an c96_8 rfl).trans ?_
  refine (zv_viI c96_9 zcn_54 rfl zL_54 (Or.inl zrt_54) rfl rfl).trans (zvr_c (zcI_c fun x4 h3 => ?_))
  refine (zv_imul c96_12).trans ?_
  refine (zv_bi (v := 100) c96_13 (by decide)).trans ?_
  refine (zv_div c96_15).trans (zdv_c ?_)
  refine (zv_it c96_16 rfl).trans ?_
  refine (zv_an c96_17 rfl).trans ?_
  refine (zv_gR c96_18 zf3_1).trans (zgR_c fun x5 => ?_)
  refine (zv_an c96_21 rfl).trans ?_
  refine (zv_gI c96_22 zg2_7).trans (zgI_c fun x6 => ?_)
  refine (zv_in c96_25 rfl).trans ?_
  refine (zv_viI c96_26 zcn_79 rfl zL_79 (Or.inr zrt_79) rfl rfl).trans (zvr_c (zcI_c fun x8 h7 => ?_))
  refine (zv_ifeq c96_29).trans (zif_c ?_ ?_)
  · refine (zv_an c96_48 rfl).trans ?_
    refine (zv_dup c96_49 rfl).trans ?_
    refine (zv_gI c96_50 zg2_15).trans (zgI_c fun x9 => ?_)
    refine (zv_k (v := 1) c96_53 (by decide)).trans ?_
    refine (zv_iadd c96_54).trans ?_
    refine (zv_pI c96_55 zf2_15).trans (zpI_c fun h10 => ?_)
    refine (zv_an c96_58 rfl).trans ?_
    refine (zv_gI c96_59 zg2_15).trans (zgI_c fun x11 => ?_)
    refine (zv_k (v := 2) c96_62 (by decide)).trans ?_
    refine (zv_iclt c96_63).trans (zif_c ?_ ?_)
    · exact zv_vr c96_82 zrt_96
    · refine (zv_an c96_66 rfl).trans ?_
      refine (zv_dup c96_67 rfl).trans ?_
      refine (zv_gI c96_68 zg3_5).trans (zgI_c fun x12 => ?_)
      refine (zv_k (v := 1) c96_71 (by decide)).trans ?_
      refine (zv_iadd c96_72).trans ?_
      refine (zv_pI c96_73 zf3_5).trans (zpI_c fun h13 => ?_)
      refine (zv_an c96_76 rfl).trans ?_
      refine (zv_an c96_77 rfl).trans ?_
      refine (zv_k (v := -1) c96_78 (by decide)).trans ?_
      refine (zv_viV c96_79 zcn_81 rfl zL_81 zrt_81 rfl rfl).trans (zvr_c (zcV_c fun h14 => ?_))
      exact zv_vr c96_82 zrt_96
  · refine (zv_an c96_32 rfl).trans ?_
    refine (zv_dup c96_33 rfl).trans ?_
    refine (zv_gI c96_34 zg3_7).trans (zgI_c fun x15 => ?_)
    refine (zv_in c96_37 rfl).trans ?_
    refine (zv_iadd c96_38).trans ?_
    refine (zv_pI c96_39 zf3_7).trans (zpI_c fun h16 => ?_)
    refine (zv_an c96_42 rfl).trans ?_
    refine (zv_k (v := 0) c96_43 (by decide)).trans ?_
    refine (zv_pI c96_44 zf2_15).trans (zpI_c fun h17 => ?_)
    exact zv_vr c96_47 zrt_96
theorem e96 (l0 : Option Nat) (l1 : Option Nat) (h : zH) : zcall 96 [vR l0, vR l1] h = (zgI h l0 3 3 fun x1 => (zgR h l0 3 0 fun x2 => (zvr h x2 5 (zcI 54 [vR x2, vR l1] h fun x4 h3 => (zdv 100 ((zgR h3 l0 3 1 fun x5 => (zgI h3 l1 2 7 fun x6 => (zvr h3 x5 4 (zcI 79 [vR x5, vI x6, vI ((x1 * x4) / 100)] h3 fun x8 h7 => (if x8 = 0 then (zgI h7 l1 2 15 fun x9 => (zpI h7 l1 2 15 (x9 + 1) fun h10 => (zgI h10 l1 2 15 fun x11 => (if x11 < 2 then some (none, h10) else (zgI h10 l0 3 5 fun x12 => (zpI h10 l0 3 5 (x12 + 1) fun h13 => (zvr h13 l0 3 (zcV 81 [vR l0, vR l1, vI (-1)] h13 fun h14 => some (none, h14))))))))) else (zgI h7 l0 3 7 fun x15 => (zpI h7 l0 3 7 (x15 + ((x1 * x4) / 100)) fun h16 => (zpI h16 l1 2 15 0 fun h17 => some (none, h17))))))))))))))) := by
  refine Eq.trans ?_ (b96_0 l0 l1 h)
  unfold zcall zent
  rw [zL_96]
  rfl
theorem c97_0 : zcod 97 0 = some (.iconst 0, 1, 0, 0, 0, 0) := by decide +kernel
theorem c97_1 : zcod 97 1 = some (.istore_n 1, 1, 0, 0, 0, 0) := by decide +kernel
theorem c97_2 : zcod 97 2 = some (.iload_n 1, 1, 0, 0, 0, 0) := by decide +kernel
theorem c97_3 : zcod 97 3 = some (.aload_n 0, 1, 0, 0, 0, 0) := by decide +kernel
theorem c97_4 : zcod 97 4 = some (.getfield 21, 3, 3, 1, 184, 0) := by decide +kernel
theorem c97_7 : zcod 97 7 = some (.getfield 147, 3, 4, 1, 175, 0) := by decide +kernel
theorem c97_10 : zcod 97 10 = some (.if_icmp .ge 39, 3, 49, 0, 0, 0) := by decide +kernel
theorem c97_13 : zcod 97 13 = some (.aload_n 0, 1, 0, 0, 0, 0) := by decide +kernel
theorem c97_14 : zcod 97 14 = some (.getfield 12, 3, 3, 0, 182, 0) := by decide +kernel
theorem c97_17 : zcod 97 17 = some (.iload_n 1, 1, 0, 0, 0, 0) := by decide +kernel
theorem c97_18 : zcod 97 18 = some (.invokevirtual 149, 3, 98, 1, 736, 0) := by decide +kernel
theorem c97_21 : zcod 97 21 = some (.iconst (-1), 1, 0, 0, 0, 0) := by decide +kernel
theorem c97_22 : zcod 97 22 = some (.if_icmp .ne 21, 3, 43, 0, 0, 0) := by decide +kernel
theorem c97_25 : zcod 97 25 = some (.aload_n 0, 1, 0, 0, 0, 0) := by decide +kernel
theorem c97_26 : zcod 97 26 = some (.getfield 12, 3, 3, 0, 182, 0) := by decide +kernel
theorem c97_29 : zcod 97 29 = some (.iload_n 1, 1, 0, 0, 0, 0) := by decide +kernel
theorem c97_30 : zcod 97 30 = some (.invokevirtual 152, 3, 99, 1, 740, 0) := by decide +kernel
theorem c97_33 : zcod 97 33 = some (.astore_n 2, 1, 0, 0, 0, 0) := by decide +kernel
theorem c97_34 : zcod 97 34 = some (.aload_n 2, 1, 0, 0, 0, 0) := by decide +kernel
theorem c97_35 : zcod 97 35 = some (.ifnull 8, 3, 43, 0, 0, 0) := by decide +kernel
theorem c97_38 : zcod 97 38 = some (.aload_n 2, 1, 0, 0, 0, 0) := by decide +kernel
theorem c97_39 : zcod 97 39 = some (.iconst 1, 1, 0, 0, 0, 0) := by decide +kernel
theorem c97_40 : zcod 97 40 = some (.putfield 156, 3, 2, 10, 335, 0) := by decide +kernel
theorem c97_43 : zcod 97 43 = some (.iinc 1 1, 3, 0, 0, 0, 0) := by decide +kernel
theorem c97_46 : zcod 97 46 = some (.goto (-44), 3, 2, 0, 0, 0) := by decide +kernel
theorem c97_49 : zcod 97 49 = some (.return_, 1, 0, 0, 0, 0) := by decide +kernel
set_option maxRecDepth 100000 in
theorem b97_0 (l0 : Option Nat) (h : zH) : zev 97 0 [some (vR l0), none, none] [] h = zev 97 2 [some (vR l0), some (vI 0), none] [] h := by
  refine (zv_k (v := 0) c97_0 (by decide)).trans ?_
  refine (zv_it c97_1 rfl).trans ?_
  rfl
theorem e97 (l0 : Option Nat) (h : zH) : zcall 97 [vR l0] h = zev 97 2 [some (vR l0), some (vI 0), none] [] h := by
  refine Eq.trans ?_ (b97_0 l0 h)
  unfold zcall zent
  rw [zL_97]
  rfl
set_option maxRecDepth 100000 in
theorem b97_2 (l0 : Option Nat) (l1 : Int32) (l2 : Option zV) (h : zH) : zev 97 2 [some (vR l0), some (vI l1), l2] [] h = (zgR h l0 3 1 fun x1 => (zgI h x1 4 1 fun x2 => (if l1 < x2 then (zgR h l0 3 0 fun x3 => (zvr h x3 5 (zcI 98 [vR x3, vI l1] h fun x5 h4 => (if x5 = (-1) then (zgR h4 l0 3 0 fun x6 => (zvr h4 x6 5 (zcR 99 [vR x6, vI l1] h4 fun x8 h7 => (zul x8 (zev 97 2 [some (vR l0), some (vI (l1 + 1)), some (vR x8)] [] h7) ((zpZ h7 x8 2 10 1 fun h9 => zev 97 2 [some (vR l0), some (vI (l1 + 1)), some (vR x8)] [] h9)))))) else zev 97 2 [some (vR l0), some (vI (l1 + 1)), l2] [] h4)))) else some (none, h)))) := by
  refine (zv_in c97_2 rfl).trans ?_
  refine (zv_an c97_3 rfl).trans ?_
  refine (zv_gR c97_4 zf3_1).trans (zgR_c fun x1 => ?_)
  refine (zv_gI c97_7 zg4_1).trans (zgI_c fun x2 => ?_)
  refine (zv_icge c97_10).trans (zif_c ?_ ?_)
  · refine (zv_an c97_13 rfl).trans ?_
    refine (zv_gR c97_14 zf3_0).trans (zgR_c fun x3 => ?_)
    refine (zv_in c97_17 rfl).trans ?_
    refine (zv_viI c97_18 zcn_98 rfl zL_98 (Or.inl zrt_98) rfl rfl).trans (zvr_c (zcI_c fun x5 h4 => ?_))
    refine (zv_k (v := -1) c97_21 (by decide)).trans ?_
    refine (zv_icne c97_22).trans (zif_c ?_ ?_)
    · refine (zv_an c97_25 rfl).trans ?_
      refine (zv_gR c97_26 zf3_0).trans (zgR_c fun x6 => ?_)
      refine (zv_in c97_29 rfl).trans ?_
      refine (zv_viR c97_30 zcn_99 rfl zL_99 zrt_99 rfl rfl).trans (zvr_c (zcR_c fun x8 h7 => ?_))
      refine (zv_at c97_33 rfl).trans ?_
      refine (zv_an c97_34 rfl).trans ?_
      refine (zv_nu c97_35).trans (zul_c ?_ ?_)
      · refine (zv_inc (y := 1) c97_43 rfl (by decide) rfl).trans ?_
        refine (zv_goto c97_46).trans ?_
        rfl
      · refine (zv_an c97_38 rfl).trans ?_
        refine (zv_k (v := 1) c97_39 (by decide)).trans ?_
        refine (zv_pZ c97_40 zf2_10).trans (zpZ_c fun h9 => ?_)
        refine (zv_inc (y := 1) c97_43 rfl (by decide) rfl).trans ?_
        refine (zv_goto c97_46).trans ?_
        rfl
    · refine (zv_inc (y := 1) c97_43 rfl (by decide) rfl).trans ?_
      refine (zv_goto c97_46).trans ?_
      rfl
  · exact zv_vr c97_49 zrt_97
theorem c98_0 : zcod 98 0 = some (.iconst 0, 1, 0, 0, 0, 0) := by decide +kernel
theorem c98_1 : zcod 98 1 = some (.istore_n 2, 1, 0, 0, 0, 0) := by decide +kernel
theorem c98_2 : zcod 98 2 = some (.iload_n 2, 1, 0, 0, 0, 0) := by decide +kernel
theorem c98_3 : zcod 98 3 = some (.aload_n 0, 1, 0, 0, 0, 0) := by decide +kernel
theorem c98_4 : zcod 98 4 = some (.getfield 22, 3, 5, 2, 147, 0) := by decide +kernel
theorem c98_7 : zcod 98 7 = some (.invokevirtual 36, 3, 14, 0, 300, 0) := by decide +kernel
theorem c98_10 : zcod 98 10 = some (.if_icmp .ge 38, 3, 48, 0, 0, 0) := by decide +kernel
theorem c98_13 : zcod 98 13 = some (.aload_n 0, 1, 0, 0, 0, 0) := by decide +kernel
theorem c98_14 : zcod 98 14 = some (.getfield 22, 3, 5, 2, 147, 0) := by decide +kernel
theorem c98_17 : zcod 98 17 = some (.iload_n 2, 1, 0, 0, 0, 0) := by decide +kernel
theorem c98_18 : zcod 98 18 = some (.invokevirtual 40, 3, 51, 1, 503, 0) := by decide +kernel
theorem c98_21 : zcod 98 21 = some (.checkcast 44, 3, 2, 0, 301, 0) := by decide +kernel
theorem c98_24 : zcod 98 24 = some (.astore_n 3, 1, 0, 0, 0, 0) := by decide +kernel
theorem c98_25 : zcod 98 25 = some (.aload_n 3, 1, 0, 0, 0, 0) := by decide +kernel
theorem c98_26 : zcod 98 26 = some (.getfield 107, 3, 2, 10, 336, 0) := by decide +kernel
theorem c98_29 : zcod 98 29 = some (.ifCond .eq 13, 3, 42, 0, 0, 0) := by decide +kernel
theorem c98_32 : zcod 98 32 = some (.aload_n 3, 1, 0, 0, 0, 0) := by decide +kernel
theorem c98_33 : zcod 98 33 = some (.getfield 117, 3, 2, 7, 329, 0) := by decide +kernel
theorem c98_36 : zcod 98 36 = some (.iload_n 1, 1, 0, 0, 0, 0) := by decide +kernel
theorem c98_37 : zcod 98 37 = some (.if_icmp .ne 5, 3, 42, 0, 0, 0) := by decide +kernel
theorem c98_40 : zcod 98 40 = some (.iload_n 2, 1, 0, 0, 0, 0) := by decide +kernel
theorem c98_41 : zcod 98 41 = some (.ireturn, 1, 0, 0, 0, 0) := by decide +kernel
theorem c98_42 : zcod 98 42 = some (.iinc 2 1, 3, 0, 0, 0, 0) := by decide +kernel
theorem c98_45 : zcod 98 45 = some (.goto (-43), 3, 2, 0, 0, 0) := by decide +kernel
theorem c98_48 : zcod 98 48 = some (.iconst (-1), 1, 0, 0, 0, 0) := by decide +kernel
theorem c98_49 : zcod 98 49 = some (.ireturn, 1, 0, 0, 0, 0) := by decide +kernel
set_option maxRecDepth 100000 in
theorem b98_0 (l0 : Option Nat) (l1 : Int32) (h : zH) : zev 98 0 [some (vR l0), some (vI l1), none, none] [] h = zev 98 2 [some (vR l0), some (vI l1), some (vI 0), none] [] h := by
  refine (zv_k (v := 0) c98_0 (by decide)).trans ?_
  refine (zv_it c98_1 rfl).trans ?_
  rfl
theorem e98 (l0 : Option Nat) (l1 : Int32) (h : zH) : zcall 98 [vR l0, vI l1] h = zev 98 2 [some (vR l0), some (vI l1), some (vI 0), none] [] h := by
  refine Eq.trans ?_ (b98_0 l0 l1 h)
  unfold zcall zent
  rw [zL_98]
  rfl
set_option maxRecDepth 100000 in
theorem b98_2 (l0 : Option Nat) (l1 : Int32) (l2 : Int32) (l3 : Option zV) (h : zH) : zev 98 2 [some (vR l0), some (vI l1), some (vI l2), l3] [] h = (zgR h l0 5 2 fun x1 => (zvr h x1 0 (zcI 14 [vR x1] h fun x3 h2 => (if l2 < x3 then (zgR h2 l0 5 2 fun x4 => (zvr h2 x4 0 (zcR 51 [vR x4, vI l2] h2 fun x6 h5 => (zca h5 2 x6 ((zgI h5 x6 2 10 fun x7 => (if x7 = 0 then zev 98 2 [some (vR l0), some (vI l1), some (vI (l2 + 1)), some (vR x6)] [] h5 else (zgI h5 x6 2 7 fun x8 => (if x8 = l1 then some (some (vI l2), h5) else zev 98 2 [some (vR l0), some (vI l1), some (vI (l2 + 1)), some (vR x6)] [] h5))))))))) else some (some (vI (-1)), h2))))) := by
  refine (zv_in c98_2 rfl).trans ?_
  refine (zv_an c98_3 rfl).trans ?_
  refine (zv_gR c98_4 zf5_2).trans (zgR_c fun x1 => ?_)
  refine (zv_viI c98_7 zcn_14 rfl zL_14 (Or.inl zrt_14) rfl rfl).trans (zvr_c (zcI_c fun x3 h2 => ?_))
  refine (zv_icge c98_10).trans (zif_c ?_ ?_)
  · refine (zv_an c98_13 rfl).trans ?_
    refine (zv_gR c98_14 zf5_2).trans (zgR_c fun x4 => ?_)
    refine (zv_in c98_17 rfl).trans ?_
    refine (zv_viR c98_18 zcn_51 rfl zL_51 zrt_51 rfl rfl).trans (zvr_c (zcR_c fun x6 h5 => ?_))
    refine (zv_ca c98_21).trans (zca_c ?_)
    refine (zv_at c98_24 rfl).trans ?_
    refine (zv_an c98_25 rfl).trans ?_
    refine (zv_gI c98_26 zg2_10).trans (zgI_c fun x7 => ?_)
    refine (zv_ifeq c98_29).trans (zif_c ?_ ?_)
    · refine (zv_inc (y := 1) c98_42 rfl (by decide) rfl).trans ?_
      refine (zv_goto c98_45).trans ?_
      rfl
    · refine (zv_an c98_32 rfl).trans ?_
      refine (zv_gI c98_33 zg2_7).trans (zgI_c fun x8 => ?_)
      refine (zv_in c98_36 rfl).trans ?_
      refine (zv_icne c98_37).trans (zif_c ?_ ?_)
      · refine (zv_in c98_40 rfl).trans ?_
        exact zv_ir c98_41 zrt_98
      · refine (zv_inc (y := 1) c98_42 rfl (by decide) rfl).trans ?_
        refine (zv_goto c98_45).trans ?_
        rfl
  · refine (zv_k (v := -1) c98_48 (by decide)).trans ?_
    exact zv_ir c98_49 zrt_98
theorem c99_0 : zcod 99 0 = some (.aconst_null, 1, 0, 0, 0, 0) := by decide +kernel
theorem c99_1 : zcod 99 1 = some (.astore_n 2, 1, 0, 0, 0, 0) := by decide +kernel
theorem c99_2 : zcod 99 2 = some (.iconst 0, 1, 0, 0, 0, 0) := by decide +kernel
theorem c99_3 : zcod 99 3 = some (.istore_n 3, 1, 0, 0, 0, 0) := by decide +kernel
theorem c99_4 : zcod 99 4 = some (.iconst 0, 1, 0, 0, 0, 0) := by decide +kernel
theorem c99_5 : zcod 99 5 = some (.istore 4, 2, 0, 0, 0, 0) := by decide +kernel
theorem c99_7 : zcod 99 7 = some (.iload 4, 2, 0, 0, 0, 0) := by decide +kernel
theorem c99_9 : zcod 99 9 = some (.aload_n 0, 1, 0, 0, 0, 0) := by decide +kernel
theorem c99_10 : zcod 99 10 = some (.getfield 22, 3, 5, 2, 147, 0) := by decide +kernel
theorem c99_13 : zcod 99 13 = some (.invokevirtual 36, 3, 14, 0, 300, 0) := by decide +kernel
theorem c99_16 : zcod 99 16 = some (.if_icmp .ge 56, 3, 72, 0, 0, 0) := by decide +kernel
theorem c99_19 : zcod 99 19 = some (.aload_n 0, 1, 0, 0, 0, 0) := by decide +kernel
theorem c99_20 : zcod 99 20 = some (.getfield 22, 3, 5, 2, 147, 0) := by decide +kernel
theorem c99_23 : zcod 99 23 = some (.iload 4, 2, 0, 0, 0, 0) := by decide +kernel
theorem c99_25 : zcod 99 25 = some (.invokevirtual 40, 3, 51, 1, 503, 0) := by decide +kernel
theorem c99_28 : zcod 99 28 = some (.checkcast 44, 3, 2, 0, 301, 0) := by decide +kernel
theorem c99_31 : zcod 99 31 = some (.astore 5, 2, 0, 0, 0, 0) := by decide +kernel
theorem c99_33 : zcod 99 33 = some (.aload 5, 2, 0, 0, 0, 0) := by decide +kernel
theorem c99_35 : zcod 99 35 = some (.getfield 117, 3, 2, 7, 329, 0) := by decide +kernel
theorem c99_38 : zcod 99 38 = some (.iload_n 1, 1, 0, 0, 0, 0) := by decide +kernel
theorem c99_39 : zcod 99 39 = some (.if_icmp .ne 27, 3, 66, 0, 0, 0) := by decide +kernel
theorem c99_42 : zcod 99 42 = some (.aload_n 0, 1, 0, 0, 0, 0) := by decide +kernel
theorem c99_43 : zcod 99 43 = some (.aload 5, 2, 0, 0, 0, 0) := by decide +kernel
theorem c99_45 : zcod 99 45 = some (.invokevirtual 123, 3, 54, 1, 744, 0) := by decide +kernel
theorem c99_48 : zcod 99 48 = some (.istore 6, 2, 0, 0, 0, 0) := by decide +kernel
theorem c99_50 : zcod 99 50 = some (.aload_n 2, 1, 0, 0, 0, 0) := by decide +kernel
theorem c99_51 : zcod 99 51 = some (.ifnull 9, 3, 60, 0, 0, 0) := by decide +kernel
theorem c99_54 : zcod 99 54 = some (.iload 6, 2, 0, 0, 0, 0) := by decide +kernel
theorem c99_56 : zcod 99 56 = some (.iload_n 3, 1, 0, 0, 0, 0) := by decide +kernel
theorem c99_57 : zcod 99 57 = some (.if_icmp .le 9, 3, 66, 0, 0, 0) := by decide +kernel
theorem c99_60 : zcod 99 60 = some (.aload 5, 2, 0, 0, 0, 0) := by decide +kernel
theorem c99_62 : zcod 99 62 = some (.astore_n 2, 1, 0, 0, 0, 0) := by decide +kernel
theorem c99_63 : zcod 99 63 = some (.iload 6, 2, 0, 0, 0, 0) := by decide +kernel
theorem c99_65 : zcod 99 65 = some (.istore_n 3, 1, 0, 0, 0, 0) := by decide +kernel
theorem c99_66 : zcod 99 66 = some (.iinc 4 1, 3, 0, 0, 0, 0) := by decide +kernel
theorem c99_69 : zcod 99 69 = some (.goto (-62), 3, 7, 0, 0, 0) := by decide +kernel
theorem c99_72 : zcod 99 72 = some (.aload_n 2, 1, 0, 0, 0, 0) := by decide +kernel
theorem c99_73 : zcod 99 73 = some (.areturn, 1, 0, 0, 0, 0) := by decide +kernel
set_option maxRecDepth 100000 in
theorem b99_0 (l0 : Option Nat) (l1 : Int32) (h : zH) : zev 99 0 [some (vR l0), some (vI l1), none, none, none, none, none] [] h = zev 99 7 [some (vR l0), some (vI l1), some (vR none), some (vI 0), some (vI 0), none, none] [] h := by
  refine (zv_null c99_0).trans ?_
  refine (zv_at c99_1 rfl).trans ?_
  refine (zv_k (v := 0) c99_2 (by decide)).trans ?_
  refine (zv_it c99_3 rfl).trans ?_
  refine (zv_k (v := 0) c99_4 (by decide)).trans ?_
  refine (zv_is c99_5 rfl).trans ?_
  rfl
theorem e99 (l0 : Option Nat) (l1 : Int32) (h : zH) : zcall 99 [vR l0, vI l1] h = zev 99 7 [some (vR l0), some (vI l1), some (vR none), some (vI 0), some (vI 0), none, none] [] h := by
  refine Eq.trans ?_ (b99_0 l0 l1 h)
  unfold zcall zent
  rw [zL_99]
  rfl
set_option maxRecDepth 100000 in
theorem b99_7 (l0 : Option Nat) (l1 : Int32) (l2 : Option Nat) (l3 : Int32) (l4 : Int32) (l5 : Option zV) (l6 : Option zV) (h : zH) : zev 99 7 [some (vR l0), some (vI l1), some (vR l2), some (vI l3), some (vI l4), l5, l6] [] h = (zgR h l0 5 2 fun x1 => (zvr h x1 0 (zcI 14 [vR x1] h fun x3 h2 => (if l4 < x3 then (zgR h2 l0 5 2 fun x4 => (zvr h2 x4 0 (zcR 51 [vR x4, vI l4] h2 fun x6 h5 => (zca h5 2 x6 ((zgI h5 x6 2 7 fun x7 => (if x7 = l1 then (zvr h5 l0 5 (zcI 54 [vR l0, vR x6] h5 fun x9 h8 => (zul l2 (zev 99 7 [some (vR l0), some (vI l1), some (vR x6), some (vI x9), some (vI (l4 + 1)), some (vR x6), some (vI x9)] [] h8) ((if l3 < x9 then zev 99 7 [some (vR l0), some (vI l1), some (vR x6), some (vI x9), some (vI (l4 + 1)), some (vR x6), some (vI x9)] [] h8 else zev 99 7 [some (vR l0), some (vI l1), some (vR l2), some (vI l3), some (vI (l4 + 1)), some (vR x6), some (vI x9)] [] h8))))) else zev 99 7 [some (vR l0), some (vI l1), some (vR l2), some (vI l3), some (vI (l4 + 1)), some (vR x6), l6] [] h5))))))) else some (some (vR l2), h2))))) := by
  refine (zv_il c99_7 rfl).trans ?_
  refine (zv_an c99_9 rfl).trans ?_
  refine (zv_gR c99_10 zf5_2).trans (zgR_c fun x1 => ?_)
  refine (zv_viI c99_13 zcn_14 rfl zL_14 (Or.inl zrt_14) rfl rfl).trans (zvr_c (zcI_c fun x3 h2 => ?_))
  refine (zv_icge c99_16).trans (zif_c ?_ ?_)
  · refine (zv_an c99_19 rfl).trans ?_
    refine (zv_gR c99_20 zf5_2).trans (zgR_c fun x4 => ?_)
    refine (zv_il c99_23 rfl).trans ?_
    refine (zv_viR c99_25 zcn_51 rfl zL_51 zrt_51 rfl rfl).trans (zvr_c (zcR_c fun x6 h5 => ?_))
    refine (zv_ca c99_28).trans (zca_c ?_)
    refine (zv_as c99_31 rfl).trans ?_
    refine (zv_al c99_33 rfl).trans ?_
    refine (zv_gI c99_35 zg2_7).trans (zgI_c fun x7 => ?_)
    refine (zv_in c99_38 rfl).trans ?_
    refine (zv_icne c99_39).trans (zif_c ?_ ?_)
    · refine (zv_an c99_42 rfl).trans ?_
      refine (zv_al c99_43 rfl).trans ?_
      refine (zv_viI c99_45 zcn_54 rfl zL_54 (Or.inl zrt_54) rfl rfl).trans (zvr_c (zcI_c fun x9 h8 => ?_))
      refine (zv_is c99_48 rfl).trans ?_
      refine (zv_an c99_50 rfl).trans ?_
      refine (zv_nu c99_51).trans (zul_c ?_ ?_)
      · refine (zv_al c99_60 rfl).trans ?_
        refine (zv_at c99_62 rfl).trans ?_
        refine (zv_il c99_63 rfl).trans ?_
        refine (zv_it c99_65 rfl).trans ?_
        refine (zv_inc (y := 1) c99_66 rfl (by decide) rfl).trans ?_
        refine (zv_goto c99_69).trans ?_
        rfl
      · refine (zv_il c99_54 rfl).trans ?_
        refine (zv_in c99_56 rfl).trans ?_
        refine (zv_icle c99_57).trans (zif_c ?_ ?_)
        · refine (zv_al c99_60 rfl).trans ?_
          refine (zv_at c99_62 rfl).trans ?_
          refine (zv_il c99_63 rfl).trans ?_
          refine (zv_it c99_65 rfl).trans ?_
          refine (zv_inc (y := 1) c99_66 rfl (by decide) rfl).trans ?_
          refine (zv_goto c99_69).trans ?_
          rfl
        · refine (zv_inc (y := 1) c99_66 rfl (by decide) rfl).trans ?_
          refine (zv_goto c99_69).trans ?_
          rfl
    · refine (zv_inc (y := 1) c99_66 rfl (by decide) rfl).trans ?_
      refine (zv_goto c99_69).trans ?_
      rfl
  · refine (zv_an c99_72 rfl).trans ?_
    exact zv_ar c99_73 zrt_99
theorem c100_0 : zcod 100 0 = some (.iconst 0, 1, 0, 0, 0, 0) := by decide +kernel
theorem c100_1 : zcod 100 1 = some (.istore_n 1, 1, 0, 0, 0, 0) := by decide +kernel
theorem c100_2 : zcod 100 2 = some (.iload_n 1, 1, 0, 0, 0, 0) := by decide +kernel
theorem c100_3 : zcod 100 3 = some (.aload_n 0, 1, 0, 0, 0, 0) := by decide +kernel
theorem c100_4 : zcod 100 4 = some (.getfield 12, 3, 3, 0, 182, 0) := by decide +kernel
theorem c100_7 : zcod 100 7 = some (.getfield 103, 3, 5, 2, 150, 0) := by decide +kernel
theorem c100_10 : zcod 100 10 = some (.invokevirtual 79, 3, 14, 0, 631, 0) := by decide +kernel
theorem c100_13 : zcod 100 13 = some (.if_icmp .ge 61, 3, 74, 0, 0, 0) := by decide +kernel
theorem c100_16 : zcod 100 16 = some (.aload_n 0, 1, 0, 0, 0, 0) := by decide +kernel
theorem c100_17 : zcod 100 17 = some (.getfield 12, 3, 3, 0, 182, 0) := by decide +kernel
theorem c100_20 : zcod 100 20 = some (.getfield 103, 3, 5, 2, 150, 0) := by decide +kernel
theorem c100_23 : zcod 100 23 = some (.iload_n 1, 1, 0, 0, 0, 0) := by decide +kernel
theorem c100_24 : zcod 100 24 = some (.invokevirtual 83, 3, 51, 1, 632, 0) := by decide +kernel
theorem c100_27 : zcod 100 27 = some (.checkcast 26, 3, 2, 0, 709, 0) := by decide +kernel
theorem c100_30 : zcod 100 30 = some (.astore_n 2, 1, 0, 0, 0, 0) := by decide +kernel
theorem c100_31 : zcod 100 31 = some (.aload_n 2, 1, 0, 0, 0, 0) := by decide +kernel
theorem c100_32 : zcod 100 32 = some (.getfield 160, 3, 2, 16, 351, 0) := by decide +kernel
theorem c100_35 : zcod 100 35 = some (.aload_n 0, 1, 0, 0, 0, 0) := by decide +kernel
theorem c100_36 : zcod 100 36 = some (.getfield 37, 3, 3, 2, 186, 0) := by decide +kernel
theorem c100_39 : zcod 100 39 = some (.if_icmp .ne 29, 3, 68, 0, 0, 0) := by decide +kernel
theorem c100_42 : zcod 100 42 = some (.aload_n 2, 1, 0, 0, 0, 0) := by decide +kernel
theorem c100_43 : zcod 100 43 = some (.iconst (-1), 1, 0, 0, 0, 0) := by decide +kernel
theorem c100_44 : zcod 100 44 = some (.putfield 160, 3, 2, 16, 351, 0) := by decide +kernel
theorem c100_47 : zcod 100 47 = some (.aload_n 2, 1, 0, 0, 0, 0) := by decide +kernel
theorem c100_48 : zcod 100 48 = some (.getfield 119, 3, 2, 7, 328, 0) := by decide +kernel
theorem c100_51 : zcod 100 51 = some (.iconst (-1), 1, 0, 0, 0, 0) := by decide +kernel
theorem c100_52 : zcod 100 52 = some (.if_icmp .eq 16, 3, 68, 0, 0, 0) := by decide +kernel
theorem c100_55 : zcod 100 55 = some (.aload_n 2, 1, 0, 0, 0, 0) := by decide +kernel
theorem c100_56 : zcod 100 56 = some (.getfield 156, 3, 2, 10, 335, 0) := by decide +kernel
theorem c100_59 : zcod 100 59 = some (.ifCond .ne 9, 3, 68, 0, 0, 0) := by decide +kernel
theorem c100_62 : zcod 100 62 = some (.aload_n 0, 1, 0, 0, 0, 0) := by decide +kernel
theorem c100_63 : zcod 100 63 = some (.aload_n 2, 1, 0, 0, 0, 0) := by decide +kernel
theorem c100_64 : zcod 100 64 = some (.iconst (-1), 1, 0, 0, 0, 0) := by decide +kernel
theorem c100_65 : zcod 100 65 = some (.invokevirtual 75, 3, 81, 2, 649, 0) := by decide +kernel
theorem c100_68 : zcod 100 68 = some (.iinc 1 1, 3, 0, 0, 0, 0) := by decide +kernel
theorem c100_71 : zcod 100 71 = some (.goto (-69), 3, 2, 0, 0, 0) := by decide +kernel
theorem c100_74 : zcod 100 74 = some (.return_, 1, 0, 0, 0, 0) := by decide +kernel
set_option maxRecDepth 100000 in
theorem b100_0 (l0 : Option Nat) (h : zH) : zev 100 0 [some (vR l0), none, none] [] h = zev 100 2 [some (vR l0), some (vI 0), none] [] h := by
  refine (zv_k (v := 0) c100_0 (by decide)).trans ?_
  refine (zv_it c100_1 rfl).trans ?_
  rfl
theorem e100 (l0 : Option Nat) (h : zH) : zcall 100 [vR l0] h = zev 100 2 [some (vR l0), some (vI 0), none] [] h := by
  refine Eq.trans ?_ (b100_0 l0 h)
  unfold zcall zent
  rw [zL_100]
  rfl
set_option maxRecDepth 100000 in
theorem b100_2 (l0 : Option Nat) (l1 : Int32) (l2 : Option zV) (h : zH) : zev 100 2 [some (vR l0), some (vI l1), l2] [] h = (zgR h l0 3 0 fun x1 => (zgR h x1 5 2 fun x2 => (zvr h x2 0 (zcI 14 [vR x2] h fun x4 h3 => (if l1 < x4 then (zgR h3 l0 3 0 fun x5 => (zgR h3 x5 5 2 fun x6 => (zvr h3 x6 0 (zcR 51 [vR x6, vI l1] h3 fun x8 h7 => (zca h7 2 x8 ((zgI h7 x8 2 16 fun x9 => (zgI h7 l0 3 2 fun x10 => (if x9 = x10 then (zpI h7 x8 2 16 (-1) fun h11 => (zgI h11 x8 2 7 fun x12 => (if x12 = (-1) then zev 100 2 [some (vR l0), some (vI (l1 + 1)), some (vR x8)] [] h11 else (zgI h11 x8 2 10 fun x13 => (if x13 = 0 then (zvr h11 l0 3 (zcV 81 [vR l0, vR x8, vI (-1)] h11 fun h14 => zev 100 2 [some (vR l0), some (vI (l1 + 1)), some (vR x8)] [] h14)) else zev 100 2 [some (vR l0), some (vI (l1 + 1)), some (vR x8)] [] h11))))) else zev 100 2 [some (vR l0), some (vI (l1 + 1)), some (vR x8)] [] h7))))))))) else some (none, h3)))))) := by
  refine (zv_in c100_2 rfl).trans ?_
  refine (zv_an c100_3 rfl).trans ?_
  refine (zv_gR c100_4 zf3_0).trans (zgR_c fun x1 => ?_)
  refine (zv_gR c100_7 zf5_2).trans (zgR_c fun x2 => ?_)
  refine (zv_viI c100_10 zcn_14 rfl zL_14 (Or.inl zrt_14) rfl rfl).trans (zvr_c (zcI_c fun x4 h3 => ?_))
  refine (zv_icge c100_13).trans (zif_c ?_ ?_)
  · refine (zv_an c100_16 rfl).trans ?_
    refine (zv_gR c100_17 zf3_0).trans (zgR_c fun x5 => ?_)
    refine (zv_gR c100_20 zf5_2).trans (zgR_c fun x6 => ?_)
    refine (zv_in c100_23 rfl).trans ?_
    refine (zv_viR c100_24 zcn_51 rfl zL_51 zrt_51 rfl rfl).trans (zvr_c (zcR_c fun x8 h7 => ?_))
    refine (zv_ca c100_27).trans (zca_c ?_)
    refine (zv_at c100_30 rfl).trans ?_
    refine (zv_an c100_31 rfl).trans ?_
    refine (zv_gI c100_32 zg2_16).trans (zgI_c fun x9 => ?_)
    refine (zv_an c100_35 rfl).trans ?_
    refine (zv_gI c100_36 zg3_2).trans (zgI_c fun x10 => ?_)
    refine (zv_icne c100_39).trans (zif_c ?_ ?_)
    · refine (zv_an c100_42 rfl).trans ?_
      refine (zv_k (v := -1) c100_43 (by decide)).trans ?_
      refine (zv_pI c100_44 zf2_16).trans (zpI_c fun h11 => ?_)
      refine (zv_an c100_47 rfl).trans ?_
      refine (zv_gI c100_48 zg2_7).trans (zgI_c fun x12 => ?_)
      refine (zv_k (v := -1) c100_51 (by decide)).trans ?_
      refine (zv_iceq c100_52).trans (zif_c ?_ ?_)
      · refine (zv_inc (y := 1) c100_68 rfl (by decide) rfl).trans ?_
        refine (zv_goto c100_71).trans ?_
        rfl
      · refine (zv_an c100_55 rfl).trans ?_
        refine (zv_gI c100_56 zg2_10).trans (zgI_c fun x13 => ?_)
        refine (zv_ifne c100_59).trans (zif_c ?_ ?_)
        · refine (zv_an c100_62 rfl).trans ?_
          refine (zv_an c100_63 rfl).trans ?_
          refine (zv_k (v := -1) c100_64 (by decide)).trans ?_
          refine (zv_viV c100_65 zcn_81 rfl zL_81 zrt_81 rfl rfl).trans (zvr_c (zcV_c fun h14 => ?_))
          refine (zv_inc (y := 1) c100_68 rfl (by decide) rfl).trans ?_
          refine (zv_goto c100_71).trans ?_
          rfl
        · refine (zv_inc (y := 1) c100_68 rfl (by decide) rfl).trans ?_
          refine (zv_goto c100_71).trans ?_
          rfl
    · refine (zv_inc (y := 1) c100_68 rfl (by decide) rfl).trans ?_
      refine (zv_goto c100_71).trans ?_
      rfl
  · exact zv_vr c100_74 zrt_100
theorem c101_0 : zcod 101 0 = some (.aload_n 0, 1, 0, 0, 0, 0) := by decide +kernel
theorem c101_1 : zcod 101 1 = some (.getfield 19, 3, 8, 1, 220, 0) := by decide +kernel
theorem c101_4 : zcod 101 4 = some (.getfield 31, 3, 3, 0, 183, 0) := by decide +kernel
theorem c101_7 : zcod 101 7 = some (.iload_n 1, 1, 0, 0, 0, 0) := by decide +kernel
theorem c101_8 : zcod 101 8 = some (.invokevirtual 62, 3, 50, 1, 499, 0) := by decide +kernel
theorem c101_11 : zcod 101 11 = some (.astore_n 3, 1, 0, 0, 0, 0) := by decide +kernel
theorem c101_12 : zcod 101 12 = some (.aload_n 3, 1, 0, 0, 0, 0) := by decide +kernel
theorem c101_13 : zcod 101 13 = some (.ifnonnull 7, 3, 20, 0, 0, 0) := by decide +kernel
theorem c101_16 : zcod 101 16 = some (.sipush (-1001), 3, 0, 0, 0, 0) := by decide +kernel
theorem c101_19 : zcod 101 19 = some (.ireturn, 1, 0, 0, 0, 0) := by decide +kernel
theorem c101_20 : zcod 101 20 = some (.iload_n 2, 1, 0, 0, 0, 0) := by decide +kernel
theorem c101_21 : zcod 101 21 = some (.ifCond .lt 14, 3, 35, 0, 0, 0) := by decide +kernel
theorem c101_24 : zcod 101 24 = some (.iload_n 2, 1, 0, 0, 0, 0) := by decide +kernel
theorem c101_25 : zcod 101 25 = some (.aload_n 0, 1, 0, 0, 0, 0) := by decide +kernel
theorem c101_26 : zcod 101 26 = some (.getfield 19, 3, 8, 1, 220, 0) := by decide +kernel
theorem c101_29 : zcod 101 29 = some (.getfield 158, 3, 3, 2, 187, 0) := by decide +kernel
theorem c101_32 : zcod 101 32 = some (.if_icmp .le 9, 3, 41, 0, 0, 0) := by decide +kernel
theorem c101_35 : zcod 101 35 = some (.sipush (-1002), 3, 0, 0, 0, 0) := by decide +kernel
theorem c101_38 : zcod 101 38 = some (.goto 8, 3, 46, 0, 0, 0) := by decide +kernel
theorem c101_41 : zcod 101 41 = some (.aload_n 3, 1, 0, 0, 0, 0) := by decide +kernel
theorem c101_42 : zcod 101 42 = some (.iload_n 2, 1, 0, 0, 0, 0) := by decide +kernel
theorem c101_43 : zcod 101 43 = some (.invokevirtual 170, 3, 102, 1, 753, 0) := by decide +kernel
theorem c101_46 : zcod 101 46 = some (.ireturn, 1, 0, 0, 0, 0) := by decide +kernel
set_option maxRecDepth 100000 in
theorem b101_0 (l0 : Option Nat) (l1 : Int32) (l2 : Int32) (h : zH) : zev 101 0 [some (vR l0), some (vI l1), some (vI l2), none] [] h = (zgR h l0 8 1 fun x1 => (zgR h x1 3 0 fun x2 => (zvr h x2 5 (zcR 50 [vR x2, vI l1] h fun x4 h3 => (zul x4 (some (some (vI (-1001)), h3)) ((if l2 < 0 then some (some (vI (-1002)), h3) else (zgR h3 l0 8 1 fun x5 => (zgI h3 x5 3 2 fun x6 => (if x6 < l2 then some (some (vI (-1002)), h3) else (zvr h3 x4 2 (zcI 102 [vR x4, vI l2] h3 fun x8 h7 => some (some (vI x8), h7))))))))))))) := by
  refine (zv_an c101_0 rfl).trans ?_
  refine (zv_gR c101_1 zf8_1).trans (zgR_c fun x1 => ?_)
  refine (zv_gR c101_4 zf3_0).trans (zgR_c fun x2 => ?_)
  refine (zv_in c101_7 rfl).trans ?_
  refine (zv_viR c101_8 zcn_50 rfl zL_50 zrt_50 rfl rfl).trans (zvr_c (zcR_c fun x4 h3 => ?_))
  refine (zv_at c101_11 rfl).trans ?_
  refine (zv_an c101_12 rfl).trans ?_
  refine (zv_nn c101_13).trans (zul_c ?_ ?_)
  · refine (zv_si (v := -1001) c101_16 (by decide)).trans ?_
    exact zv_ir c101_19 zrt_101
  · refine (zv_in c101_20 rfl).trans ?_
    refine (zv_iflt c101_21).trans (zif_c ?_ ?_)
    · refine (zv_si (v := -1002) c101_35 (by decide)).trans ?_
      refine (zv_goto c101_38).trans ?_
      exact zv_ir c101_46 zrt_101
    · refine (zv_in c101_24 rfl).trans ?_
      refine (zv_an c101_25 rfl).trans ?_
      refine (zv_gR c101_26 zf8_1).trans (zgR_c fun x5 => ?_)
      refine (zv_gI c101_29 zg3_2).trans (zgI_c fun x6 => ?_)
      refine (zv_icle c101_32).trans (zif_c ?_ ?_)
      · refine (zv_si (v := -1002) c101_35 (by decide)).trans ?_
        refine (zv_goto c101_38).trans ?_
        exact zv_ir c101_46 zrt_101
      · refine (zv_an c101_41 rfl).trans ?_
        refine (zv_in c101_42 rfl).trans ?_
        refine (zv_viI c101_43 zcn_102 rfl zL_102 (Or.inl zrt_102) rfl rfl).trans (zvr_c (zcI_c fun x8 h7 => ?_))
        exact zv_ir c101_46 zrt_101
theorem e101 (l0 : Option Nat) (l1 : Int32) (l2 : Int32) (h : zH) : zcall 101 [vR l0, vI l1, vI l2] h = (zgR h l0 8 1 fun x1 => (zgR h x1 3 0 fun x2 => (zvr h x2 5 (zcR 50 [vR x2, vI l1] h fun x4 h3 => (zul x4 (some (some (vI (-1001)), h3)) ((if l2 < 0 then some (some (vI (-1002)), h3) else (zgR h3 l0 8 1 fun x5 => (zgI h3 x5 3 2 fun x6 => (if x6 < l2 then some (some (vI (-1002)), h3) else (zvr h3 x4 2 (zcI 102 [vR x4, vI l2] h3 fun x8 h7 => some (some (vI x8), h7))))))))))))) := by
  refine Eq.trans ?_ (b101_0 l0 l1 l2 h)
  unfold zcall zent
  rw [zL_101]
  rfl
theorem c102_0 : zcod 102 0 = some (.aload_n 0, 1, 0, 0, 0, 0) := by decide +kernel
theorem c102_1 : zcod 102 1 = some (.getfield 22, 3, 2, 8, 330, 0) := by decide +kernel
theorem c102_4 : zcod 102 4 = some (.iload_n 1, 1, 0, 0, 0, 0) := by decide +kernel
theorem c102_5 : zcod 102 5 = some (.if_icmp .gt 8, 3, 13, 0, 0, 0) := by decide +kernel
theorem c102_8 : zcod 102 8 = some (.aload_n 0, 1, 0, 0, 0, 0) := by decide +kernel
theorem c102_9 : zcod 102 9 = some (.getfield 18, 3, 2, 7, 326, 0) := by decide +kernel
theorem c102_12 : zcod 102 12 = some (.ireturn, 1, 0, 0, 0, 0) := by decide +kernel
theorem c102_13 : zcod 102 13 = some (.aload_n 0, 1, 0, 0, 0, 0) := by decide +kernel
theorem c102_14 : zcod 102 14 = some (.getfield 72, 3, 2, 9, 332, 0) := by decide +kernel
theorem c102_17 : zcod 102 17 = some (.astore_n 2, 1, 0, 0, 0, 0) := by decide +kernel
theorem c102_18 : zcod 102 18 = some (.aload_n 2, 1, 0, 0, 0, 0) := by decide +kernel
theorem c102_19 : zcod 102 19 = some (.ifnull 24, 3, 43, 0, 0, 0) := by decide +kernel
theorem c102_22 : zcod 102 22 = some (.aload_n 2, 1, 0, 0, 0, 0) := by decide +kernel
theorem c102_23 : zcod 102 23 = some (.getfield 82, 3, 7, 1, 670, 0) := by decide +kernel
theorem c102_26 : zcod 102 26 = some (.iload_n 1, 1, 0, 0, 0, 0) := by decide +kernel
theorem c102_27 : zcod 102 27 = some (.if_icmp .gt 8, 3, 35, 0, 0, 0) := by decide +kernel
theorem c102_30 : zcod 102 30 = some (.aload_n 2, 1, 0, 0, 0, 0) := by decide +kernel
theorem c102_31 : zcod 102 31 = some (.getfield 83, 3, 7, 0, 668, 0) := by decide +kernel
theorem c102_34 : zcod 102 34 = some (.ireturn, 1, 0, 0, 0, 0) := by decide +kernel
theorem c102_35 : zcod 102 35 = some (.aload_n 2, 1, 0, 0, 0, 0) := by decide +kernel
theorem c102_36 : zcod 102 36 = some (.getfield 84, 3, 7, 2, 672, 0) := by decide +kernel
theorem c102_39 : zcod 102 39 = some (.astore_n 2, 1, 0, 0, 0, 0) := by decide +kernel
theorem c102_40 : zcod 102 40 = some (.goto (-22), 3, 18, 0, 0, 0) := by decide +kernel
theorem c102_43 : zcod 102 43 = some (.iconst (-1), 1, 0, 0, 0, 0) := by decide +kernel
theorem c102_44 : zcod 102 44 = some (.ireturn, 1, 0, 0, 0, 0) := by decide +kernel
set_option maxRecDepth 100000 in
theorem b102_0 (l0 : Option Nat) (l1 : Int32) (h : zH) : zev 102 0 [some (vR l0), some (vI l1), none] [] h = (zgI h l0 2 8 fun x1 => (if l1 < x1 then (zgR h l0 2 9 fun x2 => zev 102 18 [some (vR l0), some (vI l1), some (vR x2)] [] h) else (zgI h l0 2 7 fun x3 => some (some (vI x3), h)))) := by
  refine (zv_an c102_0 rfl).trans ?_
  refine (zv_gI c102_1 zg2_8).trans (zgI_c fun x1 => ?_)
  refine (zv_in c102_4 rfl).trans ?_
  refine (zv_icgt c102_5).trans (zif_c ?_ ?_)
  · refine (zv_an c102_13 rfl).trans ?_
    refine (zv_gR c102_14 zf2_9).trans (zgR_c fun x2 => ?_)
    refine (zv_at c102_17 rfl).trans ?_
    rfl
  · refine (zv_an c102_8 rfl).trans ?_
    refine (zv_gI c102_9 zg2_7).trans (zgI_c fun x3 => ?_)
    exact zv_ir c102_12 zrt_102
theorem e102 (l0 : Option Nat) (l1 : Int32) (h : zH) : zcall 102 [vR l0, vI l1] h = (zgI h l0 2 8 fun x1 => (if l1 < x1 then (zgR h l0 2 9 fun x2 => zev 102 18 [some (vR l0), some (vI l1), some (vR x2)] [] h) else (zgI h l0 2 7 fun x3 => some (some (vI x3), h)))) := by
  refine Eq.trans ?_ (b102_0 l0 l1 h)
  unfold zcall zent
  rw [zL_102]
  rfl
set_option maxRecDepth 100000 in
theorem b102_18 (l0 : Option Nat) (l1 : Int32) (l2 : Option Nat) (h : zH) : zev 102 18 [some (vR l0), some (vI l1), some (vR l2)] [] h = (zul l2 (some (some (vI (-1)), h)) ((zgI h l2 7 1 fun x1 => (if l1 < x1 then (zgR h l2 7 2 fun x2 => zev 102 18 [some (vR l0), some (vI l1), some (vR x2)] [] h) else (zgI h l2 7 0 fun x3 => some (some (vI x3), h)))))) := by
  refine (zv_an c102_18 rfl).trans ?_
  refine (zv_nu c102_19).trans (zul_c ?_ ?_)
  · refine (zv_k (v := -1) c102_43 (by decide)).trans ?_
    exact zv_ir c102_44 zrt_102
  · refine (zv_an c102_22 rfl).trans ?_
    refine (zv_gI c102_23 zg7_1).trans (zgI_c fun x1 => ?_)
    refine (zv_in c102_26 rfl).trans ?_
    refine (zv_icgt c102_27).trans (zif_c ?_ ?_)
    · refine (zv_an c102_35 rfl).trans ?_
      refine (zv_gR c102_36 zf7_2).trans (zgR_c fun x2 => ?_)
      refine (zv_at c102_39 rfl).trans ?_
      refine (zv_goto c102_40).trans ?_
      rfl
    · refine (zv_an c102_30 rfl).trans ?_
      refine (zv_gI c102_31 zg7_0).trans (zgI_c fun x3 => ?_)
      exact zv_ir c102_34 zrt_102
theorem c103_0 : zcod 103 0 = some (.aload_n 0, 1, 0, 0, 0, 0) := by decide +kernel
theorem c103_1 : zcod 103 1 = some (.getfield 19, 3, 8, 1, 220, 0) := by decide +kernel
theorem c103_4 : zcod 103 4 = some (.getfield 121, 3, 3, 1, 185, 0) := by decide +kernel
theorem c103_7 : zcod 103 7 = some (.iload_n 1, 1, 0, 0, 0, 0) := by decide +kernel
theorem c103_8 : zcod 103 8 = some (.invokevirtual 130, 3, 68, 1, 573, 0) := by decide +kernel
theorem c103_11 : zcod 103 11 = some (.ifCond .ne 7, 3, 18, 0, 0, 0) := by decide +kernel
theorem c103_14 : zcod 103 14 = some (.sipush (-1001), 3, 0, 0, 0, 0) := by decide +kernel
theorem c103_17 : zcod 103 17 = some (.ireturn, 1, 0, 0, 0, 0) := by decide +kernel
theorem c103_18 : zcod 103 18 = some (.iload_n 2, 1, 0, 0, 0, 0) := by decide +kernel
theorem c103_19 : zcod 103 19 = some (.tableswitch 77 0 3 #[29, 41, 53, 65], 29, 0, 0, 0, 0) := by decide +kernel
theorem c103_48 : zcod 103 48 = some (.aload_n 0, 1, 0, 0, 0, 0) := by decide +kernel
theorem c103_49 : zcod 103 49 = some (.getfield 19, 3, 8, 1, 220, 0) := by decide +kernel
theorem c103_52 : zcod 103 52 = some (.getfield 121, 3, 3, 1, 185, 0) := by decide +kernel
theorem c103_55 : zcod 103 55 = some (.iload_n 1, 1, 0, 0, 0, 0) := by decide +kernel
theorem c103_56 : zcod 103 56 = some (.invokevirtual 134, 3, 69, 1, 578, 0) := by decide +kernel
theorem c103_59 : zcod 103 59 = some (.ireturn, 1, 0, 0, 0, 0) := by decide +kernel
theorem c103_60 : zcod 103 60 = some (.aload_n 0, 1, 0, 0, 0, 0) := by decide +kernel
theorem c103_61 : zcod 103 61 = some (.getfield 19, 3, 8, 1, 220, 0) := by decide +kernel
theorem c103_64 : zcod 103 64 = some (.getfield 31, 3, 3, 0, 183, 0) := by decide +kernel
theorem c103_67 : zcod 103 67 = some (.iload_n 1, 1, 0, 0, 0, 0) := by decide +kernel
theorem c103_68 : zcod 103 68 = some (.invokevirtual 173, 3, 104, 1, 761, 0) := by decide +kernel
theorem c103_71 : zcod 103 71 = some (.ireturn, 1, 0, 0, 0, 0) := by decide +kernel
theorem c103_72 : zcod 103 72 = some (.aload_n 0, 1, 0, 0, 0, 0) := by decide +kernel
theorem c103_73 : zcod 103 73 = some (.getfield 19, 3, 8, 1, 220, 0) := by decide +kernel
theorem c103_76 : zcod 103 76 = some (.getfield 31, 3, 3, 0, 183, 0) := by decide +kernel
theorem c103_79 : zcod 103 79 = some (.iload_n 1, 1, 0, 0, 0, 0) := by decide +kernel
theorem c103_80 : zcod 103 80 = some (.invokevirtual 176, 3, 98, 1, 765, 0) := by decide +kernel
theorem c103_83 : zcod 103 83 = some (.ireturn, 1, 0, 0, 0, 0) := by decide +kernel
theorem c103_84 : zcod 103 84 = some (.aload_n 0, 1, 0, 0, 0, 0) := by decide +kernel
theorem c103_85 : zcod 103 85 = some (.getfield 19, 3, 8, 1, 220, 0) := by decide +kernel
theorem c103_88 : zcod 103 88 = some (.getfield 31, 3, 3, 0, 183, 0) := by decide +kernel
theorem c103_91 : zcod 103 91 = some (.iload_n 1, 1, 0, 0, 0, 0) := by decide +kernel
theorem c103_92 : zcod 103 92 = some (.invokevirtual 179, 3, 105, 1, 766, 0) := by decide +kernel
theorem c103_95 : zcod 103 95 = some (.ireturn, 1, 0, 0, 0, 0) := by decide +kernel
theorem c103_96 : zcod 103 96 = some (.sipush (-1002), 3, 0, 0, 0, 0) := by decide +kernel
theorem c103_99 : zcod 103 99 = some (.ireturn, 1, 0, 0, 0, 0) := by decide +kernel
set_option maxRecDepth 100000 in
theorem b103_0 (l0 : Option Nat) (l1 : Int32) (l2 : Int32) (h : zH) : zev 103 0 [some (vR l0), some (vI l1), some (vI l2)] [] h = (zgR h l0 8 1 fun x1 => (zgR h x1 3 1 fun x2 => (zvr h x2 4 (zcI 68 [vR x2, vI l1] h fun x4 h3 => (if x4 = 0 then some (some (vI (-1001)), h3) else (if l2 = 0 then (zgR h3 l0 8 1 fun x5 => (zgR h3 x5 3 1 fun x6 => (zvr h3 x6 4 (zcI 69 [vR x6, vI l1] h3 fun x8 h7 => some (some (vI x8), h7))))) else (if l2 = 1 then (zgR h3 l0 8 1 fun x9 => (zgR h3 x9 3 0 fun x10 => (zvr h3 x10 5 (zcI 104 [vR x10, vI l1] h3 fun x12 h11 => some (some (vI x12), h11))))) else (if l2 = 2 then (zgR h3 l0 8 1 fun x13 => (zgR h3 x13 3 0 fun x14 => (zvr h3 x14 5 (zcI 98 [vR x14, vI l1] h3 fun x16 h15 => some (some (vI x16), h15))))) else (if l2 = 3 then (zgR h3 l0 8 1 fun x17 => (zgR h3 x17 3 0 fun x18 => (zvr h3 x18 5 (zcI 105 [vR x18, vI l1] h3 fun x20 h19 => some (some (vI x20), h19))))) else some (some (vI (-1002)), h3)))))))))) := by
  refine (zv_an c103_0 rfl).trans ?_
  refine (zv_gR c103_1 zf8_1).trans (zgR_c fun x1 => ?_)
  refine (zv_gR c103_4 zf3_1).trans (zgR_c fun x2 => ?_)
  refine (zv_in c103_7 rfl).trans ?_
  refine (zv_viI c103_8 zcn_68 rfl zL_68 (Or.inr zrt_68) rfl rfl).trans (zvr_c (zcI_c fun x4 h3 => ?_))
  refine (zv_ifne c103_11).trans (zif_c ?_ ?_)
  · refine (zv_si (v := -1001) c103_14 (by decide)).trans ?_
    exact zv_ir c103_17 zrt_103
  · refine (zv_in c103_18 rfl).trans ?_
    refine (zv_ts c103_19 (dt := 96) (T := [48, 60, 72, 84]) (by decide) (by decide) (by decide) (by decide)).trans ?_
    refine (zsl_k (v := 0) (by decide)).trans (zif_c ?_ ?_)
    · refine (zv_an c103_48 rfl).trans ?_
      refine (zv_gR c103_49 zf8_1).trans (zgR_c fun x5 => ?_)
      refine (zv_gR c103_52 zf3_1).trans (zgR_c fun x6 => ?_)
      refine (zv_in c103_55 rfl).trans ?_
      refine (zv_viI c103_56 zcn_69 rfl zL_69 (Or.inl zrt_69) rfl rfl).trans (zvr_c (zcI_c fun x8 h7 => ?_))
      exact zv_ir c103_59 zrt_103
    · refine (zsl_k (v := 1) (by decide)).trans (zif_c ?_ ?_)
      · refine (zv_an c103_60 rfl).trans ?_
        refine (zv_gR c103_61 zf8_1).trans (zgR_c fun x9 => ?_)
        refine (zv_gR c103_64 zf3_0).trans (zgR_c fun x10 => ?_)
        refine (zv_in c103_67 rfl).trans ?_
        refine (zv_viI c103_68 zcn_104 rfl zL_104 (Or.inl zrt_104) rfl rfl).trans (zvr_c (zcI_c fun x12 h11 => ?_))
        exact zv_ir c103_71 zrt_103
      · refine (zsl_k (v := 2) (by decide)).trans (zif_c ?_ ?_)
        · refine (zv_an c103_72 rfl).trans ?_
          refine (zv_gR c103_73 zf8_1).trans (zgR_c fun x13 => ?_)
          refine (zv_gR c103_76 zf3_0).trans (zgR_c fun x14 => ?_)
          refine (zv_in c103_79 rfl).trans ?_
          refine (zv_viI c103_80 zcn_98 rfl zL_98 (Or.inl zrt_98) rfl rfl).trans (zvr_c (zcI_c fun x16 h15 => ?_))
          exact zv_ir c103_83 zrt_103
        · refine (zsl_k (v := 3) (by decide)).trans (zif_c ?_ ?_)
          · refine (zv_an c103_84 rfl).trans ?_
            refine (zv_gR c103_85 zf8_1).trans (zgR_c fun x17 => ?_)
            refine (zv_gR c103_88 zf3_0).trans (zgR_c fun x18 => ?_)
            refine (zv_in c103_91 rfl).trans ?_
            refine (zv_viI c103_92 zcn_105 rfl zL_105 (Or.inl zrt_105) rfl rfl).trans (zvr_c (zcI_c fun x20 h19 => ?_))
            exact zv_ir c103_95 zrt_103
          · refine zsl_n.trans ?_
            refine (zv_si (v := -1002) c103_96 (by decide)).trans ?_
            exact zv_ir c103_99 zrt_103
theorem e103 (l0 : Option Nat) (l1 : Int32) (l2 : Int32) (h : zH) : zcall 103 [vR l0, vI l1, vI l2] h = (zgR h l0 8 1 fun x1 => (zgR h x1 3 1 fun x2 => (zvr h x2 4 (zcI 68 [vR x2, vI l1] h fun x4 h3 => (if x4 = 0 then some (some (vI (-1001)), h3) else (if l2 = 0 then (zgR h3 l0 8 1 fun x5 => (zgR h3 x5 3 1 fun x6 => (zvr h3 x6 4 (zcI 69 [vR x6, vI l1] h3 fun x8 h7 => some (some (vI x8), h7))))) else (if l2 = 1 then (zgR h3 l0 8 1 fun x9 => (zgR h3 x9 3 0 fun x10 => (zvr h3 x10 5 (zcI 104 [vR x10, vI l1] h3 fun x12 h11 => some (some (vI x12), h11))))) else (if l2 = 2 then (zgR h3 l0 8 1 fun x13 => (zgR h3 x13 3 0 fun x14 => (zvr h3 x14 5 (zcI 98 [vR x14, vI l1] h3 fun x16 h15 => some (some (vI x16), h15))))) else (if l2 = 3 then (zgR h3 l0 8 1 fun x17 => (zgR h3 x17 3 0 fun x18 => (zvr h3 x18 5 (zcI 105 [vR x18, vI l1] h3 fun x20 h19 => some (some (vI x20), h19))))) else some (some (vI (-1002)), h3)))))))))) := by
  refine Eq.trans ?_ (b103_0 l0 l1 l2 h)
  unfold zcall zent
  rw [zL_103]
  rfl
theorem c104_0 : zcod 104 0 = some (.iconst 0, 1, 0, 0, 0, 0) := by decide +kernel
theorem c104_1 : zcod 104 1 = some (.istore_n 2, 1, 0, 0, 0, 0) := by decide +kernel
theorem c104_2 : zcod 104 2 = some (.iconst 0, 1, 0, 0, 0, 0) := by decide +kernel
theorem c104_3 : zcod 104 3 = some (.istore_n 3, 1, 0, 0, 0, 0) := by decide +kernel
theorem c104_4 : zcod 104 4 = some (.iload_n 3, 1, 0, 0, 0, 0) := by decide +kernel
theorem c104_5 : zcod 104 5 = some (.aload_n 0, 1, 0, 0, 0, 0) := by decide +kernel
theorem c104_6 : zcod 104 6 = some (.getfield 22, 3, 5, 2, 147, 0) := by decide +kernel
theorem c104_9 : zcod 104 9 = some (.invokevirtual 36, 3, 14, 0, 300, 0) := by decide +kernel
theorem c104_12 : zcod 104 12 = some (.if_icmp .ge 35, 3, 47, 0, 0, 0) := by decide +kernel
theorem c104_15 : zcod 104 15 = some (.iload_n 2, 1, 0, 0, 0, 0) := by decide +kernel
theorem c104_16 : zcod 104 16 = some (.aload_n 0, 1, 0, 0, 0, 0) := by decide +kernel
theorem c104_17 : zcod 104 17 = some (.getfield 22, 3, 5, 2, 147, 0) := by decide +kernel
theorem c104_20 : zcod 104 20 = some (.iload_n 3, 1, 0, 0, 0, 0) := by decide +kernel
theorem c104_21 : zcod 104 21 = some (.invokevirtual 40, 3, 51, 1, 503, 0) := by decide +kernel
theorem c104_24 : zcod 104 24 = some (.checkcast 44, 3, 2, 0, 301, 0) := by decide +kernel
theorem c104_27 : zcod 104 27 = some (.getfield 117, 3, 2, 7, 329, 0) := by decide +kernel
theorem c104_30 : zcod 104 30 = some (.iload_n 1, 1, 0, 0, 0, 0) := by decide +kernel
theorem c104_31 : zcod 104 31 = some (.if_icmp .ne 7, 3, 38, 0, 0, 0) := by decide +kernel
theorem c104_34 : zcod 104 34 = some (.iconst 1, 1, 0, 0, 0, 0) := by decide +kernel
theorem c104_35 : zcod 104 35 = some (.goto 4, 3, 39, 0, 0, 0) := by decide +kernel
theorem c104_38 : zcod 104 38 = some (.iconst 0, 1, 0, 0, 0, 0) := by decide +kernel
theorem c104_39 : zcod 104 39 = some (.iadd, 1, 0, 0, 0, 0) := by decide +kernel
theorem c104_40 : zcod 104 40 = some (.istore_n 2, 1, 0, 0, 0, 0) := by decide +kernel
theorem c104_41 : zcod 104 41 = some (.iinc 3 1, 3, 0, 0, 0, 0) := by decide +kernel
theorem c104_44 : zcod 104 44 = some (.goto (-40), 3, 4, 0, 0, 0) := by decide +kernel
theorem c104_47 : zcod 104 47 = some (.iload_n 2, 1, 0, 0, 0, 0) := by decide +kernel
theorem c104_48 : zcod 104 48 = some (.ireturn, 1, 0, 0, 0, 0) := by decide +kernel
set_option maxRecDepth 100000 in
theorem b104_0 (l0 : Option Nat) (l1 : Int32) (h : zH) : zev 104 0 [some (vR l0), some (vI l1), none, none] [] h = zev 104 4 [some (vR l0), some (vI l1), some (vI 0), some (vI 0)] [] h := by
  refine (zv_k (v := 0) c104_0 (by decide)).trans ?_
  refine (zv_it c104_1 rfl).trans ?_
  refine (zv_k (v := 0) c104_2 (by decide)).trans ?_
  refine (zv_it c104_3 rfl).trans ?_
  rfl
theorem e104 (l0 : Option Nat) (l1 : Int32) (h : zH) : zcall 104 [vR l0, vI l1] h = zev 104 4 [some (vR l0), some (vI l1), some (vI 0), some (vI 0)] [] h := by
  refine Eq.trans ?_ (b104_0 l0 l1 h)
  unfold zcall zent
  rw [zL_104]
  rfl
set_option maxRecDepth 100000 in
theorem b104_4 (l0 : Option Nat) (l1 : Int32) (l2 : Int32) (l3 : Int32) (h : zH) : zev 104 4 [some (vR l0), some (vI l1), some (vI l2), some (vI l3)] [] h = (zgR h l0 5 2 fun x1 => (zvr h x1 0 (zcI 14 [vR x1] h fun x3 h2 => (if l3 < x3 then (zgR h2 l0 5 2 fun x4 => (zvr h2 x4 0 (zcR 51 [vR x4, vI l3] h2 fun x6 h5 => (zca h5 2 x6 ((zgI h5 x6 2 7 fun x7 => (if x7 = l1 then zev 104 4 [some (vR l0), some (vI l1), some (vI (l2 + 1)), some (vI (l3 + 1))] [] h5 else zev 104 4 [some (vR l0), some (vI l1), some (vI (l2 + 0)), some (vI (l3 + 1))] [] h5))))))) else some (some (vI l2), h2))))) := by
  refine (zv_in c104_4 rfl).trans ?_
  refine (zv_an c104_5 rfl).trans ?_
  refine (zv_gR c104_6 zf5_2).trans (zgR_c fun x1 => ?_)
  refine (zv_viI c104_9 zcn_14 rfl zL_14 (Or.inl zrt_14) rfl rfl).trans (zvr_c (zcI_c fun x3 h2 => ?_))
  refine (zv_icge c104_12).trans (zif_c ?_ ?_)
  · refine (zv_in c104_15 rfl).trans ?_
    refine (zv_an c104_16 rfl).trans ?_
    refine (zv_gR c104_17 zf5_2).trans (zgR_c fun x4 => ?_)
    refine (zv_in c104_20 rfl).trans ?_
    refine (zv_viR c104_21 zcn_51 rfl zL_51 zrt_51 rfl rfl).trans (zvr_c (zcR_c fun x6 h5 => ?_))
    refine (zv_ca c104_24).trans (zca_c ?_)
    refine (zv_gI c104_27 zg2_7).trans (zgI_c fun x7 => ?_)
    refine (zv_in c104_30 rfl).trans ?_
    refine (zv_icne c104_31).trans (zif_c ?_ ?_)
    · refine (zv_k (v := 1) c104_34 (by decide)).trans ?_
      refine (zv_goto c104_35).trans ?_
      refine (zv_iadd c104_39).trans ?_
      refine (zv_it c104_40 rfl).trans ?_
      refine (zv_inc (y := 1) c104_41 rfl (by decide) rfl).trans ?_
      refine (zv_goto c104_44).trans ?_
      rfl
    · refine (zv_k (v := 0) c104_38 (by decide)).trans ?_
      refine (zv_iadd c104_39).trans ?_
      refine (zv_it c104_40 rfl).trans ?_
      refine (zv_inc (y := 1) c104_41 rfl (by decide) rfl).trans ?_
      refine (zv_goto c104_44).trans ?_
      rfl
  · refine (zv_in c104_47 rfl).trans ?_
    exact zv_ir c104_48 zrt_104
theorem c105_0 : zcod 105 0 = some (.iconst 0, 1, 0, 0, 0, 0) := by decide +kernel
theorem c105_1 : zcod 105 1 = some (.istore_n 2, 1, 0, 0, 0, 0) := by decide +kernel
theorem c105_2 : zcod 105 2 = some (.iconst 0, 1, 0, 0, 0, 0) := by decide +kernel
theorem c105_3 : zcod 105 3 = some (.istore_n 3, 1, 0, 0, 0, 0) := by decide +kernel
theorem c105_4 : zcod 105 4 = some (.iload_n 3, 1, 0, 0, 0, 0) := by decide +kernel
theorem c105_5 : zcod 105 5 = some (.aload_n 0, 1, 0, 0, 0, 0) := by decide +kernel
theorem c105_6 : zcod 105 6 = some (.getfield 22, 3, 5, 2, 147, 0) := by decide +kernel
theorem c105_9 : zcod 105 9 = some (.invokevirtual 36, 3, 14, 0, 300, 0) := by decide +kernel
theorem c105_12 : zcod 105 12 = some (.if_icmp .ge 43, 3, 55, 0, 0, 0) := by decide +kernel
theorem c105_15 : zcod 105 15 = some (.aload_n 0, 1, 0, 0, 0, 0) := by decide +kernel
theorem c105_16 : zcod 105 16 = some (.getfield 22, 3, 5, 2, 147, 0) := by decide +kernel
theorem c105_19 : zcod 105 19 = some (.iload_n 3, 1, 0, 0, 0, 0) := by decide +kernel
theorem c105_20 : zcod 105 20 = some (.invokevirtual 40, 3, 51, 1, 503, 0) := by decide +kernel
theorem c105_23 : zcod 105 23 = some (.checkcast 44, 3, 2, 0, 301, 0) := by decide +kernel
theorem c105_26 : zcod 105 26 = some (.astore 4, 2, 0, 0, 0, 0) := by decide +kernel
theorem c105_28 : zcod 105 28 = some (.iload_n 2, 1, 0, 0, 0, 0) := by decide +kernel
theorem c105_29 : zcod 105 29 = some (.aload 4, 2, 0, 0, 0, 0) := by decide +kernel
theorem c105_31 : zcod 105 31 = some (.getfield 117, 3, 2, 7, 329, 0) := by decide +kernel
theorem c105_34 : zcod 105 34 = some (.iload_n 1, 1, 0, 0, 0, 0) := by decide +kernel
theorem c105_35 : zcod 105 35 = some (.if_icmp .ne 11, 3, 46, 0, 0, 0) := by decide +kernel
theorem c105_38 : zcod 105 38 = some (.aload 4, 2, 0, 0, 0, 0) := by decide +kernel
theorem c105_40 : zcod 105 40 = some (.getfield 120, 3, 2, 11, 339, 0) := by decide +kernel
theorem c105_43 : zcod 105 43 = some (.goto 4, 3, 47, 0, 0, 0) := by decide +kernel
theorem c105_46 : zcod 105 46 = some (.iconst 0, 1, 0, 0, 0, 0) := by decide +kernel
theorem c105_47 : zcod 105 47 = some (.iadd, 1, 0, 0, 0, 0) := by decide +kernel
theorem c105_48 : zcod 105 48 = some (.istore_n 2, 1, 0, 0, 0, 0) := by decide +kernel
theorem c105_49 : zcod 105 49 = some (.iinc 3 1, 3, 0, 0, 0, 0) := by decide +kernel
theorem c105_52 : zcod 105 52 = some (.goto (-48), 3, 4, 0, 0, 0) := by decide +kernel
theorem c105_55 : zcod 105 55 = some (.iload_n 2, 1, 0, 0, 0, 0) := by decide +kernel
theorem c105_56 : zcod 105 56 = some (.ireturn, 1, 0, 0, 0, 0) := by decide +kernel
set_option maxRecDepth 100000 in
theorem b105_0 (l0 : Option Nat) (l1 : Int32) (h : zH) : zev 105 0 [some (vR l0), some (vI l1), none, none, none] [] h = zev 105 4 [some (vR l0), some (vI l1), some (vI 0), some (vI 0), none] [] h := by
  refine (zv_k (v := 0) c105_0 (by decide)).trans ?_
  refine (zv_it c105_1 rfl).trans ?_
  refine (zv_k (v := 0) c105_2 (by decide)).trans ?_
  refine (zv_it c105_3 rfl).trans ?_
  rfl
theorem e105 (l0 : Option Nat) (l1 : Int32) (h : zH) : zcall 105 [vR l0, vI l1] h = zev 105 4 [some (vR l0), some (vI l1), some (vI 0), some (vI 0), none] [] h := by
  refine Eq.trans ?_ (b105_0 l0 l1 h)
  unfold zcall zent
  rw [zL_105]
  rfl
set_option maxRecDepth 100000 in
theorem b105_4 (l0 : Option Nat) (l1 : Int32) (l2 : Int32) (l3 : Int32) (l4 : Option zV) (h : zH) : zev 105 4 [some (vR l0), some (vI l1), some (vI l2), some (vI l3), l4] [] h = (zgR h l0 5 2 fun x1 => (zvr h x1 0 (zcI 14 [vR x1] h fun x3 h2 => (if l3 < x3 then (zgR h2 l0 5 2 fun x4 => (zvr h2 x4 0 (zcR 51 [vR x4, vI l3] h2 fun x6 h5 => (zca h5 2 x6 ((zgI h5 x6 2 7 fun x7 => (if x7 = l1 then (zgI h5 x6 2 11 fun x8 => zev 105 4 [some (vR l0), some (vI l1), some (vI (l2 + x8)), some (vI (l3 + 1)), some (vR x6)] [] h5) else zev 105 4 [some (vR l0), some (vI l1), some (vI (l2 + 0)), some (vI (l3 + 1)), some (vR x6)] [] h5))))))) else some (some (vI l2), h2))))) := by
  refine (zv_in c105_4 rfl).trans ?_
  refine (zv_an c105_5 rfl).trans ?_
  refine (zv_gR c105_6 zf5_2).trans (zgR_c fun x1 => ?_)
  refine (zv_viI c105_9 zcn_14 rfl zL_14 (Or.inl zrt_14) rfl rfl).trans (zvr_c (zcI_c fun x3 h2 => ?_))
  refine (zv_icge c105_12).trans (zif_c ?_ ?_)
  · refine (zv_an c105_15 rfl).trans ?_
    refine (zv_gR c105_16 zf5_2).trans (zgR_c fun x4 => ?_)
    refine (zv_in c105_19 rfl).trans ?_
    refine (zv_viR c105_20 zcn_51 rfl zL_51 zrt_51 rfl rfl).trans (zvr_c (zcR_c fun x6 h5 => ?_))
    refine (zv_ca c105_23).trans (zca_c ?_)
    refine (zv_as c105_26 rfl).trans ?_
    refine (zv_in c105_28 rfl).trans ?_
    refine (zv_al c105_29 rfl).trans ?_
    refine (zv_gI c105_31 zg2_7).trans (zgI_c fun x7 => ?_)
    refine (zv_in c105_34 rfl).trans ?_
    refine (zv_icne c105_35).trans (zif_c ?_ ?_)
    · refine (zv_al c105_38 rfl).trans ?_
      refine (zv_gI c105_40 zg2_11).trans (zgI_c fun x8 => ?_)
      refine (zv_goto c105_43).trans ?_
      refine (zv_iadd c105_47).trans ?_
      refine (zv_it c105_48 rfl).trans ?_
      refine (zv_inc (y := 1) c105_49 rfl (by decide) rfl).trans ?_
      refine (zv_goto c105_52).trans ?_
      rfl
    · refine (zv_k (v := 0) c105_46 (by decide)).trans ?_
      refine (zv_iadd c105_47).trans ?_
      refine (zv_it c105_48 rfl).trans ?_
      refine (zv_inc (y := 1) c105_49 rfl (by decide) rfl).trans ?_
      refine (zv_goto c105_52).trans ?_
      rfl
  · refine (zv_in c105_55 rfl).trans ?_
    exact zv_ir c105_56 zrt_105
theorem c106_0 : zcod 106 0 = some (.iload_n 1, 1, 0, 0, 0, 0) := by decide +kernel
theorem c106_1 : zcod 106 1 = some (.tableswitch 208 0 13 #[71, 85, 96, 107, 115, 126, 138, 146, 154, 162, 170, 178, 186, 197], 71, 0, 0, 0, 0) := by decide +kernel
theorem c106_72 : zcod 106 72 = some (.aload_n 0, 1, 0, 0, 0, 0) := by decide +kernel
theorem c106_73 : zcod 106 73 = some (.getfield 19, 3, 8, 1, 220, 0) := by decide +kernel
theorem c106_76 : zcod 106 76 = some (.getfield 31, 3, 3, 0, 183, 0) := by decide +kernel
theorem c106_79 : zcod 106 79 = some (.getfield 39, 3, 5, 2, 149, 0) := by decide +kernel
theorem c106_82 : zcod 106 82 = some (.invokevirtual 45, 3, 14, 0, 484, 0) := by decide +kernel
theorem c106_85 : zcod 106 85 = some (.ireturn, 1, 0, 0, 0, 0) := by decide +kernel
theorem c106_86 : zcod 106 86 = some (.aload_n 0, 1, 0, 0, 0, 0) := by decide +kernel
theorem c106_87 : zcod 106 87 = some (.getfield 19, 3, 8, 1, 220, 0) := by decide +kernel
theorem c106_90 : zcod 106 90 = some (.getfield 31, 3, 3, 0, 183, 0) := by decide +kernel
theorem c106_93 : zcod 106 93 = some (.getfield 182, 3, 5, 3, 153, 0) := by decide +kernel
theorem c106_96 : zcod 106 96 = some (.ireturn, 1, 0, 0, 0, 0) := by decide +kernel
theorem c106_97 : zcod 106 97 = some (.aload_n 0, 1, 0, 0, 0, 0) := by decide +kernel
theorem c106_98 : zcod 106 98 = some (.getfield 19, 3, 8, 1, 220, 0) := by decide +kernel
theorem c106_101 : zcod 106 101 = some (.getfield 121, 3, 3, 1, 185, 0) := by decide +kernel
theorem c106_104 : zcod 106 104 = some (.getfield 185, 3, 4, 1, 176, 0) := by decide +kernel
theorem c106_107 : zcod 106 107 = some (.ireturn, 1, 0, 0, 0, 0) := by decide +kernel
theorem c106_108 : zcod 106 108 = some (.aload_n 0, 1, 0, 0, 0, 0) := by decide +kernel
theorem c106_109 : zcod 106 109 = some (.getfield 19, 3, 8, 1, 220, 0) := by decide +kernel
theorem c106_112 : zcod 106 112 = some (.getfield 158, 3, 3, 2, 187, 0) := by decide +kernel
theorem c106_115 : zcod 106 115 = some (.ireturn, 1, 0, 0, 0, 0) := by decide +kernel
theorem c106_116 : zcod 106 116 = some (.aload_n 0, 1, 0, 0, 0, 0) := by decide +kernel
theorem c106_117 : zcod 106 117 = some (.getfield 19, 3, 8, 1, 220, 0) := by decide +kernel
theorem c106_120 : zcod 106 120 = some (.getfield 31, 3, 3, 0, 183, 0) := by decide +kernel
theorem c106_123 : zcod 106 123 = some (.invokevirtual 187, 3, 107, 0, 774, 0) := by decide +kernel
theorem c106_126 : zcod 106 126 = some (.ireturn, 1, 0, 0, 0, 0) := by decide +kernel
theorem c106_127 : zcod 106 127 = some (.aload_n 0, 1, 0, 0, 0, 0) := by decide +kernel
theorem c106_128 : zcod 106 128 = some (.getfield 19, 3, 8, 1, 220, 0) := by decide +kernel
theorem c106_131 : zcod 106 131 = some (.getfield 31, 3, 3, 0, 183, 0) := by decide +kernel
theorem c106_134 : zcod 106 134 = some (.iconst (-1), 1, 0, 0, 0, 0) := by decide +kernel
theorem c106_135 : zcod 106 135 = some (.invokevirtual 173, 3, 104, 1, 761, 0) := by decide +kernel
theorem c106_138 : zcod 106 138 = some (.ireturn, 1, 0, 0, 0, 0) := by decide +kernel
theorem c106_139 : zcod 106 139 = some (.aload_n 0, 1, 0, 0, 0, 0) := by decide +kernel
theorem c106_140 : zcod 106 140 = some (.getfield 19, 3, 8, 1, 220, 0) := by decide +kernel
theorem c106_143 : zcod 106 143 = some (.getfield 190, 3, 3, 4, 191, 0) := by decide +kernel
theorem c106_146 : zcod 106 146 = some (.ireturn, 1, 0, 0, 0, 0) := by decide +kernel
theorem c106_147 : zcod 106 147 = some (.aload_n 0, 1, 0, 0, 0, 0) := by decide +kernel
theorem c106_148 : zcod 106 148 = some (.getfield 19, 3, 8, 1, 220, 0) := by decide +kernel
theorem c106_151 : zcod 106 151 = some (.getfield 193, 3, 3, 5, 193, 0) := by decide +kernel
theorem c106_154 : zcod 106 154 = some (.ireturn, 1, 0, 0, 0, 0) := by decide +kernel
theorem c106_155 : zcod 106 155 = some (.aload_n 0, 1, 0, 0, 0, 0) := by decide +kernel
theorem c106_156 : zcod 106 156 = some (.getfield 19, 3, 8, 1, 220, 0) := by decide +kernel
theorem c106_159 : zcod 106 159 = some (.getfield 196, 3, 3, 6, 195, 0) := by decide +kernel
theorem c106_162 : zcod 106 162 = some (.ireturn, 1, 0, 0, 0, 0) := by decide +kernel
theorem c106_163 : zcod 106 163 = some (.aload_n 0, 1, 0, 0, 0, 0) := by decide +kernel
theorem c106_164 : zcod 106 164 = some (.getfield 19, 3, 8, 1, 220, 0) := by decide +kernel
theorem c106_167 : zcod 106 167 = some (.getfield 199, 3, 3, 7, 197, 0) := by decide +kernel
theorem c106_170 : zcod 106 170 = some (.ireturn, 1, 0, 0, 0, 0) := by decide +kernel
theorem c106_171 : zcod 106 171 = some (.aload_n 0, 1, 0, 0, 0, 0) := by decide +kernel
theorem c106_172 : zcod 106 172 = some (.getfield 12, 3, 8, 0, 219, 0) := by decide +kernel
theorem c106_175 : zcod 106 175 = some (.getfield 27, 3, 6, 2, 83, 0) := by decide +kernel
theorem c106_178 : zcod 106 178 = some (.ireturn, 1, 0, 0, 0, 0) := by decide +kernel
theorem c106_179 : zcod 106 179 = some (.aload_n 0, 1, 0, 0, 0, 0) := by decide +kernel
theorem c106_180 : zcod 106 180 = some (.getfield 19, 3, 8, 1, 220, 0) := by decide +kernel
theorem c106_183 : zcod 106 183 = some (.getfield 202, 3, 3, 8, 199, 0) := by decide +kernel
theorem c106_186 : zcod 106 186 = some (.ireturn, 1, 0, 0, 0, 0) := by decide +kernel
theorem c106_187 : zcod 106 187 = some (.aload_n 0, 1, 0, 0, 0, 0) := by decide +kernel
theorem c106_188 : zcod 106 188 = some (.getfield 19, 3, 8, 1, 220, 0) := by decide +kernel
theorem c106_191 : zcod 106 191 = some (.getfield 31, 3, 3, 0, 183, 0) := by decide +kernel
theorem c106_194 : zcod 106 194 = some (.invokevirtual 205, 3, 108, 0, 778, 0) := by decide +kernel
theorem c106_197 : zcod 106 197 = some (.ireturn, 1, 0, 0, 0, 0) := by decide +kernel
theorem c106_198 : zcod 106 198 = some (.aload_n 0, 1, 0, 0, 0, 0) := by decide +kernel
theorem c106_199 : zcod 106 199 = some (.getfield 19, 3, 8, 1, 220, 0) := by decide +kernel
theorem c106_202 : zcod 106 202 = some (.getfield 31, 3, 3, 0, 183, 0) := by decide +kernel
theorem c106_205 : zcod 106 205 = some (.getfield 117, 3, 5, 4, 154, 0) := by decide +kernel
theorem c106_208 : zcod 106 208 = some (.ireturn, 1, 0, 0, 0, 0) := by decide +kernel
theorem c106_209 : zcod 106 209 = some (.sipush (-1002), 3, 0, 0, 0, 0) := by decide +kernel
theorem c106_212 : zcod 106 212 = some (.ireturn, 1, 0, 0, 0, 0) := by decide +kernel
set_option maxRecDepth 100000 in
theorem b106_0 (l0 : Option Nat) (l1 : Int32) (h : zH) : zev 106 0 [some (vR l0), some (vI l1)] [] h = (if l1 = 0 then (zgR h l0 8 1 fun x1 => (zgR h x1 3 0 fun x2 => (zgR h x2 5 2 fun x3 => (zvr h x3 0 (zcI 14 [vR x3] h fun x5 h4 => some (some (vI x5), h4)))))) else (if l1 = 1 then (zgR h l0 8 1 fun x6 => (zgR h x6 3 0 fun x7 => (zgI h x7 5 3 fun x8 => some (some (vI x8), h)))) else (if l1 = 2 then (zgR h l0 8 1 fun x9 => (zgR h x9 3 1 fun x10 => (zgI h x10 4 1 fun x11 => some (some (vI x11), h)))) else (if l1 = 3 then (zgR h l0 8 1 fun x12 => (zgI h x12 3 2 fun x13 => some (some (vI x13), h))) else (if l1 = 4 then (zgR h l0 8 1 fun x14 => (zgR h x14 3 0 fun x15 => (zvr h x15 5 (zcI 107 [vR x15] h fun x17 h16 => some (some (vI x17), h16))))) else (if l1 = 5 then (zgR h l0 8 1 fun x18 => (zgR h x18 3 0 fun x19 => (zvr h x19 5 (zcI 104 [vR x19, vI (-1)] h fun x21 h20 => some (some (vI x21), h20))))) else (if l1 = 6 then (zgR h l0 8 1 fun x22 => (zgI h x22 3 4 fun x23 => some (some (vI x23), h))) else (if l1 = 7 then (zgR h l0 8 1 fun x24 => (zgI h x24 3 5 fun x25 => some (some (vI x25), h))) else (if l1 = 8 then (zgR h l0 8 1 fun x26 => (zgI h x26 3 6 fun x27 => some (some (vI x27), h))) else (if l1 = 9 then (zgR h l0 8 1 fun x28 => (zgI h x28 3 7 fun x29 => some (some (vI x29), h))) else (if l1 = 10 then (zgR h l0 8 0 fun x30 => (zgI h x30 6 2 fun x31 => some (some (vI x31), h))) else (if l1 = 11 then (zgR h l0 8 1 fun x32 => (zgI h x32 3 8 fun x33 => some (some (vI x33), h))) else (if l1 = 12 then (zgR h l0 8 1 fun x34 => (zgR h x34 3 0 fun x35 => (zvr h x35 5 (zcI 108 [vR x35] h fun x37 h36 => some (some (vI x37), h36))))) else (if l1 = 13 then (zgR h l0 8 1 fun x38 => (zgR h x38 3 0 fun x39 => (zgI h x39 5 4 fun x40 => some (some (vI x40), h)))) else some (some (vI (-1002)), h))))))))))))))) := by
  refine (zv_in c106_0 rfl).trans ?_
  refine (zv_ts c106_1 (dt := 209) (T := [72, 86, 97, 108, 116, 127, 139, 147, 155, 163, 171, 179, 187, 198]) (by decide) (by decide) (by decide) (by decide)).trans ?_
  refine (zsl_k (v := 0) (by decide)).trans (zif_c ?_ ?_)
  · refine (zv_an c106_72 rfl).trans ?_
    refine (zv_gR c106_73 zf8_1).trans (zgR_c fun x1 => ?_)
    refine (zv_gR c106_76 zf3_0).trans (zgR_c fun x2 => ?_)
    refine (zv_gR c106_79 zf5_2).trans (zgR_c fun x3 => ?_)
    refine (zv_viI c106_82 zcn_14 rfl zL_14 (Or.inl zrt_14) rfl rfl).trans (zvr_c (zcI_c fun x5 h4 => ?_))
    exact zv_ir c106_85 zrt_106
  · refine (zsl_k (v := 1) (by decide)).trans (zif_c ?_ ?_)
    · refine (zv_an c106_86 rfl).trans ?_
      refine (zv_gR c106_87 zf8_1).trans (zgR_c fun x6 => ?_)
      refine (zv_gR c106_90 zf3_0).trans (zgR_c fun x7 => ?_)
      refine (zv_gI c106_93 zg5_3).trans (zgI_c fun x8 => ?_)
      exact zv_ir c106_96 zrt_106
    · refine (zsl_k (v := 2) (by decide)).trans (zif_c ?_ ?_)
      · refine (zv_an c106_97 rfl).trans ?_
        refine (zv_gR c106_98 zf8_1).trans (zgR_c fun x9 => ?_)
        refine (zv_gR c106_101 zf3_1).trans (zgR_c fun x10 => ?_)
        refine (zv_gI c106_104 zg4_1).trans (zgI_c fun x11 => ?_)
        exact zv_ir c106_107 zrt_106
      · refine (zsl_k (v := 3) (by decide)).trans (zif_c ?_ ?_)
        · refine (zv_an c106_108 rfl).trans ?_
          refine (zv_gR c106_109 zf8_1).trans (zgR_c fun x12 => ?_)
          refine (zv_gI c106_112 zg3_2).trans (zgI_c fun x13 => ?_)
          exact zv_ir c106_115 zrt_106
        · refine (zsl_k (v := 4) (by decide)).trans (zif_c ?_ ?_)
          · refine (zv_an c106_116 rfl).trans ?_
            refine (zv_gR c106_117 zf8_1).trans (zgR_c fun x14 => ?_)
            refine (zv_gR c106_120 zf3_0).trans (zgR_c fun x15 => ?_)
            refine (zv_viI c106_123 zcn_107 rfl zL_107 (Or.inl zrt_107) rfl rfl).trans (zvr_c (zcI_c fun x17 h16 => ?_))
            exact zv_ir c106_126 zrt_106
          · refine (zsl_k (v := 5) (by decide)).trans (zif_c ?_ ?_)
            · refine (zv_an c106_127 rfl).trans ?_
              refine (zv_gR c106_128 zf8_1).trans (zgR_c fun x18 => ?_)
              refine (zv_gR c106_131 zf3_0).trans (zgR_c fun x19 => ?_)
              refine (zv_k (v := -1) c106_134 (by decide)).trans ?_
              refine (zv_viI c106_135 zcn_104 rfl zL_104 (Or.inl zrt_104) rfl rfl).trans (zvr_c (zcI_c fun x21 h20 => ?_))
              exact zv_ir c106_138 zrt_106
            · refine (zsl_k (v := 6) (by decide)).trans (zif_c ?_ ?_)
              · refine (zv_an c106_139 rfl).trans ?_
                refine (zv_gR c106_140 zf8_1).trans (zgR_c fun x22 => ?_)
                refine (zv_gI c106_143 zg3_4).trans (zgI_c fun x23 => ?_)
                exact zv_ir c106_146 zrt_106
              · refine (zsl_k (v := 7) (by decide)).trans (zif_c ?_ ?_)
                · refine (zv_an c106_147 rfl).trans ?_
                  refine (zv_gR c106_148 zf8_1).trans (zgR_c fun x24 => ?_)
                  refine (zv_gI c106_151 zg3_5).trans (zgI_c fun x25 => ?_)
                  exact zv_ir c106_154 zrt_106
                · refine (zsl_k (v := 8) (by decide)).trans (zif_c ?_ ?_)
                  · refine (zv_an c106_155 rfl).trans ?_
                    refine (zv_gR c106_156 zf8_1).trans (zgR_c fun x26 => ?_)
                    refine (zv_gI c106_159 zg3_6).trans (zgI_c fun x27 => ?_)
                    exact zv_ir c106_162 zrt_106
                  · refine (zsl_k (v := 9) (by decide)).trans (zif_c ?_ ?_)
                    · refine (zv_an c106_163 rfl).trans ?_
                      refine (zv_gR c106_164 zf8_1).trans (zgR_c fun x28 => ?_)
                      refine (zv_gI c106_167 zg3_7).trans (zgI_c fun x29 => ?_)
                      exact zv_ir c106_170 zrt_106
                    · refine (zsl_k (v := 10) (by decide)).trans (zif_c ?_ ?_)
                      · refine (zv_an c106_171 rfl).trans ?_
                        refine (zv_gR c106_172 zf8_0).trans (zgR_c fun x30 => ?_)
                        refine (zv_gI c106_175 zg6_2).trans (zgI_c fun x31 => ?_)
                        exact zv_ir c106_178 zrt_106
                      · refine (zsl_k (v := 11) (by decide)).trans (zif_c ?_ ?_)
                        · refine (zv_an c106_179 rfl).trans ?_
                          refine (zv_gR c106_180 zf8_1).trans (zgR_c fun x32 => ?_)
                          refine (zv_gI c106_183 zg3_8).trans (zgI_c fun x33 => ?_)
                          exact zv_ir c106_186 zrt_106
                        · refine (zsl_k (v := 12) (by decide)).trans (zif_c ?_ ?_)
                          · refine (zv_an c106_187 rfl).trans ?_
                            refine (zv_gR c106_188 zf8_1).trans (zgR_c fun x34 => ?_)
                            refine (zv_gR c106_191 zf3_0).trans (zgR_c fun x35 => ?_)
                            refine (zv_viI c106_194 zcn_108 rfl zL_108 (Or.inl zrt_108) rfl rfl).trans (zvr_c (zcI_c fun x37 h36 => ?_))
                            exact zv_ir c106_197 zrt_106
                          · refine (zsl_k (v := 13) (by decide)).trans (zif_c ?_ ?_)
                            · refine (zv_an c106_198 rfl).trans ?_
                              refine (zv_gR c106_199 zf8_1).trans (zgR_c fun x38 => ?_)
                              refine (zv_gR c106_202 zf3_0).trans (zgR_c fun x39 => ?_)
                              refine (zv_gI c106_205 zg5_4).trans (zgI_c fun x40 => ?_)
                              exact zv_ir c106_208 zrt_106
                            · refine zsl_n.trans ?_
                              refine (zv_si (v := -1002) c106_209 (by decide)).trans ?_
                              exact zv_ir c106_212 zrt_106
theorem e106 (l0 : Option Nat) (l1 : Int32) (h : zH) : zcall 106 [vR l0, vI l1] h = (if l1 = 0 then (zgR h l0 8 1 fun x1 => (zgR h x1 3 0 fun x2 => (zgR h x2 5 2 fun x3 => (zvr h x3 0 (zcI 14 [vR x3] h fun x5 h4 => some (some (vI x5), h4)))))) else (if l1 = 1 then (zgR h l0 8 1 fun x6 => (zgR h x6 3 0 fun x7 => (zgI h x7 5 3 fun x8 => some (some (vI x8), h)))) else (if l1 = 2 then (zgR h l0 8 1 fun x9 => (zgR h x9 3 1 fun x10 => (zgI h x10 4 1 fun x11 => some (some (vI x11), h)))) else (if l1 = 3 then (zgR h l0 8 1 fun x12 => (zgI h x12 3 2 fun x13 => some (some (vI x13), h))) else (if l1 = 4 then (zgR h l0 8 1 fun x14 => (zgR h x14 3 0 fun x15 => (zvr h x15 5 (zcI 107 [vR x15] h fun x17 h16 => some (some (vI x17), h16))))) else (if l1 = 5 then (zgR h l0 8 1 fun x18 => (zgR h x18 3 0 fun x19 => (zvr h x19 5 (zcI 104 [vR x19, vI (-1)] h fun x21 h20 => some (some (vI x21), h20))))) else (if l1 = 6 then (zgR h l0 8 1 fun x22 => (zgI h x22 3 4 fun x23 => some (some (vI x23), h))) else (if l1 = 7 then (zgR h l0 8 1 fun x24 => (zgI h x24 3 5 fun x25 => some (some (vI x25), h))) else (if l1 = 8 then (zgR h l0 8 1 fun x26 => (zgI h x26 3 6 fun x27 => some (some (vI x27), h))) else (if l1 = 9 then (zgR h l0 8 1 fun x28 => (zgI h x28 3 7 fun x29 => some (some (vI x29), h))) else (if l1 = 10 then (zgR h l0 8 0 fun x30 => (zgI h x30 6 2 fun x31 => some (some (vI x31), h))) else (if l1 = 11 then (zgR h l0 8 1 fun x32 => (zgI h x32 3 8 fun x33 => some (some (vI x33), h))) else (if l1 = 12 then (zgR h l0 8 1 fun x34 => (zgR h x34 3 0 fun x35 => (zvr h x35 5 (zcI 108 [vR x35] h fun x37 h36 => some (some (vI x37), h36))))) else (if l1 = 13 then (zgR h l0 8 1 fun x38 => (zgR h x38 3 0 fun x39 => (zgI h x39 5 4 fun x40 => some (some (vI x40), h)))) else some (some (vI (-1002)), h))))))))))))))) := by
  refine Eq.trans ?_ (b106_0 l0 l1 h)
  unfold zcall zent
  rw [zL_106]
  rfl
theorem c107_0 : zcod 107 0 = some (.iconst 0, 1, 0, 0, 0, 0) := by decide +kernel
theorem c107_1 : zcod 107 1 = some (.istore_n 1, 1, 0, 0, 0, 0) := by decide +kernel
theorem c107_2 : zcod 107 2 = some (.iconst 0, 1, 0, 0, 0, 0) := by decide +kernel
theorem c107_3 : zcod 107 3 = some (.istore_n 2, 1, 0, 0, 0, 0) := by decide +kernel
theorem c107_4 : zcod 107 4 = some (.iload_n 2, 1, 0, 0, 0, 0) := by decide +kernel
theorem c107_5 : zcod 107 5 = some (.aload_n 0, 1, 0, 0, 0, 0) := by decide +kernel
theorem c107_6 : zcod 107 6 = some (.getfield 22, 3, 5, 2, 147, 0) := by decide +kernel
theorem c107_9 : zcod 107 9 = some (.invokevirtual 36, 3, 14, 0, 300, 0) := by decide +kernel
theorem c107_12 : zcod 107 12 = some (.if_icmp .ge 34, 3, 46, 0, 0, 0) := by decide +kernel
theorem c107_15 : zcod 107 15 = some (.iload_n 1, 1, 0, 0, 0, 0) := by decide +kernel
theorem c107_16 : zcod 107 16 = some (.aload_n 0, 1, 0, 0, 0, 0) := by decide +kernel
theorem c107_17 : zcod 107 17 = some (.getfield 22, 3, 5, 2, 147, 0) := by decide +kernel
theorem c107_20 : zcod 107 20 = some (.iload_n 2, 1, 0, 0, 0, 0) := by decide +kernel
theorem c107_21 : zcod 107 21 = some (.invokevirtual 40, 3, 51, 1, 503, 0) := by decide +kernel
theorem c107_24 : zcod 107 24 = some (.checkcast 44, 3, 2, 0, 301, 0) := by decide +kernel
theorem c107_27 : zcod 107 27 = some (.getfield 107, 3, 2, 10, 336, 0) := by decide +kernel
theorem c107_30 : zcod 107 30 = some (.ifCond .eq 7, 3, 37, 0, 0, 0) := by decide +kernel
theorem c107_33 : zcod 107 33 = some (.iconst 1, 1, 0, 0, 0, 0) := by decide +kernel
theorem c107_34 : zcod 107 34 = some (.goto 4, 3, 38, 0, 0, 0) := by decide +kernel
theorem c107_37 : zcod 107 37 = some (.iconst 0, 1, 0, 0, 0, 0) := by decide +kernel
theorem c107_38 : zcod 107 38 = some (.iadd, 1, 0, 0, 0, 0) := by decide +kernel
theorem c107_39 : zcod 107 39 = some (.istore_n 1, 1, 0, 0, 0, 0) := by decide +kernel
theorem c107_40 : zcod 107 40 = some (.iinc 2 1, 3, 0, 0, 0, 0) := by decide +kernel
theorem c107_43 : zcod 107 43 = some (.goto (-39), 3, 4, 0, 0, 0) := by decide +kernel
theorem c107_46 : zcod 107 46 = some (.iload_n 1, 1, 0, 0, 0, 0) := by decide +kernel
theorem c107_47 : zcod 107 47 = some (.ireturn, 1, 0, 0, 0, 0) := by decide +kernel
set_option maxRecDepth 100000 in
theorem b107_0 (l0 : Option Nat) (h : zH) : zev 107 0 [some (vR l0), none, none] [] h = zev 107 4 [some (vR l0), some (vI 0), some (vI 0)] [] h := by
  refine (zv_k (v := 0) c107_0 (by decide)).trans ?_
  refine (zv_it c107_1 rfl).trans ?_
  refine (zv_k (v := 0) c107_2 (by decide)).trans ?_
  refine (zv_it c107_3 rfl).trans ?_
  rfl
theorem e107 (l0 : Option Nat) (h : zH) : zcall 107 [vR l0] h = zev 107 4 [some (vR l0), some (vI 0), some (vI 0)] [] h := by
  refine Eq.trans ?_ (b107_0 l0 h)
  unfold zcall zent
  rw [zL_107]
  rfl
set_option maxRecDepth 100000 in
theorem b107_4 (l0 : Option Nat) (l1 : Int32) (l2 : Int32) (h : zH) : zev 107 4 [some (vR l0), some (vI l1), some (vI l2)] [] h = (zgR h l0 5 2 fun x1 => (zvr h x1 0 (zcI 14 [vR x1] h fun x3 h2 => (if l2 < x3 then (zgR h2 l0 5 2 fun x4 => (zvr h2 x4 0 (zcR 51 [vR x4, vI l2] h2 fun x6 h5 => (zca h5 2 x6 ((zgI h5 x6 2 10 fun x7 => (if x7 = 0 then zev 107 4 [some (vR l0), some (vI (l1 + 0)), some (vI (l2 + 1))] [] h5 else zev 107 4 [some (vR l0), some (vI (l1 + 1)), some (vI (l2 + 1))] [] h5))))))) else some (some (vI l1), h2))))) := by
  refine (zv_in c107_4 rfl).trans ?_
  refine (zv_an c107_5 rfl).trans ?_
  refine (zv_gR c107_6 zf5_2).trans (zgR_c fun x1 => ?_)
  refine (zv_viI c107_9 zcn_14 rfl zL_14 (Or.inl zrt_14) rfl rfl).trans (zvr_c (zcI_c fun x3 h2 => ?_))
  refine (zv_icge c107_12).trans (zif_c ?_ ?_)
  · refine (zv_in c107_15 rfl).trans ?_
    refine (zv_an c107_16 rfl).trans ?_
    refine (zv_gR c107_17 zf5_2).trans (zgR_c fun x4 => ?_)
    refine (zv_in c107_20 rfl).trans ?_
    refine (zv_viR c107_21 zcn_51 rfl zL_51 zrt_51 rfl rfl).trans (zvr_c (zcR_c fun x6 h5 => ?_))
    refine (zv_ca c107_24).trans (zca_c ?_)
    refine (zv_gI c107_27 zg2_10).trans (zgI_c fun x7 => ?_)
    refine (zv_ifeq c107_30).trans (zif_c ?_ ?_)
    · refine (zv_k (v := 0) c107_37 (by decide)).trans ?_
      refine (zv_iadd c107_38).trans ?_
      refine (zv_it c107_39 rfl).trans ?_
      refine (zv_inc (y := 1) c107_40 rfl (by decide) rfl).trans ?_
      refine (zv_goto c107_43).trans ?_
      rfl
    · refine (zv_k (v := 1) c107_33 (by decide)).trans ?_
      refine (zv_goto c107_34).trans ?_
      refine (zv_iadd c107_38).trans ?_
      refine (zv_it c107_39 rfl).trans ?_
      refine (zv_inc (y := 1) c107_40 rfl (by decide) rfl).trans ?_
      refine (zv_goto c107_43).trans ?_
      rfl
  · refine (zv_in c107_46 rfl).trans ?_
    exact zv_ir c107_47 zrt_107
theorem c108_0 : zcod 108 0 = some (.iconst 0, 1, 0, 0, 0, 0) := by decide +kernel
theorem c108_1 : zcod 108 1 = some (.istore_n 1, 1, 0, 0, 0, 0) := by decide +kernel
theorem c108_2 : zcod 108 2 = some (.iconst 0, 1, 0, 0, 0, 0) := by decide +kernel
theorem c108_3 : zcod 108 3 = some (.istore_n 2, 1, 0, 0, 0, 0) := by decide +kernel
theorem c108_4 : zcod 108 4 = some (.iload_n 2, 1, 0, 0, 0, 0) := by decide +kernel
theorem c108_5 : zcod 108 5 = some (.aload_n 0, 1, 0, 0, 0, 0) := by decide +kernel
theorem c108_6 : zcod 108 6 = some (.getfield 22, 3, 5, 2, 147, 0) := by decide +kernel
theorem c108_9 : zcod 108 9 = some (.invokevirtual 36, 3, 14, 0, 300, 0) := by decide +kernel
theorem c108_12 : zcod 108 12 = some (.if_icmp .ge 26, 3, 38, 0, 0, 0) := by decide +kernel
theorem c108_15 : zcod 108 15 = some (.iload_n 1, 1, 0, 0, 0, 0) := by decide +kernel
theorem c108_16 : zcod 108 16 = some (.aload_n 0, 1, 0, 0, 0, 0) := by decide +kernel
theorem c108_17 : zcod 108 17 = some (.getfield 22, 3, 5, 2, 147, 0) := by decide +kernel
theorem c108_20 : zcod 108 20 = some (.iload_n 2, 1, 0, 0, 0, 0) := by decide +kernel
theorem c108_21 : zcod 108 21 = some (.invokevirtual 40, 3, 51, 1, 503, 0) := by decide +kernel
theorem c108_24 : zcod 108 24 = some (.checkcast 44, 3, 2, 0, 301, 0) := by decide +kernel
theorem c108_27 : zcod 108 27 = some (.invokevirtual 93, 3, 53, 0, 522, 0) := by decide +kernel
theorem c108_30 : zcod 108 30 = some (.iadd, 1, 0, 0, 0, 0) := by decide +kernel
theorem c108_31 : zcod 108 31 = some (.istore_n 1, 1, 0, 0, 0, 0) := by decide +kernel
theorem c108_32 : zcod 108 32 = some (.iinc 2 1, 3, 0, 0, 0, 0) := by decide +kernel
theorem c108_35 : zcod 108 35 = some (.goto (-31), 3, 4, 0, 0, 0) := by decide +kernel
theorem c108_38 : zcod 108 38 = some (.iload_n 1, 1, 0, 0, 0, 0) := by decide +kernel
theorem c108_39 : zcod 108 39 = some (.ireturn, 1, 0, 0, 0, 0) := by decide +kernel
set_option maxRecDepth 100000 in
theorem b108_0 (l0 : Option Nat) (h : zH) : zev 108 0 [some (vR l0), none, none] [] h = zev 108 4 [some (vR l0), some (vI 0), some (vI 0)] [] h := by
  refine (zv_k (v := 0) c108_0 (by decide)).trans ?_
  refine (zv_it c108_1 rfl).trans ?_
  refine (zv_k (v := 0) c108_2 (by decide)).trans ?_
  refine (zv_it c108_3 rfl).trans ?_
  rfl
theorem e108 (l0 : Option Nat) (h : zH) : zcall 108 [vR l0] h = zev 108 4 [some (vR l0), some (vI 0), some (vI 0)] [] h := by
  refine Eq.trans ?_ (b108_0 l0 h)
  unfold zcall zent
  rw [zL_108]
  rfl
set_option maxRecDepth 100000 in
theorem b108_4 (l0 : Option Nat) (l1 : Int32) (l2 : Int32) (h : zH) : zev 108 4 [some (vR l0), some (vI l1), some (vI l2)] [] h = (zgR h l0 5 2 fun x1 => (zvr h x1 0 (zcI 14 [vR x1] h fun x3 h2 => (if l2 < x3 then (zgR h2 l0 5 2 fun x4 => (zvr h2 x4 0 (zcR 51 [vR x4, vI l2] h2 fun x6 h5 => (zca h5 2 x6 ((zvr h5 x6 2 (zcI 53 [vR x6] h5 fun x8 h7 => zev 108 4 [some (vR l0), some (vI (l1 + x8)), some (vI (l2 + 1))] [] h7))))))) else some (some (vI l1), h2))))) := by
  refine (zv_in c108_4 rfl).trans ?_
  refine (zv_an c108_5 rfl).trans ?_
  refine (zv_gR c108_6 zf5_2).trans (zgR_c fun x1 => ?_)
  refine (zv_viI c108_9 zcn_14 rfl zL_14 (Or.inl zrt_14) rfl rfl).trans (zvr_c (zcI_c fun x3 h2 => ?_))
  refine (zv_icge c108_12).trans (zif_c ?_ ?_)
  · refine (zv_in c108_15 rfl).trans ?_
    refine (zv_an c108_16 rfl).trans ?_
    refine (zv_gR c108_17 zf5_2).trans (zgR_c fun x4 => ?_)
    refine (zv_in c108_20 rfl).trans ?_
    refine (zv_viR c108_21 zcn_51 rfl zL_51 zrt_51 rfl rfl).trans (zvr_c (zcR_c fun x6 h5 => ?_))
    refine (zv_ca c108_24).trans (zca_c ?_)
    refine (zv_viI c108_27 zcn_53 rfl zL_53 (Or.inl zrt_53) rfl rfl).trans (zvr_c (zcI_c fun x8 h7 => ?_))
    refine (zv_iadd c108_30).trans ?_
    refine (zv_it c108_31 rfl).trans ?_
    refine (zv_inc (y := 1) c108_32 rfl (by decide) rfl).trans ?_
    refine (zv_goto c108_35).trans ?_
    rfl
  · refine (zv_in c108_38 rfl).trans ?_
    exact zv_ir c108_39 zrt_108
theorem c109_0 : zcod 109 0 = some (.iload_n 1, 1, 0, 0, 0, 0) := by decide +kernel
theorem c109_1 : zcod 109 1 = some (.iconst 1, 1, 0, 0, 0, 0) := by decide +kernel
theorem c109_2 : zcod 109 2 = some (.if_icmp .lt 18, 3, 20, 0, 0, 0) := by decide +kernel
theorem c109_5 : zcod 109 5 = some (.iload_n 1, 1, 0, 0, 0, 0) := by decide +kernel
theorem c109_6 : zcod 109 6 = some (.ldc 120, 2, 0, 0, 564, 1000000) := by decide +kernel
theorem c109_8 : zcod 109 8 = some (.if_icmp .gt 12, 3, 20, 0, 0, 0) := by decide +kernel
theorem c109_11 : zcod 109 11 = some (.iload_n 2, 1, 0, 0, 0, 0) := by decide +kernel
theorem c109_12 : zcod 109 12 = some (.ifCond .lt 8, 3, 20, 0, 0, 0) := by decide +kernel
theorem c109_15 : zcod 109 15 = some (.iload_n 2, 1, 0, 0, 0, 0) := by decide +kernel
theorem c109_16 : zcod 109 16 = some (.iconst 1, 1, 0, 0, 0, 0) := by decide +kernel
theorem c109_17 : zcod 109 17 = some (.if_icmp .le 7, 3, 24, 0, 0, 0) := by decide +kernel
theorem c109_20 : zcod 109 20 = some (.sipush (-1002), 3, 0, 0, 0, 0) := by decide +kernel
theorem c109_23 : zcod 109 23 = some (.ireturn, 1, 0, 0, 0, 0) := by decide +kernel
theorem c109_24 : zcod 109 24 = some (.aload_n 0, 1, 0, 0, 0, 0) := by decide +kernel
theorem c109_25 : zcod 109 25 = some (.getfield 19, 3, 8, 1, 220, 0) := by decide +kernel
theorem c109_28 : zcod 109 28 = some (.getfield 31, 3, 3, 0, 183, 0) := by decide +kernel
theorem c109_31 : zcod 109 31 = some (.invokevirtual 187, 3, 107, 0, 774, 0) := by decide +kernel
theorem c109_34 : zcod 109 34 = some (.istore_n 3, 1, 0, 0, 0, 0) := by decide +kernel
theorem c109_35 : zcod 109 35 = some (.aload_n 0, 1, 0, 0, 0, 0) := by decide +kernel
theorem c109_36 : zcod 109 36 = some (.getfield 19, 3, 8, 1, 220, 0) := by decide +kernel
theorem c109_39 : zcod 109 39 = some (.iload_n 1, 1, 0, 0, 0, 0) := by decide +kernel
theorem c109_40 : zcod 109 40 = some (.iload_n 3, 1, 0, 0, 0, 0) := by decide +kernel
theorem c109_41 : zcod 109 41 = some (.invokevirtual 208, 3, 110, 2, 786, 0) := by decide +kernel
theorem c109_44 : zcod 109 44 = some (.istore 4, 2, 0, 0, 0, 0) := by decide +kernel
theorem c109_46 : zcod 109 46 = some (.iload_n 2, 1, 0, 0, 0, 0) := by decide +kernel
theorem c109_47 : zcod 109 47 = some (.ifCond .ne 6, 3, 53, 0, 0, 0) := by decide +kernel
theorem c109_50 : zcod 109 50 = some (.iload 4, 2, 0, 0, 0, 0) := by decide +kernel
theorem c109_52 : zcod 109 52 = some (.ireturn, 1, 0, 0, 0, 0) := by decide +kernel
theorem c109_53 : zcod 109 53 = some (.iconst 2, 1, 0, 0, 0, 0) := by decide +kernel
theorem c109_54 : zcod 109 54 = some (.iload 4, 2, 0, 0, 0, 0) := by decide +kernel
theorem c109_56 : zcod 109 56 = some (.imul, 1, 0, 0, 0, 0) := by decide +kernel
theorem c109_57 : zcod 109 57 = some (.iload_n 3, 1, 0, 0, 0, 0) := by decide +kernel
theorem c109_58 : zcod 109 58 = some (.if_icmp .le 7, 3, 65, 0, 0, 0) := by decide +kernel
theorem c109_61 : zcod 109 61 = some (.iconst 1, 1, 0, 0, 0, 0) := by decide +kernel
theorem c109_62 : zcod 109 62 = some (.goto 4, 3, 66, 0, 0, 0) := by decide +kernel
theorem c109_65 : zcod 109 65 = some (.iconst 0, 1, 0, 0, 0, 0) := by decide +kernel
theorem c109_66 : zcod 109 66 = some (.ireturn, 1, 0, 0, 0, 0) := by decide +kernel
set_option maxRecDepth 100000 in
theorem b109_0 (l0 : Option Nat) (l1 : Int32) (l2 : Int32) (h : zH) : zev 109 0 [some (vR l0), some (vI l1), some (vI l2), none, none] [] h = (if l1 < 1 then some (some (vI (-1002)), h) else (if 1000000 < l1 then some (some (vI (-1002)), h) else (if l2 < 0 then some (some (vI (-1002)), h) else (if 1 < l2 then some (some (vI (-1002)), h) else (zgR h l0 8 1 fun x1 => (zgR h x1 3 0 fun x2 => (zvr h x2 5 (zcI 107 [vR x2] h fun x4 h3 => (zgR h3 l0 8 1 fun x5 => (zvr h3 x5 3 (zcI 110 [vR x5, vI l1, vI x4] h3 fun x7 h6 => (if l2 = 0 then some (some (vI x7), h6) else (if x4 < (2 * x7) then some (some (vI 1), h6) else some (some (vI 0), h6)))))))))))))) := by
  refine (zv_in c109_0 rfl).trans ?_
  refine (zv_k (v := 1) c109_1 (by decide)).trans ?_
  refine (zv_iclt c109_2).trans (zif_c ?_ ?_)
  · refine (zv_si (v := -1002) c109_20 (by decide)).trans ?_
    exact zv_ir c109_23 zrt_109
  · refine (zv_in c109_5 rfl).trans ?_
    refine (zv_ldc (v := 1000000) c109_6 (by decide)).trans ?_
    refine (zv_icgt c109_8).trans (zif_c ?_ ?_)
    · refine (zv_si (v := -1002) c109_20 (by decide)).trans ?_
      exact zv_ir c109_23 zrt_109
    · refine (zv_in c109_11 rfl).trans ?_
      refine (zv_iflt c109_12).trans (zif_c ?_ ?_)
      · refine (zv_si (v := -1002) c109_20 (by decide)).trans ?_
        exact zv_ir c109_23 zrt_109
      · refine (zv_in c109_15 rfl).trans ?_
        refine (zv_k (v := 1) c109_16 (by decide)).trans ?_
        refine (zv_icle c109_17).trans (zif_c ?_ ?_)
        · refine (zv_si (v := -1002) c109_20 (by decide)).trans ?_
          exact zv_ir c109_23 zrt_109
        · refine (zv_an c109_24 rfl).trans ?_
          refine (zv_gR c109_25 zf8_1).trans (zgR_c fun x1 => ?_)
          refine (zv_gR c109_28 zf3_0).trans (zgR_c fun x2 => ?_)
          refine (zv_viI c109_31 zcn_107 rfl zL_107 (Or.inl zrt_107) rfl rfl).trans (zvr_c (zcI_c fun x4 h3 => ?_))
          refine (zv_it c109_34 rfl).trans ?_
          refine (zv_an c109_35 rfl).trans ?_
          refine (zv_gR c109_36 zf8_1).trans (zgR_c fun x5 => ?_)
          refine (zv_in c109_39 rfl).trans ?_
          refine (zv_in c109_40 rfl).trans ?_
          refine (zv_viI c109_41 zcn_110 rfl zL_110 (Or.inl zrt_110) rfl rfl).trans (zvr_c (zcI_c fun x7 h6 => ?_))
          refine (zv_is c109_44 rfl).trans ?_
          refine (zv_in c109_46 rfl).trans ?_
          refine (zv_ifne c109_47).trans (zif_c ?_ ?_)
          · refine (zv_il c109_50 rfl).trans ?_
            exact zv_ir c109_52 zrt_109
          · refine (zv_k (v := 2) c109_53 (by decide)).trans ?_
            refine (zv_il c109_54 rfl).trans ?_
            refine (zv_imul c109_56).trans ?_
            refine (zv_in c109_57 rfl).trans ?_
            refine (zv_icle c109_58).trans (zif_c ?_ ?_)
            · refine (zv_k (v := 1) c109_61 (by decide)).trans ?_
              refine (zv_goto c109_62).trans ?_
              exact zv_ir c109_66 zrt_109
            · refine (zv_k (v := 0) c109_65 (by decide)).trans ?_
              exact zv_ir c109_66 zrt_109
theorem e109 (l0 : Option Nat) (l1 : Int32) (l2 : Int32) (h : zH) : zcall 109 [vR l0, vI l1, vI l2] h = (if l1 < 1 then some (some (vI (-1002)), h) else (if 1000000 < l1 then some (some (vI (-1002)), h) else (if l2 < 0 then some (some (vI (-1002)), h) else (if 1 < l2 then some (some (vI (-1002)), h) else (zgR h l0 8 1 fun x1 => (zgR h x1 3 0 fun x2 => (zvr h x2 5 (zcI 107 [vR x2] h fun x4 h3 => (zgR h3 l0 8 1 fun x5 => (zvr h3 x5 3 (zcI 110 [vR x5, vI l1, vI x4] h3 fun x7 h6 => (if l2 = 0 then some (some (vI x7), h6) else (if x4 < (2 * x7) then some (some (vI 1), h6) else some (some (vI 0), h6)))))))))))))) := by
  refine Eq.trans ?_ (b109_0 l0 l1 l2 h)
  unfold zcall zent
  rw [zL_109]
  rfl
theorem c110_0 : zcod 110 0 = some (.iload_n 2, 1, 0, 0, 0, 0) := by decide +kernel
theorem c110_1 : zcod 110 1 = some (.ifCond .gt 5, 3, 6, 0, 0, 0) := by decide +kernel
theorem c110_4 : zcod 110 4 = some (.iconst 0, 1, 0, 0, 0, 0) := by decide +kernel
theorem c110_5 : zcod 110 5 = some (.ireturn, 1, 0, 0, 0, 0) := by decide +kernel
theorem c110_6 : zcod 110 6 = some (.iload_n 1, 1, 0, 0, 0, 0) := by decide +kernel
theorem c110_7 : zcod 110 7 = some (.iload_n 2, 1, 0, 0, 0, 0) := by decide +kernel
theorem c110_8 : zcod 110 8 = some (.idiv, 1, 0, 0, 0, 0) := by decide +kernel
theorem c110_9 : zcod 110 9 = some (.istore_n 3, 1, 0, 0, 0, 0) := by decide +kernel
theorem c110_10 : zcod 110 10 = some (.iconst 0, 1, 0, 0, 0, 0) := by decide +kernel
theorem c110_11 : zcod 110 11 = some (.istore 4, 2, 0, 0, 0, 0) := by decide +kernel
theorem c110_13 : zcod 110 13 = some (.iconst 0, 1, 0, 0, 0, 0) := by decide +kernel
theorem c110_14 : zcod 110 14 = some (.istore 5, 2, 0, 0, 0, 0) := by decide +kernel
theorem c110_16 : zcod 110 16 = some (.iload 5, 2, 0, 0, 0, 0) := by decide +kernel
theorem c110_18 : zcod 110 18 = some (.aload_n 0, 1, 0, 0, 0, 0) := by decide +kernel
theorem c110_19 : zcod 110 19 = some (.getfield 12, 3, 3, 0, 182, 0) := by decide +kernel
theorem c110_22 : zcod 110 22 = some (.getfield 103, 3, 5, 2, 150, 0) := by decide +kernel
theorem c110_25 : zcod 110 25 = some (.invokevirtual 79, 3, 14, 0, 631, 0) := by decide +kernel
theorem c110_28 : zcod 110 28 = some (.if_icmp .ge 56, 3, 84, 0, 0, 0) := by decide +kernel
theorem c110_31 : zcod 110 31 = some (.aload_n 0, 1, 0, 0, 0, 0) := by decide +kernel
theorem c110_32 : zcod 110 32 = some (.getfield 12, 3, 3, 0, 182, 0) := by decide +kernel
theorem c110_35 : zcod 110 35 = some (.getfield 103, 3, 5, 2, 150, 0) := by decide +kernel
theorem c110_38 : zcod 110 38 = some (.iload 5, 2, 0, 0, 0, 0) := by decide +kernel
theorem c110_40 : zcod 110 40 = some (.invokevirtual 83, 3, 51, 1, 632, 0) := by decide +kernel
theorem c110_43 : zcod 110 43 = some (.checkcast 26, 3, 2, 0, 709, 0) := by decide +kernel
theorem c110_46 : zcod 110 46 = some (.astore 6, 2, 0, 0, 0, 0) := by decide +kernel
theorem c110_48 : zcod 110 48 = some (.aload 6, 2, 0, 0, 0, 0) := by decide +kernel
theorem c110_50 : zcod 110 50 = some (.getfield 156, 3, 2, 10, 335, 0) := by decide +kernel
theorem c110_53 : zcod 110 53 = some (.ifCond .eq 25, 3, 78, 0, 0, 0) := by decide +kernel
theorem c110_56 : zcod 110 56 = some (.iload_n 3, 1, 0, 0, 0, 0) := by decide +kernel
theorem c110_57 : zcod 110 57 = some (.aload_n 0, 1, 0, 0, 0, 0) := by decide +kernel
theorem c110_58 : zcod 110 58 = some (.getfield 21, 3, 3, 1, 184, 0) := by decide +kernel
theorem c110_61 : zcod 110 61 = some (.aload 6, 2, 0, 0, 0, 0) := by decide +kernel
theorem c110_63 : zcod 110 63 = some (.getfield 119, 3, 2, 7, 328, 0) := by decide +kernel
theorem c110_66 : zcod 110 66 = some (.invokevirtual 87, 3, 69, 1, 634, 0) := by decide +kernel
theorem c110_69 : zcod 110 69 = some (.bipush 10, 2, 0, 0, 0, 0) := by decide +kernel
theorem c110_71 : zcod 110 71 = some (.idiv, 1, 0, 0, 0, 0) := by decide +kernel
theorem c110_72 : zcod 110 72 = some (.if_icmp .gt 6, 3, 78, 0, 0, 0) := by decide +kernel
theorem c110_75 : zcod 110 75 = some (.iinc 4 1, 3, 0, 0, 0, 0) := by decide +kernel
theorem c110_78 : zcod 110 78 = some (.iinc 5 1, 3, 0, 0, 0, 0) := by decide +kernel
theorem c110_81 : zcod 110 81 = some (.goto (-65), 3, 16, 0, 0, 0) := by decide +kernel
theorem c110_84 : zcod 110 84 = some (.iload 4, 2, 0, 0, 0, 0) := by decide +kernel
theorem c110_86 : zcod 110 86 = some (.ireturn, 1, 0, 0, 0, 0) := by decide +kernel
set_option maxRecDepth 100000 in
theorem b110_0 (l0 : Option Nat) (l1 : Int32) (l2 : Int32) (h : zH) : zev 110 0 [some (vR l0), some (vI l1), some (vI l2), none, none, none, none] [] h = (if 0 < l2 then (zdv l2 (zev 110 16 [some (vR l0), some (vI l1), some (vI l2), some (vI (l1 / l2)), some (vI 0), some (vI 0), none] [] h)) else some (some (vI 0), h)) := by
  refine (zv_in c110_0 rfl).trans ?_
  refine (zv_ifgt c110_1).trans (zif_c ?_ ?_)
  · refine (zv_in c110_6 rfl).trans ?_
    refine (zv_in c110_7 rfl).trans ?_
    refine (zv_div c110_8).trans (zdv_c ?_)
    refine (zv_it c110_9 rfl).trans ?_
    refine (zv_k (v := 0) c110_10 (by decide)).trans ?_
    refine (zv_is c110_11 rfl).trans ?_
    refine (zv_k (v := 0) c110_13 (by decide)).trans ?_
    refine (zv_is c110_14 rfl).trans ?_
    rfl
  · refine (zv_k (v := 0) c110_4 (by decide)).trans ?_
    exact zv_ir c110_5 zrt_110
theorem e110 (l0 : Option Nat) (l1 : Int32) (l2 : Int32) (h : zH) : zcall 110 [vR l0, vI l1, vI l2] h = (if 0 < l2 then (zdv l2 (zev 110 16 [some (vR l0), some (vI l1), some (vI l2), some (vI (l1 / l2)), some (vI 0), some (vI 0), none] [] h)) else some (some (vI 0), h)) := by
  refine Eq.trans ?_ (b110_0 l0 l1 l2 h)
  unfold zcall zent
  rw [zL_110]
  rfl
set_option maxRecDepth 100000 in
theorem b110_16 (l0 : Option Nat) (l1 : Int32) (l2 : Int32) (l3 : Int32) (l4 : Int32) (l5 : Int32) (l6 : Option zV) (h : zH) : zev 110 16 [some (vR l0), some (vI l1), some (vI l2), some (vI l3), some (vI l4), some (vI l5), l6] [] h = (zgR h l0 3 0 fun x1 => (zgR h x1 5 2 fun x2 => (zvr h x2 0 (zcI 14 [vR x2] h fun x4 h3 => (if l5 < x4 then (zgR h3 l0 3 0 fun x5 => (zgR h3 x5 5 2 fun x6 => (zvr h3 x6 0 (zcR 51 [vR x6, vI l5] h3 fun x8 h7 => (zca h7 2 x8 ((zgI h7 x8 2 10 fun x9 => (if x9 = 0 then zev 110 16 [some (vR l0), some (vI l1), some (vI l2), some (vI l3), some (vI l4), some (vI (l5 + 1)), some (vR x8)] [] h7 else (zgR h7 l0 3 1 fun x10 => (zgI h7 x8 2 7 fun x11 => (zvr h7 x10 4 (zcI 69 [vR x10, vI x11] h7 fun x13 h12 => (zdv 10 ((if (x13 / 10) < l3 then zev 110 16 [some (vR l0), some (vI l1), some (vI l2), some (vI l3), some (vI l4), some (vI (l5 + 1)), some (vR x8)] [] h12 else zev 110 16 [some (vR l0), some (vI l1), some (vI l2), some (vI l3), some (vI (l4 + 1)), some (vI (l5 + 1)), some (vR x8)] [] h12))))))))))))))) else some (some (vI l4), h3)))))) := by
  refine (zv_il c110_16 rfl).trans ?_
  refine (zv_an c110_18 rfl).trans ?_
  refine (zv_gR c110_19 zf3_0).trans (zgR_c fun x1 => ?_)
  refine (zv_gR c110_22 zf5_2).trans (zgR_c fun x2 => ?_)
  refine (zv_viI c110_25 zcn_14 rfl zL_14 (Or.inl zrt_14) rfl rfl).trans (zvr_c (zcI_c fun x4 h3 => ?_))
  refine (zv_icge c110_28).trans (zif_c ?_ ?_)
  · refine (zv_an c110_31 rfl).trans ?_
    refine (zv_gR c110_32 zf3_0).trans (zgR_c fun x5 => ?_)
    refine (zv_gR c110_35 zf5_2).trans (zgR_c fun x6 => ?_)
    refine (zv_il c110_38 rfl).trans ?_
    refine (zv_viR c110_40 zcn_51 rfl zL_51 zrt_51 rfl rfl).trans (zvr_c (zcR_c fun x8 h7 => ?_))
    refine (zv_ca c110_43).trans (zca_c ?_)
    refine (zv_as c110_46 rfl).trans ?_
    refine (zv_al c110_48 rfl).trans ?_
    refine (zv_gI c110_50 zg2_10).trans (zgI_c fun x9 => ?_)
    refine (zv_ifeq c110_53).trans (zif_c ?_ ?_)
    · refine (zv_inc (y := 1) c110_78 rfl (by decide) rfl).trans ?_
      refine (zv_goto c110_81).trans ?_
      rfl
    · refine (zv_in c110_56 rfl).trans ?_
      refine (zv_an c110_57 rfl).trans ?_
      refine (zv_gR c110_58 zf3_1).trans (zgR_c fun x10 => ?_)
      refine (zv_al c110_61 rfl).trans ?_
      refine (zv_gI c110_63 zg2_7).trans (zgI_c fun x11 => ?_)
      refine (zv_viI c110_66 zcn_69 rfl zL_69 (Or.inl zrt_69) rfl rfl).trans (zvr_c (zcI_c fun x13 h12 => ?_))
      refine (zv_bi (v := 10) c110_69 (by decide)).trans ?_
      refine (zv_div c110_71).trans (zdv_c ?_)
      refine (zv_icgt c110_72).trans (zif_c ?_ ?_)
      · refine (zv_inc (y := 1) c110_78 rfl (by decide) rfl).trans ?_
        refine (zv_goto c110_81).trans ?_
        rfl
      · refine (zv_inc (y := 1) c110_75 rfl (by decide) rfl).trans ?_
        refine (zv_inc (y := 1) c110_78 rfl (by decide) rfl).trans ?_
        refine (zv_goto c110_81).trans ?_
        rfl
  · refine (zv_il c110_84 rfl).trans ?_
    exact zv_ir c110_86 zrt_110
theorem c111_0 : zcod 111 0 = some (.aload_n 0, 1, 0, 0, 0, 0) := by decide +kernel
theorem c111_1 : zcod 111 1 = some (.invokespecial 1, 3, 1, 0, 795, 0) := by decide +kernel
theorem c111_4 : zcod 111 4 = some (.aload_n 0, 1, 0, 0, 0, 0) := by decide +kernel
theorem c111_5 : zcod 111 5 = some (.sipush 200, 3, 0, 0, 0, 0) := by decide +kernel
theorem c111_8 : zcod 111 8 = some (.newarray .int, 2, 100, 0, 0, 0) := by decide +kernel
theorem c111_10 : zcod 111 10 = some (.putfield 7, 3, 9, 0, 796, 0) := by decide +kernel
theorem c111_13 : zcod 111 13 = some (.aload_n 0, 1, 0, 0, 0, 0) := by decide +kernel
theorem c111_14 : zcod 111 14 = some (.iconst (-1), 1, 0, 0, 0, 0) := by decide +kernel
theorem c111_15 : zcod 111 15 = some (.putfield 13, 3, 9, 2, 798, 0) := by decide +kernel
theorem c111_18 : zcod 111 18 = some (.aload_n 0, 1, 0, 0, 0, 0) := by decide +kernel
theorem c111_19 : zcod 111 19 = some (.sipush 320, 3, 0, 0, 0, 0) := by decide +kernel
theorem c111_22 : zcod 111 22 = some (.newarray .int, 2, 100, 0, 0, 0) := by decide +kernel
theorem c111_24 : zcod 111 24 = some (.putfield 17, 3, 9, 3, 799, 0) := by decide +kernel
theorem c111_27 : zcod 111 27 = some (.aload_n 0, 1, 0, 0, 0, 0) := by decide +kernel
theorem c111_28 : zcod 111 28 = some (.sipush 320, 3, 0, 0, 0, 0) := by decide +kernel
theorem c111_31 : zcod 111 31 = some (.newarray .int, 2, 100, 0, 0, 0) := by decide +kernel
theorem c111_33 : zcod 111 33 = some (.putfield 20, 3, 9, 4, 800, 0) := by decide +kernel
theorem c111_36 : zcod 111 36 = some (.aload_n 0, 1, 0, 0, 0, 0) := by decide +kernel
theorem c111_37 : zcod 111 37 = some (.bipush 40, 2, 0, 0, 0, 0) := by decide +kernel
theorem c111_39 : zcod 111 39 = some (.newarray .int, 2, 100, 0, 0, 0) := by decide +kernel
theorem c111_41 : zcod 111 41 = some (.putfield 23, 3, 9, 6, 802, 0) := by decide +kernel
theorem c111_44 : zcod 111 44 = some (.aload_n 0, 1, 0, 0, 0, 0) := by decide +kernel
theorem c111_45 : zcod 111 45 = some (.bipush 40, 2, 0, 0, 0, 0) := by decide +kernel
theorem c111_47 : zcod 111 47 = some (.newarray .int, 2, 100, 0, 0, 0) := by decide +kernel
theorem c111_49 : zcod 111 49 = some (.putfield 26, 3, 9, 7, 803, 0) := by decide +kernel
theorem c111_52 : zcod 111 52 = some (.aload_n 0, 1, 0, 0, 0, 0) := by decide +kernel
theorem c111_53 : zcod 111 53 = some (.bipush 40, 2, 0, 0, 0, 0) := by decide +kernel
theorem c111_55 : zcod 111 55 = some (.newarray .boolean, 2, 102, 0, 0, 0) := by decide +kernel
theorem c111_57 : zcod 111 57 = some (.putfield 29, 3, 9, 8, 804, 0) := by decide +kernel
theorem c111_60 : zcod 111 60 = some (.aload_n 0, 1, 0, 0, 0, 0) := by decide +kernel
theorem c111_61 : zcod 111 61 = some (.bipush 40, 2, 0, 0, 0, 0) := by decide +kernel
theorem c111_63 : zcod 111 63 = some (.newarray .int, 2, 100, 0, 0, 0) := by decide +kernel
theorem c111_65 : zcod 111 65 = some (.putfield 33, 3, 9, 9, 805, 0) := by decide +kernel
theorem c111_68 : zcod 111 68 = some (.aload_n 0, 1, 0, 0, 0, 0) := by decide +kernel
theorem c111_69 : zcod 111 69 = some (.bipush 40, 2, 0, 0, 0, 0) := by decide +kernel
theorem c111_71 : zcod 111 71 = some (.newarray .int, 2, 100, 0, 0, 0) := by decide +kernel
theorem c111_73 : zcod 111 73 = some (.putfield 36, 3, 9, 10, 806, 0) := by decide +kernel
theorem c111_76 : zcod 111 76 = some (.aload_n 0, 1, 0, 0, 0, 0) := by decide +kernel
theorem c111_77 : zcod 111 77 = some (.bipush 40, 2, 0, 0, 0, 0) := by decide +kernel
theorem c111_79 : zcod 111 79 = some (.newarray .int, 2, 100, 0, 0, 0) := by decide +kernel
theorem c111_81 : zcod 111 81 = some (.putfield 39, 3, 9, 11, 807, 0) := by decide +kernel
theorem c111_84 : zcod 111 84 = some (.aload_n 0, 1, 0, 0, 0, 0) := by decide +kernel
theorem c111_85 : zcod 111 85 = some (.bipush 40, 2, 0, 0, 0, 0) := by decide +kernel
theorem c111_87 : zcod 111 87 = some (.newarray .int, 2, 100, 0, 0, 0) := by decide +kernel
theorem c111_89 : zcod 111 89 = some (.putfield 42, 3, 9, 12, 808, 0) := by decide +kernel
theorem c111_92 : zcod 111 92 = some (.aload_n 0, 1, 0, 0, 0, 0) := by decide +kernel
theorem c111_93 : zcod 111 93 = some (.bipush 40, 2, 0, 0, 0, 0) := by decide +kernel
theorem c111_95 : zcod 111 95 = some (.newarray .int, 2, 100, 0, 0, 0) := by decide +kernel
theorem c111_97 : zcod 111 97 = some (.putfield 45, 3, 9, 13, 809, 0) := by decide +kernel
theorem c111_100 : zcod 111 100 = some (.aload_n 0, 1, 0, 0, 0, 0) := by decide +kernel
theorem c111_101 : zcod 111 101 = some (.bipush 40, 2, 0, 0, 0, 0) := by decide +kernel
theorem c111_103 : zcod 111 103 = some (.newarray .int, 2, 100, 0, 0, 0) := by decide +kernel
theorem c111_105 : zcod 111 105 = some (.putfield 48, 3, 9, 14, 810, 0) := by decide +kernel
theorem c111_108 : zcod 111 108 = some (.aload_n 0, 1, 0, 0, 0, 0) := by decide +kernel
theorem c111_109 : zcod 111 109 = some (.bipush 40, 2, 0, 0, 0, 0) := by decide +kernel
theorem c111_111 : zcod 111 111 = some (.newarray .int, 2, 100, 0, 0, 0) := by decide +kernel
theorem c111_113 : zcod 111 113 = some (.putfield 51, 3, 9, 15, 811, 0) := by decide +kernel
theorem c111_116 : zcod 111 116 = some (.aload_n 0, 1, 0, 0, 0, 0) := by decide +kernel
theorem c111_117 : zcod 111 117 = some (.bipush 12, 2, 0, 0, 0, 0) := by decide +kernel
theorem c111_119 : zcod 111 119 = some (.newarray .boolean, 2, 102, 0, 0, 0) := by decide +kernel
theorem c111_121 : zcod 111 121 = some (.putfield 54, 3, 9, 17, 813, 0) := by decide +kernel
theorem c111_124 : zcod 111 124 = some (.aload_n 0, 1, 0, 0, 0, 0) := by decide +kernel
theorem c111_125 : zcod 111 125 = some (.bipush 20, 2, 0, 0, 0, 0) := by decide +kernel
theorem c111_127 : zcod 111 127 = some (.newarray .int, 2, 100, 0, 0, 0) := by decide +kernel
theorem c111_129 : zcod 111 129 = some (.putfield 57, 3, 9, 19, 815, 0) := by decide +kernel
theorem c111_132 : zcod 111 132 = some (.aload_n 0, 1, 0, 0, 0, 0) := by decide +kernel
theorem c111_133 : zcod 111 133 = some (.bipush 20, 2, 0, 0, 0, 0) := by decide +kernel
theorem c111_135 : zcod 111 135 = some (.newarray .int, 2, 100, 0, 0, 0) := by decide +kernel
theorem c111_137 : zcod 111 137 = some (.putfield 60, 3, 9, 20, 816, 0) := by decide +kernel
theorem c111_140 : zcod 111 140 = some (.aload_n 0, 1, 0, 0, 0, 0) := by decide +kernel
theorem c111_141 : zcod 111 141 = some (.bipush 40, 2, 0, 0, 0, 0) := by decide +kernel
theorem c111_143 : zcod 111 143 = some (.newarray .int, 2, 100, 0, 0, 0) := by decide +kernel
theorem c111_145 : zcod 111 145 = some (.putfield 63, 3, 9, 21, 817, 0) := by decide +kernel
theorem c111_148 : zcod 111 148 = some (.aload_n 0, 1, 0, 0, 0, 0) := by decide +kernel
theorem c111_149 : zcod 111 149 = some (.sipush 800, 3, 0, 0, 0, 0) := by decide +kernel
theorem c111_152 : zcod 111 152 = some (.newarray .int, 2, 100, 0, 0, 0) := by decide +kernel
theorem c111_154 : zcod 111 154 = some (.putfield 66, 3, 9, 22, 818, 0) := by decide +kernel
theorem c111_157 : zcod 111 157 = some (.aload_n 0, 1, 0, 0, 0, 0) := by decide +kernel
theorem c111_158 : zcod 111 158 = some (.sipush 800, 3, 0, 0, 0, 0) := by decide +kernel
theorem c111_161 : zcod 111 161 = some (.newarray .int, 2, 100, 0, 0, 0) := by decide +kernel
theorem c111_163 : zcod 111 163 = some (.putfield 69, 3, 9, 23, 819, 0) := by decide +kernel
theorem c111_166 : zcod 111 166 = some (.aload_n 0, 1, 0, 0, 0, 0) := by decide +kernel
theorem c111_167 : zcod 111 167 = some (.sipush 4000, 3, 0, 0, 0, 0) := by decide +kernel
theorem c111_170 : zcod 111 170 = some (.newarray .int, 2, 100, 0, 0, 0) := by decide +kernel
theorem c111_172 : zcod 111 172 = some (.putfield 72, 3, 9, 32, 828, 0) := by decide +kernel
theorem c111_175 : zcod 111 175 = some (.aload_n 0, 1, 0, 0, 0, 0) := by decide +kernel
theorem c111_176 : zcod 111 176 = some (.sipush 4000, 3, 0, 0, 0, 0) := by decide +kernel
theorem c111_179 : zcod 111 179 = some (.newarray .int, 2, 100, 0, 0, 0) := by decide +kernel
theorem c111_181 : zcod 111 181 = some (.putfield 75, 3, 9, 33, 829, 0) := by decide +kernel
theorem c111_184 : zcod 111 184 = some (.aload_n 0, 1, 0, 0, 0, 0) := by decide +kernel
theorem c111_185 : zcod 111 185 = some (.sipush 4000, 3, 0, 0, 0, 0) := by decide +kernel
theorem c111_188 : zcod 111 188 = some (.newarray .int, 2, 100, 0, 0, 0) := by decide +kernel
theorem c111_190 : zcod 111 190 = some (.putfield 78, 3, 9, 34, 830, 0) := by decide +kernel
theorem c111_193 : zcod 111 193 = some (.aload_n 0, 1, 0, 0, 0, 0) := by decide +kernel
theorem c111_194 : zcod 111 194 = some (.iconst 5, 1, 0, 0, 0, 0) := by decide +kernel
theorem c111_195 : zcod 111 195 = some (.newarray .int, 2, 100, 0, 0, 0) := by decide +kernel
theorem c111_197 : zcod 111 197 = some (.putfield 81, 3, 9, 38, 834, 0) := by decide +kernel
theorem c111_200 : zcod 111 200 = some (.aload_n 0, 1, 0, 0, 0, 0) := by decide +kernel
theorem c111_201 : zcod 111 201 = some (.bipush 40, 2, 0, 0, 0, 0) := by decide +kernel
theorem c111_203 : zcod 111 203 = some (.newarray .int, 2, 100, 0, 0, 0) := by decide +kernel
theorem c111_205 : zcod 111 205 = some (.putfield 84, 3, 9, 39, 835, 0) := by decide +kernel
theorem c111_208 : zcod 111 208 = some (.aload_n 0, 1, 0, 0, 0, 0) := by decide +kernel
theorem c111_209 : zcod 111 209 = some (.bipush 40, 2, 0, 0, 0, 0) := by decide +kernel
theorem c111_211 : zcod 111 211 = some (.newarray .boolean, 2, 102, 0, 0, 0) := by decide +kernel
theorem c111_213 : zcod 111 213 = some (.putfield 87, 3, 9, 40, 836, 0) := by decide +kernel
theorem c111_216 : zcod 111 216 = some (.iconst 0, 1, 0, 0, 0, 0) := by decide +kernel
theorem c111_217 : zcod 111 217 = some (.istore_n 1, 1, 0, 0, 0, 0) := by decide +kernel
theorem c111_218 : zcod 111 218 = some (.iload_n 1, 1, 0, 0, 0, 0) := by decide +kernel
theorem c111_219 : zcod 111 219 = some (.sipush 320, 3, 0, 0, 0, 0) := by decide +kernel
theorem c111_222 : zcod 111 222 = some (.if_icmp .ge 16, 3, 238, 0, 0, 0) := by decide +kernel
theorem c111_225 : zcod 111 225 = some (.aload_n 0, 1, 0, 0, 0, 0) := by decide +kernel
theorem c111_226 : zcod 111 226 = some (.getfield 17, 3, 9, 3, 799, 0) := by decide +kernel
theorem c111_229 : zcod 111 229 = some (.iload_n 1, 1, 0, 0, 0, 0) := by decide +kernel
theorem c111_230 : zcod 111 230 = some (.iconst (-1), 1, 0, 0, 0, 0) := by decide +kernel
theorem c111_231 : zcod 111 231 = some (.iastore, 1, 0, 0, 0, 0) := by decide +kernel
theorem c111_232 : zcod 111 232 = some (.iinc 1 1, 3, 0, 0, 0, 0) := by decide +kernel
theorem c111_235 : zcod 111 235 = some (.goto (-17), 3, 218, 0, 0, 0) := by decide +kernel
theorem c111_238 : zcod 111 238 = some (.return_, 1, 0, 0, 0, 0) := by decide +kernel
set_option maxRecDepth 100000 in
theorem b111_0 (l0 : Option Nat) (h : zH) : zev 111 0 [some (vR l0), none] [] h = (zul l0 none ((zna h 100 200 fun x1 h2 => (zpR h2 l0 9 0 x1 fun h3 => (zpI h3 l0 9 2 (-1) fun h4 => (zna h4 100 320 fun x5 h6 => (zpR h6 l0 9 3 x5 fun h7 => (zna h7 100 320 fun x8 h9 => (zpR h9 l0 9 4 x8 fun h10 => (zna h10 100 40 fun x11 h12 => (zpR h12 l0 9 6 x11 fun h13 => (zna h13 100 40 fun x14 h15 => (zpR h15 l0 9 7 x14 fun h16 => (zna h16 102 40 fun x17 h18 => (zpR h18 l0 9 8 x17 fun h19 => (zna h19 100 40 fun x20 h21 => (zpR h21 l0 9 9 x20 fun h22 => (zna h22 100 40 fun x23 h24 => (zpR h24 l0 9 10 x23 fun h25 => (zna h25 100 40 fun x26 h27 => (zpR h27 l0 9 11 x26 fun h28 => (zna h28 100 40 fun x29 h30 => (zpR h30 l0 9 12 x29 fun h31 => (zna h31 100 40 fun x32 h33 => (zpR h33 l0 9 13 x32 fun h34 => (zna h34 100 40 fun x35 h36 => (zpR h36 l0 9 14 x35 fun h37 => (zna h37 100 40 fun x38 h39 => (zpR h39 l0 9 15 x38 fun h40 => (zna h40 102 12 fun x41 h42 => (zpR h42 l0 9 17 x41 fun h43 => (zna h43 100 20 fun x44 h45 => (zpR h45 l0 9 19 x44 fun h46 => (zna h46 100 20 fun x47 h48 => (zpR h48 l0 9 20 x47 fun h49 => (zna h49 100 40 fun x50 h51 => (zpR h51 l0 9 21 x50 fun h52 => (zna h52 100 800 fun x53 h54 => (zpR h54 l0 9 22 x53 fun h55 => (zna h55 100 800 fun x56 h57 => (zpR h57 l0 9 23 x56 fun h58 => (zna h58 100 4000 fun x59 h60 => (zpR h60 l0 9 32 x59 fun h61 => (zna h61 100 4000 fun x62 h63 => (zpR h63 l0 9 33 x62 fun h64 => (zna h64 100 4000 fun x65 h66 => (zpR h66 l0 9 34 x65 fun h67 => (zna h67 100 5 fun x68 h69 => (zpR h69 l0 9 38 x68 fun h70 => (zna h70 100 40 fun x71 h72 => (zpR h72 l0 9 39 x71 fun h73 => (zna h73 102 40 fun x74 h75 => (zpR h75 l0 9 40 x74 fun h76 => zev 111 218 [some (vR l0), some (vI 0)] [] h76))))))))))))))))))))))))))))))))))))))))))))))))))))) := by
  refine (zv_an c111_0 rfl).trans ?_
  refine (zv_ob c111_1 (zle rfl)).trans (zul_c rfl ?_)
  refine (zv_an c111_4 rfl).trans ?_
  refine (zv_si (v := 200) c111_5 (by decide)).trans ?_
  refine (zv_na c111_8).trans (zna_c fun x1 h2 => ?_)
  refine (zv_pR c111_10 zf9_0).trans (zpR_c fun h3 => ?_)
  refine (zv_an c111_13 rfl).trans ?_
  refine (zv_k (v := -1) c111_14 (by decide)).trans ?_
  refine (zv_pI c111_15 zf9_2).trans (zpI_c fun h4 => ?_)
  refine (zv_an c111_18 rfl).trans ?_
  refine (zv_si (v := 320) c111_19 (by decide)).trans ?_
  refine (zv_na c111_22).trans (zna_c fun x5 h6 => ?_)
  refine (zv_pR c111_24 zf9_3).trans (zpR_c fun h7 => ?_)
  refine (zv_an c111_27 rfl).trans ?_
  refine (zv_si (v := 320) c111_28 (by decide)).trans ?_
  refine (zv_na c111_31).trans (zna_c fun x8 h9 => ?_)
  refine (zv_pR c111_33 zf9_4).trans (zpR_c fun h10 => ?_)
  refine (zv_an c111_36 rfl).trans ?_
  refine (zv_bi (v := 40) c111_37 (by decide)).trans ?_
  refine (zv_na c111_39).trans (zna_c fun x11 h12 => ?_)
  refine (zv_pR c111_41 zf9_6).trans (zpR_c fun h13 => ?_)
  refine (zv_an c111_44 rfl).trans ?_
  refine (zv_bi (v := 40) c111_45 (by decide)).trans ?_
  refine (zv_na c111_47).trans (zna_c fun x14 h15 => ?_)
  refine (zv_pR c111_49 zf9_7).trans (zpR_c fun h16 => ?_)
  refine (zv_an c111_52 rfl).trans ?_
  refine (zv_bi (v := 40) c111_53 (by decide)).trans ?_
  refine (zv_na c111_55).trans (zna_c fun x17 h18 => ?_)
  refine (zv_pR c111_57 zf9_8).trans (zpR_c fun h19 => ?_)
  refine (zv_an c111_60 rfl).trans ?_
  refine (zv_bi (v := 40) c111_61 (by decide)).trans ?_
  refine (zv_na c111_63).trans (zna_c fun x20 h21 => ?_)
  refine (zv_pR c111_65 zf9_9).trans (zpR_c fun h22 => ?_)
  refine (zv_an c111_68 rfl).trans ?_
  refine (zv_bi (v := 40) c111_69 (by decide)).trans ?_
  refine (zv_na c111_71).trans (zna_c fun x23 h24 => ?_)
  refine (zv_pR c111_73 zf9_10).trans (zpR_c fun h25 => ?_)
  refine (zv_an c111_76 rfl).trans ?_
  refine (zv_bi (v := 40) c111_77 (by decide)).trans ?_
  refine (zv_na c111_79).trans (zna_c fun x26 h27 => ?_)
  refine (zv_pR c111_81 zf9_11).trans (zpR_c fun h28 => ?_)
  refine (zv_an c111_84 rfl).trans ?_
  refine (zv_bi (v := 40) c111_85 (by decide)).trans ?_
  refine (zv_na c111_87).trans (zna_c fun x29 h30 => ?_)
  refine (zv_pR c111_89 zf9_12).trans (zpR_c fun h31 => ?_)
  refine (zv_an c111_92 rfl).trans ?_
  refine (zv_bi (v := 40) c111_93 (by decide)).trans ?_
  refine (zv_na c111_95).trans (zna_c fun x32 h33 => ?_)
  refine (zv_pR c111_97 zf9_13).trans (zpR_c fun h34 => ?_)
  refine (zv_an c111_100 rfl).trans ?_
  refine (zv_bi (v := 40) c111_101 (by decide)).trans ?_
  refine (zv_na c111_103).trans (zna_c fun x35 h36 => ?_)
  refine (zv_pR c111_105 zf9_14).trans (zpR_c fun h37 => ?_)
  refine (zv_an c111_108 rfl).trans ?_
  refine (zv_bi (v := 40) c111_109 (by decide)).trans ?_
  refine (zv_na c111_111).trans (zna_c fun x38 h39 => ?_)
  refine (zv_pR c111_113 zf9_15).trans (zpR_c fun h40 => ?_)
  refine (zv_an c111_116 rfl).trans ?_
  refine (zv_bi (v := 12) c111_117 (by decide)).trans ?_
  refine (zv_na c111_119).trans (zna_c fun x41 h42 => ?_)
  refine (zv_pR c111_121 zf9_17).trans (zpR_c fun h43 => ?_)
  refine (zv_an c111_124 rfl).trans ?_
  refine (zv_bi (v := 20) c111_125 (by decide)).trans ?_
  refine (zv_na c111_127).trans (zna_c fun x44 h45 => ?_)
  refine (zv_pR c111_129 zf9_19).trans (zpR_c fun h46 => ?_)
  refine (zv_an c111_132 rfl).trans ?_
  refine (zv_bi (v := 20) c111_133 (by decide)).trans ?_
  refine (zv_na c111_135).trans (zna_c fun x47 h48 => ?_)
  refine (zv_pR c111_137 zf9_20).trans (zpR_c fun h49 => ?_)
  refine (zv_an c111_140 rfl).trans ?_
  refine (zv_bi (v := 40) c111_141 (by decide)).trans ?_
  refine (zv_na c111_143).trans (zna_c fun x50 h51 => ?_)
  refine (zv_pR c111_145 zf9_21).trans (zpR_c fun h52 => ?_)
  refine (zv_an c111_148 rfl).trans ?_
  refine (zv_si (v := 800) c111_149 (by decide)).trans ?_
  refine (zv_na c111_152).trans (zna_c fun x53 h54 => ?_)
  refine (zv_pR c111_154 zf9_22).trans (zpR_c fun h55 => ?_)
  refine (zv_an c111_157 rfl).trans ?_
  refine (zv_si (v := 800) c111_158 (by decide)).trans ?_
  refine (zv_na c111_161).trans (zna_c fun x56 h57 => ?_)
  refine (zv_pR c111_163 zf9_23).trans (zpR_c fun h58 => ?_)
  refine (zv_an c111_166 rfl).trans ?_
  refine (zv_si (v := 4000) c111_167 (by decide)).trans ?_
  refine (zv_na c111_170).trans (zna_c fun x59 h60 => ?_)
  refine (zv_pR c111_172 zf9_32).trans (zpR_c fun h61 => ?_)
  refine (zv_an c111_175 rfl).trans ?_
  refine (zv_si (v := 4000) c111_176 (by decide)).trans ?_
  refine (zv_na c111_179).trans (zna_c fun x62 h63 => ?_)
  refine (zv_pR c111_181 zf9_33).trans (zpR_c fun h64 => ?_)
  refine (zv_an c111_184 rfl).trans ?_
  refine (zv_si (v := 4000) c111_185 (by decide)).trans ?_
  refine (zv_na c111_188).trans (zna_c fun x65 h66 => ?_)
  refine (zv_pR c111_190 zf9_34).trans (zpR_c fun h67 => ?_)
  refine (zv_an c111_193 rfl).trans ?_
  refine (zv_k (v := 5) c111_194 (by decide)).trans ?_
  refine (zv_na c111_195).trans (zna_c fun x68 h69 => ?_)
  refine (zv_pR c111_197 zf9_38).trans (zpR_c fun h70 => ?_)
  refine (zv_an c111_200 rfl).trans ?_
  refine (zv_bi (v := 40) c111_201 (by decide)).trans ?_
  refine (zv_na c111_203).trans (zna_c fun x71 h72 => ?_)
  refine (zv_pR c111_205 zf9_39).trans (zpR_c fun h73 => ?_)
  refine (zv_an c111_208 rfl).trans ?_
  refine (zv_bi (v := 40) c111_209 (by decide)).trans ?_
  refine (zv_na c111_211).trans (zna_c fun x74 h75 => ?_)
  refine (zv_pR c111_213 zf9_40).trans (zpR_c fun h76 => ?_)
  refine (zv_k (v := 0) c111_216 (by decide)).trans ?_
  refine (zv_it c111_217 rfl).trans ?_
  rfl
theorem e111 (l0 : Option Nat) (h : zH) : zcall 111 [vR l0] h = (zul l0 none ((zna h 100 200 fun x1 h2 => (zpR h2 l0 9 0 x1 fun h3 => (zpI h3 l0 9 2 (-1) fun h4 => (zna h4 100 320 fun x5 h6 => (zpR h6 l0 9 3 x5 fun h7 => (zna h7 100 320 fun x8 h9 => (zpR h9 l0 9 4 x8 fun h10 => (zna h10 100 40 fun x11 h12 => (zpR h12 l0 9 6 x11 fun h13 => (zna h13 100 40 fun x14 h15 => (zpR h15 l0 9 7 x14 fun h16 => (zna h16 102 40 fun x17 h18 => (zpR h18 l0 9 8 x17 fun h19 => (zna h19 100 40 fun x20 h21 => (zpR h21 l0 9 9 x20 fun h22 => (zna h22 100 40 fun x23 h24 => (zpR h24 l0 9 10 x23 fun h25 => (zna h25 100 40 fun x26 h27 => (zpR h27 l0 9 11 x26 fun h28 => (zna h28 100 40 fun x29 h30 => (zpR h30 l0 9 12 x29 fun h31 => (zna h31 100 40 fun x32 h33 => (zpR h33 l0 9 13 x32 fun h34 => (zna h34 100 40 fun x35 h36 => (zpR h36 l0 9 14 x35 fun h37 => (zna h37 100 40 fun x38 h39 => (zpR h39 l0 9 15 x38 fun h40 => (zna h40 102 12 fun x41 h42 => (zpR h42 l0 9 17 x41 fun h43 => (zna h43 100 20 fun x44 h45 => (zpR h45 l0 9 19 x44 fun h46 => (zna h46 100 20 fun x47 h48 => (zpR h48 l0 9 20 x47 fun h49 => (zna h49 100 40 fun x50 h51 => (zpR h51 l0 9 21 x50 fun h52 => (zna h52 100 800 fun x53 h54 => (zpR h54 l0 9 22 x53 fun h55 => (zna h55 100 800 fun x56 h57 => (zpR h57 l0 9 23 x56 fun h58 => (zna h58 100 4000 fun x59 h60 => (zpR h60 l0 9 32 x59 fun h61 => (zna h61 100 4000 fun x62 h63 => (zpR h63 l0 9 33 x62 fun h64 => (zna h64 100 4000 fun x65 h66 => (zpR h66 l0 9 34 x65 fun h67 => (zna h67 100 5 fun x68 h69 => (zpR h69 l0 9 38 x68 fun h70 => (zna h70 100 40 fun x71 h72 => (zpR h72 l0 9 39 x71 fun h73 => (zna h73 102 40 fun x74 h75 => (zpR h75 l0 9 40 x74 fun h76 => zev 111 218 [some (vR l0), some (vI 0)] [] h76))))))))))))))))))))))))))))))))))))))))))))))))))))) := by
  refine Eq.trans ?_ (b111_0 l0 h)
  unfold zcall zent
  rw [zL_111]
  rfl
set_option maxRecDepth 100000 in
theorem b111_218 (l0 : Option Nat) (l1 : Int32) (h : zH) : zev 111 218 [some (vR l0), some (vI l1)] [] h = (if l1 < 320 then (zgR h l0 9 3 fun x1 => (ztI h x1 l1 (-1) fun h2 => zev 111 218 [some (vR l0), some (vI (l1 + 1))] [] h2)) else some (none, h)) := by
  refine (zv_in c111_218 rfl).trans ?_
  refine (zv_si (v := 320) c111_219 (by decide)).trans ?_
  refine (zv_icge c111_222).trans (zif_c ?_ ?_)
  · refine (zv_an c111_225 rfl).trans ?_
    refine (zv_gR c111_226 zf9_3).trans (zgR_c fun x1 => ?_)
    refine (zv_in c111_229 rfl).trans ?_
    refine (zv_k (v := -1) c111_230 (by decide)).trans ?_
    refine (zv_tI c111_231).trans (ztI_c fun h2 => ?_)
    refine (zv_inc (y := 1) c111_232 rfl (by decide) rfl).trans ?_
    refine (zv_goto c111_235).trans ?_
    rfl
  · exact zv_vr c111_238 zrt_111
theorem c112_0 : zcod 112 0 = some (.iload_n 1, 1, 0, 0, 0, 0) := by decide +kernel
theorem c112_1 : zcod 112 1 = some (.i2l, 1, 0, 0, 0, 0) := by decide +kernel
theorem c112_2 : zcod 112 2 = some (.lconst 1, 1, 0, 0, 0, 0) := by decide +kernel
theorem c112_3 : zcod 112 3 = some (.ldc2_w 90, 3, 0, 0, 924, 8) := by decide +kernel
theorem c112_6 : zcod 112 6 = some (.invokestatic 92, 3, 113, 3, 925, 0) := by decide +kernel
theorem c112_9 : zcod 112 9 = some (.ifCond .ne 7, 3, 16, 0, 0, 0) := by decide +kernel
theorem c112_12 : zcod 112 12 = some (.sipush (-1002), 3, 0, 0, 0, 0) := by decide +kernel
theorem c112_15 : zcod 112 15 = some (.ireturn, 1, 0, 0, 0, 0) := by decide +kernel
theorem c112_16 : zcod 112 16 = some (.aload_n 0, 1, 0, 0, 0, 0) := by decide +kernel
theorem c112_17 : zcod 112 17 = some (.getfield 96, 3, 9, 1, 797, 0) := by decide +kernel
theorem c112_20 : zcod 112 20 = some (.iload_n 1, 1, 0, 0, 0, 0) := by decide +kernel
theorem c112_21 : zcod 112 21 = some (.iadd, 1, 0, 0, 0, 0) := by decide +kernel
theorem c112_22 : zcod 112 22 = some (.sipush 200, 3, 0, 0, 0, 0) := by decide +kernel
theorem c112_25 : zcod 112 25 = some (.if_icmp .le 7, 3, 32, 0, 0, 0) := by decide +kernel
theorem c112_28 : zcod 112 28 = some (.sipush (-1004), 3, 0, 0, 0, 0) := by decide +kernel
theorem c112_31 : zcod 112 31 = some (.ireturn, 1, 0, 0, 0, 0) := by decide +kernel
theorem c112_32 : zcod 112 32 = some (.iload_n 1, 1, 0, 0, 0, 0) := by decide +kernel
theorem c112_33 : zcod 112 33 = some (.iconst 1, 1, 0, 0, 0, 0) := by decide +kernel
theorem c112_34 : zcod 112 34 = some (.isub, 1, 0, 0, 0, 0) := by decide +kernel
theorem c112_35 : zcod 112 35 = some (.istore 4, 2, 0, 0, 0, 0) := by decide +kernel
theorem c112_37 : zcod 112 37 = some (.iload 4, 2, 0, 0, 0, 0) := by decide +kernel
theorem c112_39 : zcod 112 39 = some (.ifCond .lt 40, 3, 79, 0, 0, 0) := by decide +kernel
theorem c112_42 : zcod 112 42 = some (.aload_n 0, 1, 0, 0, 0, 0) := by decide +kernel
theorem c112_43 : zcod 112 43 = some (.getfield 7, 3, 9, 0, 796, 0) := by decide +kernel
theorem c112_46 : zcod 112 46 = some (.aload_n 0, 1, 0, 0, 0, 0) := by decide +kernel
theorem c112_47 : zcod 112 47 = some (.getfield 96, 3, 9, 1, 797, 0) := by decide +kernel
theorem c112_50 : zcod 112 50 = some (.lload_n 2, 1, 0, 0, 0, 0) := by decide +kernel
theorem c112_51 : zcod 112 51 = some (.bipush 8, 2, 0, 0, 0, 0) := by decide +kernel
theorem c112_53 : zcod 112 53 = some (.iload 4, 2, 0, 0, 0, 0) := by decide +kernel
theorem c112_55 : zcod 112 55 = some (.imul, 1, 0, 0, 0, 0) := by decide +kernel
theorem c112_56 : zcod 112 56 = some (.lshr, 1, 0, 0, 0, 0) := by decide +kernel
theorem c112_57 : zcod 112 57 = some (.ldc2_w 99, 3, 0, 0, 928, 255) := by decide +kernel
theorem c112_60 : zcod 112 60 = some (.land, 1, 0, 0, 0, 0) := by decide +kernel
theorem c112_61 : zcod 112 61 = some (.l2i, 1, 0, 0, 0, 0) := by decide +kernel
theorem c112_62 : zcod 112 62 = some (.iastore, 1, 0, 0, 0, 0) := by decide +kernel
theorem c112_63 : zcod 112 63 = some (.aload_n 0, 1, 0, 0, 0, 0) := by decide +kernel
theorem c112_64 : zcod 112 64 = some (.dup, 1, 0, 0, 0, 0) := by decide +kernel
theorem c112_65 : zcod 112 65 = some (.getfield 96, 3, 9, 1, 797, 0) := by decide +kernel
theorem c112_68 : zcod 112 68 = some (.iconst 1, 1, 0, 0, 0, 0) := by decide +kernel
theorem c112_69 : zcod 112 69 = some (.iadd, 1, 0, 0, 0, 0) := by decide +kernel
theorem c112_70 : zcod 112 70 = some (.putfield 96, 3, 9, 1, 797, 0) := by decide +kernel
theorem c112_73 : zcod 112 73 = some (.iinc 4 (-1), 3, 0, 0, 0, 0) := by decide +kernel
theorem c112_76 : zcod 112 76 = some (.goto (-39), 3, 37, 0, 0, 0) := by decide +kernel
theorem c112_79 : zcod 112 79 = some (.aload_n 0, 1, 0, 0, 0, 0) := by decide +kernel
theorem c112_80 : zcod 112 80 = some (.getfield 96, 3, 9, 1, 797, 0) := by decide +kernel
theorem c112_83 : zcod 112 83 = some (.ireturn, 1, 0, 0, 0, 0) := by decide +kernel
set_option maxRecDepth 100000 in
theorem b112_0 (l0 : Option Nat) (l1 : Int32) (l2 : Int64) (h : zH) : zev 112 0 [some (vR l0), some (vI l1), some (vL l2), none, none] [] h = (zcI 113 [vL (Int32.toInt64 l1), vL 1, vL 8] h fun x2 h1 => (if x2 = 0 then some (some (vI (-1002)), h1) else (zgI h1 l0 9 1 fun x3 => (if 200 < (x3 + l1) then some (some (vI (-1004)), h1) else zev 112 37 [some (vR l0), some (vI l1), some (vL l2), none, some (vI (l1 - 1))] [] h1)))) := by
  refine (zv_in c112_0 rfl).trans ?_
  refine (zv_i2l c112_1).trans ?_
  refine (zv_lc (v := 1) c112_2 (by decide)).trans ?_
  refine (zv_ld2 (v := 8) c112_3 (by decide)).trans ?_
  refine (zv_stI c112_6 (by decide) rfl zL_113 (Or.inr zrt_113) rfl rfl).trans (zcI_c fun x2 h1 => ?_)
  refine (zv_ifne c112_9).trans (zif_c ?_ ?_)
  · refine (zv_si (v := -1002) c112_12 (by decide)).trans ?_
    exact zv_ir c112_15 zrt_112
  · refine (zv_an c112_16 rfl).trans ?_
    refine (zv_gI c112_17 zg9_1).trans (zgI_c fun x3 => ?_)
    refine (zv_in c112_20 rfl).trans ?_
    refine (zv_iadd c112_21).trans ?_
    refine (zv_si (v := 200) c112_22 (by decide)).trans ?_
    refine (zv_icle c112_25).trans (zif_c ?_ ?_)
    · refine (zv_si (v := -1004) c112_28 (by decide)).trans ?_
      exact zv_ir c112_31 zrt_112
    · refine (zv_in c112_32 rfl).trans ?_
      refine (zv_k (v := 1) c112_33 (by decide)).trans ?_
      refine (zv_isub c112_34).trans ?_
      refine (zv_is c112_35 rfl).trans ?_
      rfl
theorem e112 (l0 : Option Nat) (l1 : Int32) (l2 : Int64) (h : zH) : zcall 112 [vR l0, vI l1, vL l2] h = (zcI 113 [vL (Int32.toInt64 l1), vL 1, vL 8] h fun x2 h1 => (if x2 = 0 then some (some (vI (-1002)), h1) else (zgI h1 l0 9 1 fun x3 => (if 200 < (x3 + l1) then some (some (vI (-1004)), h1) else zev 112 37 [some (vR l0), some (vI l1), some (vL l2), none, some (vI (l1 - 1))] [] h1)))) := by
  refine Eq.trans ?_ (b112_0 l0 l1 l2 h)
  unfold zcall zent
  rw [zL_112]
  rfl
set_option maxRecDepth 100000 in
theorem b112_37 (l0 : Option Nat) (l1 : Int32) (l2 : Int64) (l4 : Int32) (h : zH) : zev 112 37 [some (vR l0), some (vI l1), some (vL l2), none, some (vI l4)] [] h = (if l4 < 0 then (zgI h l0 9 1 fun x1 => some (some (vI x1), h)) else (zgR h l0 9 0 fun x2 => (zgI h l0 9 1 fun x3 => (ztI h x2 x3 (Int64.toInt32 ((l2 >>> (Int32.toInt64 (8 * l4) &&& 63)) &&& 255)) fun h4 => (zgI h4 l0 9 1 fun x5 => (zpI h4 l0 9 1 (x5 + 1) fun h6 => zev 112 37 [some (vR l0), some (vI l1), some (vL l2), none, some (vI (l4 + (-1)))] [] h6)))))) := by
  refine (zv_il c112_37 rfl).trans ?_
  refine (zv_iflt c112_39).trans (zif_c ?_ ?_)
  · refine (zv_an c112_79 rfl).trans ?_
    refine (zv_gI c112_80 zg9_1).trans (zgI_c fun x1 => ?_)
    exact zv_ir c112_83 zrt_112
  · refine (zv_an c112_42 rfl).trans ?_
    refine (zv_gR c112_43 zf9_0).trans (zgR_c fun x2 => ?_)
    refine (zv_an c112_46 rfl).trans ?_
    refine (zv_gI c112_47 zg9_1).trans (zgI_c fun x3 => ?_)
    refine (zv_ln c112_50 rfl).trans ?_
    refine (zv_bi (v := 8) c112_51 (by decide)).trans ?_
    refine (zv_il c112_53 rfl).trans ?_
    refine (zv_imul c112_55).trans ?_
    refine (zv_lshr c112_56).trans ?_
    refine (zv_ld2 (v := 255) c112_57 (by decide)).trans ?_
    refine (zv_land c112_60).trans ?_
    refine (zv_l2i c112_61).trans ?_
    refine (zv_tI c112_62).trans (ztI_c fun h4 => ?_)
    refine (zv_an c112_63 rfl).trans ?_
    refine (zv_dup c112_64 rfl).trans ?_
    refine (zv_gI c112_65 zg9_1).trans (zgI_c fun x5 => ?_)
    refine (zv_k (v := 1) c112_68 (by decide)).trans ?_
    refine (zv_iadd c112_69).trans ?_
    refine (zv_pI c112_70 zf9_1).trans (zpI_c fun h6 => ?_)
    refine (zv_inc (y := -1) c112_73 rfl (by decide) rfl).trans ?_
    refine (zv_goto c112_76).trans ?_
    rfl
theorem c113_0 : zcod 113 0 = some (.lload_n 0, 1, 0, 0, 0, 0) := by decide +kernel
theorem c113_1 : zcod 113 1 = some (.lload_n 2, 1, 0, 0, 0, 0) := by decide +kernel
theorem c113_2 : zcod 113 2 = some (.lcmp, 1, 0, 0, 0, 0) := by decide +kernel
theorem c113_3 : zcod 113 3 = some (.ifCond .lt 14, 3, 17, 0, 0, 0) := by decide +kernel
theorem c113_6 : zcod 113 6 = some (.lload_n 0, 1, 0, 0, 0, 0) := by decide +kernel
theorem c113_7 : zcod 113 7 = some (.lload 4, 2, 0, 0, 0, 0) := by decide +kernel
theorem c113_9 : zcod 113 9 = some (.lcmp, 1, 0, 0, 0, 0) := by decide +kernel
theorem c113_10 : zcod 113 10 = some (.ifCond .gt 7, 3, 17, 0, 0, 0) := by decide +kernel
theorem c113_13 : zcod 113 13 = some (.iconst 1, 1, 0, 0, 0, 0) := by decide +kernel
theorem c113_14 : zcod 113 14 = some (.goto 4, 3, 18, 0, 0, 0) := by decide +kernel
theorem c113_17 : zcod 113 17 = some (.iconst 0, 1, 0, 0, 0, 0) := by decide +kernel
theorem c113_18 : zcod 113 18 = some (.ireturn, 1, 0, 0, 0, 0) := by decide +kernel
set_option maxRecDepth 100000 in
theorem b113_0 (l0 : Int64) (l2 : Int64) (l4 : Int64) (h : zH) : zev 113 0 [some (vL l0), none, some (vL l2), none, some (vL l4), none] [] h = (if (lg_cmp l0 l2) < 0 then zbo 0 (some (some (vI 0), h)) else (if 0 < (lg_cmp l0 l4) then zbo 0 (some (some (vI 0), h)) else zbo 1 (some (some (vI 1), h)))) := by
  refine (zv_ln c113_0 rfl).trans ?_
  refine (zv_ln c113_1 rfl).trans ?_
  refine (zv_lcmp c113_2).trans ?_
  refine (zv_iflt c113_3).trans (zif_c ?_ ?_)
  · refine (zv_k (v := 0) c113_17 (by decide)).trans ?_
    exact zv_iz c113_18 zrt_113
  · refine (zv_ln c113_6 rfl).trans ?_
    refine (zv_ll c113_7 rfl).trans ?_
    refine (zv_lcmp c113_9).trans ?_
    refine (zv_ifgt c113_10).trans (zif_c ?_ ?_)
    · refine (zv_k (v := 0) c113_17 (by decide)).trans ?_
      exact zv_iz c113_18 zrt_113
    · refine (zv_k (v := 1) c113_13 (by decide)).trans ?_
      refine (zv_goto c113_14).trans ?_
      exact zv_iz c113_18 zrt_113
theorem e113 (l0 : Int64) (l2 : Int64) (l4 : Int64) (h : zH) : zcall 113 [vL l0, vL l2, vL l4] h = (if (lg_cmp l0 l2) < 0 then zbo 0 (some (some (vI 0), h)) else (if 0 < (lg_cmp l0 l4) then zbo 0 (some (some (vI 0), h)) else zbo 1 (some (some (vI 1), h)))) := by
  refine Eq.trans ?_ (b113_0 l0 l2 l4 h)
  unfold zcall zent
  rw [zL_113]
  rfl
theorem c114_0 : zcod 114 0 = some (.aload_n 0, 1, 0, 0, 0, 0) := by decide +kernel
theorem c114_1 : zcod 114 1 = some (.iconst (-1), 1, 0, 0, 0, 0) := by decide +kernel
theorem c114_2 : zcod 114 2 = some (.putfield 13, 3, 9, 2, 798, 0) := by decide +kernel
theorem c114_5 : zcod 114 5 = some (.aload_n 0, 1, 0, 0, 0, 0) := by decide +kernel
theorem c114_6 : zcod 114 6 = some (.invokevirtual 152, 3, 115, 0, 933, 0) := by decide +kernel
theorem c114_9 : zcod 114 9 = some (.istore_n 1, 1, 0, 0, 0, 0) := by decide +kernel
theorem c114_10 : zcod 114 10 = some (.aload_n 0, 1, 0, 0, 0, 0) := by decide +kernel
theorem c114_11 : zcod 114 11 = some (.iconst 0, 1, 0, 0, 0, 0) := by decide +kernel
theorem c114_12 : zcod 114 12 = some (.putfield 96, 3, 9, 1, 797, 0) := by decide +kernel
theorem c114_15 : zcod 114 15 = some (.iload_n 1, 1, 0, 0, 0, 0) := by decide +kernel
theorem c114_16 : zcod 114 16 = some (.ifCond .le 8, 3, 24, 0, 0, 0) := by decide +kernel
theorem c114_19 : zcod 114 19 = some (.bipush (-10), 2, 0, 0, 0, 0) := by decide +kernel
theorem c114_21 : zcod 114 21 = some (.iload_n 1, 1, 0, 0, 0, 0) := by decide +kernel
theorem c114_22 : zcod 114 22 = some (.isub, 1, 0, 0, 0, 0) := by decide +kernel
theorem c114_23 : zcod 114 23 = some (.ireturn, 1, 0, 0, 0, 0) := by decide +kernel
theorem c114_24 : zcod 114 24 = some (.iconst 0, 1, 0, 0, 0, 0) := by decide +kernel
theorem c114_25 : zcod 114 25 = some (.istore_n 2, 1, 0, 0, 0, 0) := by decide +kernel
theorem c114_26 : zcod 114 26 = some (.iload_n 2, 1, 0, 0, 0, 0) := by decide +kernel
theorem c114_27 : zcod 114 27 = some (.sipush 320, 3, 0, 0, 0, 0) := by decide +kernel
theorem c114_30 : zcod 114 30 = some (.if_icmp .ge 21, 3, 51, 0, 0, 0) := by decide +kernel
theorem c114_33 : zcod 114 33 = some (.aload_n 0, 1, 0, 0, 0, 0) := by decide +kernel
theorem c114_34 : zcod 114 34 = some (.getfield 17, 3, 9, 3, 799, 0) := by decide +kernel
theorem c114_37 : zcod 114 37 = some (.iload_n 2, 1, 0, 0, 0, 0) := by decide +kernel
theorem c114_38 : zcod 114 38 = some (.aload_n 0, 1, 0, 0, 0, 0) := by decide +kernel
theorem c114_39 : zcod 114 39 = some (.getfield 20, 3, 9, 4, 800, 0) := by decide +kernel
theorem c114_42 : zcod 114 42 = some (.iload_n 2, 1, 0, 0, 0, 0) := by decide +kernel
theorem c114_43 : zcod 114 43 = some (.iaload, 1, 0, 0, 0, 0) := by decide +kernel
theorem c114_44 : zcod 114 44 = some (.iastore, 1, 0, 0, 0, 0) := by decide +kernel
theorem c114_45 : zcod 114 45 = some (.iinc 2 1, 3, 0, 0, 0, 0) := by decide +kernel
theorem c114_48 : zcod 114 48 = some (.goto (-22), 3, 26, 0, 0, 0) := by decide +kernel
theorem c114_51 : zcod 114 51 = some (.aload_n 0, 1, 0, 0, 0, 0) := by decide +kernel
theorem c114_52 : zcod 114 52 = some (.getfield 142, 3, 9, 5, 801, 0) := by decide +kernel
theorem c114_55 : zcod 114 55 = some (.istore_n 2, 1, 0, 0, 0, 0) := by decide +kernel
theorem c114_56 : zcod 114 56 = some (.iload_n 2, 1, 0, 0, 0, 0) := by decide +kernel
theorem c114_57 : zcod 114 57 = some (.aload_n 0, 1, 0, 0, 0, 0) := by decide +kernel
theorem c114_58 : zcod 114 58 = some (.getfield 121, 3, 9, 36, 832, 0) := by decide +kernel
theorem c114_61 : zcod 114 61 = some (.if_icmp .ge 77, 3, 138, 0, 0, 0) := by decide +kernel
theorem c114_64 : zcod 114 64 = some (.aload_n 0, 1, 0, 0, 0, 0) := by decide +kernel
theorem c114_65 : zcod 114 65 = some (.getfield 23, 3, 9, 6, 802, 0) := by decide +kernel
theorem c114_68 : zcod 114 68 = some (.iload_n 2, 1, 0, 0, 0, 0) := by decide +kernel
theorem c114_69 : zcod 114 69 = some (.iconst 2, 1, 0, 0, 0, 0) := by decide +kernel
theorem c114_70 : zcod 114 70 = some (.aload_n 0, 1, 0, 0, 0, 0) := by decide +kernel
theorem c114_71 : zcod 114 71 = some (.getfield 84, 3, 9, 39, 835, 0) := by decide +kernel
theorem c114_74 : zcod 114 74 = some (.iload_n 2, 1, 0, 0, 0, 0) := by decide +kernel
theorem c114_75 : zcod 114 75 = some (.iaload, 1, 0, 0, 0, 0) := by decide +kernel
theorem c114_76 : zcod 114 76 = some (.imul, 1, 0, 0, 0, 0) := by decide +kernel
theorem c114_77 : zcod 114 77 = some (.iastore, 1, 0, 0, 0, 0) := by decide +kernel
theorem c114_78 : zcod 114 78 = some (.aload_n 0, 1, 0, 0, 0, 0) := by decide +kernel
theorem c114_79 : zcod 114 79 = some (.getfield 29, 3, 9, 8, 804, 0) := by decide +kernel
theorem c114_82 : zcod 114 82 = some (.iload_n 2, 1, 0, 0, 0, 0) := by decide +kernel
theorem c114_83 : zcod 114 83 = some (.aload_n 0, 1, 0, 0, 0, 0) := by decide +kernel
theorem c114_84 : zcod 114 84 = some (.getfield 87, 3, 9, 40, 836, 0) := by decide +kernel
theorem c114_87 : zcod 114 87 = some (.iload_n 2, 1, 0, 0, 0, 0) := by decide +kernel
theorem c114_88 : zcod 114 88 = some (.baload, 1, 0, 0, 0, 0) := by decide +kernel
theorem c114_89 : zcod 114 89 = some (.bastore, 1, 0, 0, 0, 0) := by decide +kernel
theorem c114_90 : zcod 114 90 = some (.aload_n 0, 1, 0, 0, 0, 0) := by decide +kernel
theorem c114_91 : zcod 114 91 = some (.getfield 26, 3, 9, 7, 803, 0) := by decide +kernel
theorem c114_94 : zcod 114 94 = some (.iload_n 2, 1, 0, 0, 0, 0) := by decide +kernel
theorem c114_95 : zcod 114 95 = some (.iconst (-1), 1, 0, 0, 0, 0) := by decide +kernel
theorem c114_96 : zcod 114 96 = some (.iastore, 1, 0, 0, 0, 0) := by decide +kernel
theorem c114_97 : zcod 114 97 = some (.aload_n 0, 1, 0, 0, 0, 0) := by decide +kernel
theorem c114_98 : zcod 114 98 = some (.getfield 39, 3, 9, 11, 807, 0) := by decide +kernel
theorem c114_101 : zcod 114 101 = some (.iload_n 2, 1, 0, 0, 0, 0) := by decide +kernel
theorem c114_102 : zcod 114 102 = some (.iconst 0, 1, 0, 0, 0, 0) := by decide +kernel
theorem c114_103 : zcod 114 103 = some (.iastore, 1, 0, 0, 0, 0) := by decide +kernel
theorem c114_104 : zcod 114 104 = some (.aload_n 0, 1, 0, 0, 0, 0) := by decide +kernel
theorem c114_105 : zcod 114 105 = some (.getfield 45, 3, 9, 13, 809, 0) := by decide +kernel
theorem c114_108 : zcod 114 108 = some (.iload_n 2, 1, 0, 0, 0, 0) := by decide +kernel
theorem c114_109 : zcod 114 109 = some (.iconst 0, 1, 0, 0, 0, 0) := by decide +kernel
theorem c114_110 : zcod 114 110 = some (.iastore, 1, 0, 0, 0, 0) := by decide +kernel
theorem c114_111 : zcod 114 111 = some (.aload_n 0, 1, 0, 0, 0, 0) := by decide +kernel
theorem c114_112 : zcod 114 112 = some (.getfield 48, 3, 9, 14, 810, 0) := by decide +kernel
theorem c114_115 : zcod 114 115 = some (.iload_n 2, 1, 0, 0, 0, 0) := by decide +kernel
theorem c114_116 : zcod 114 116 = some (.iconst (-1), 1, 0, 0, 0, 0) := by decide +kernel
theorem c114_117 : zcod 114 117 = some (.iastore, 1, 0, 0, 0, 0) := by decide +kernel
theorem c114_118 : zcod 114 118 = some (.aload_n 0, 1, 0, 0, 0, 0) := by decide +kernel
theorem c114_119 : zcod 114 119 = some (.getfield 51, 3, 9, 15, 811, 0) := by decide +kernel
theorem c114_122 : zcod 114 122 = some (.iload_n 2, 1, 0, 0, 0, 0) := by decide +kernel
theorem c114_123 : zcod 114 123 = some (.iconst (-1), 1, 0, 0, 0, 0) := by decide +kernel
theorem c114_124 : zcod 114 124 = some (.iastore, 1, 0, 0, 0, 0) := by decide +kernel
theorem c114_125 : zcod 114 125 = some (.aload_n 0, 1, 0, 0, 0, 0) := by decide +kernel
theorem c114_126 : zcod 114 126 = some (.getfield 63, 3, 9, 21, 817, 0) := by decide +kernel
theorem c114_129 : zcod 114 129 = some (.iload_n 2, 1, 0, 0, 0, 0) := by decide +kernel
theorem c114_130 : zcod 114 130 = some (.iconst 0, 1, 0, 0, 0, 0) := by decide +kernel
theorem c114_131 : zcod 114 131 = some (.iastore, 1, 0, 0, 0, 0) := by decide +kernel
theorem c114_132 : zcod 114 132 = some (.iinc 2 1, 3, 0, 0, 0, 0) := by decide +kernel
theorem c114_135 : zcod 114 135 = some (.goto (-79), 3, 56, 0, 0, 0) := by decide +kernel
theorem c114_138 : zcod 114 138 = some (.aload_n 0, 1, 0, 0, 0, 0) := by decide +kernel
theorem c114_139 : zcod 114 139 = some (.getfield 145, 3, 9, 16, 812, 0) := by decide +kernel
theorem c114_142 : zcod 114 142 = some (.istore_n 2, 1, 0, 0, 0, 0) := by decide +kernel
theorem c114_143 : zcod 114 143 = some (.iload_n 2, 1, 0, 0, 0, 0) := by decide +kernel
theorem c114_144 : zcod 114 144 = some (.aload_n 0, 1, 0, 0, 0, 0) := by decide +kernel
theorem c114_145 : zcod 114 145 = some (.getfield 128, 3, 9, 37, 833, 0) := by decide +kernel
theorem c114_148 : zcod 114 148 = some (.if_icmp .ge 16, 3, 164, 0, 0, 0) := by decide +kernel
theorem c114_151 : zcod 114 151 = some (.aload_n 0, 1, 0, 0, 0, 0) := by decide +kernel
theorem c114_152 : zcod 114 152 = some (.getfield 54, 3, 9, 17, 813, 0) := by decide +kernel
theorem c114_155 : zcod 114 155 = some (.iload_n 2, 1, 0, 0, 0, 0) := by decide +kernel
theorem c114_156 : zcod 114 156 = some (.iconst 0, 1, 0, 0, 0, 0) := by decide +kernel
theorem c114_157 : zcod 114 157 = some (.bastore, 1, 0, 0, 0, 0) := by decide +kernel
theorem c114_158 : zcod 114 158 = some (.iinc 2 1, 3, 0, 0, 0, 0) := by decide +kernel
theorem c114_161 : zcod 114 161 = some (.goto (-18), 3, 143, 0, 0, 0) := by decide +kernel
theorem c114_164 : zcod 114 164 = some (.aload_n 0, 1, 0, 0, 0, 0) := by decide +kernel
theorem c114_165 : zcod 114 165 = some (.aload_n 0, 1, 0, 0, 0, 0) := by decide +kernel
theorem c114_166 : zcod 114 166 = some (.getfield 121, 3, 9, 36, 832, 0) := by decide +kernel
theorem c114_169 : zcod 114 169 = some (.putfield 142, 3, 9, 5, 801, 0) := by decide +kernel
theorem c114_172 : zcod 114 172 = some (.aload_n 0, 1, 0, 0, 0, 0) := by decide +kernel
theorem c114_173 : zcod 114 173 = some (.aload_n 0, 1, 0, 0, 0, 0) := by decide +kernel
theorem c114_174 : zcod 114 174 = some (.getfield 128, 3, 9, 37, 833, 0) := by decide +kernel
theorem c114_177 : zcod 114 177 = some (.putfield 145, 3, 9, 16, 812, 0) := by decide +kernel
theorem c114_180 : zcod 114 180 = some (.aload_n 0, 1, 0, 0, 0, 0) := by decide +kernel
theorem c114_181 : zcod 114 181 = some (.getfield 142, 3, 9, 5, 801, 0) := by decide +kernel
theorem c114_184 : zcod 114 184 = some (.ireturn, 1, 0, 0, 0, 0) := by decide +kernel
set_option maxRecDepth 100000 in
theorem b114_0 (l0 : Option Nat) (h : zH) : zev 114 0 [some (vR l0), none, none] [] h = (zpI h l0 9 2 (-1) fun h1 => (zvr h1 l0 9 (zcI 115 [vR l0] h1 fun x3 h2 => (zpI h2 l0 9 1 0 fun h4 => (if 0 < x3 then some (some (vI ((-10) - x3)), h4) else zev 114 26 [some (vR l0), some (vI x3), some (vI 0)] [] h4))))) := by
  refine (zv_an c114_0 rfl).trans ?_
  refine (zv_k (v := -1) c114_1 (by decide)).trans ?_
  refine (zv_pI c114_2 zf9_2).trans (zpI_c fun h1 => ?_)
  refine (zv_an c114_5 rfl).trans ?_
  refine (zv_viI c114_6 zcn_115 rfl zL_115 (Or.inl zrt_115) rfl rfl).trans (zvr_c (zcI_c fun x3 h2 => ?_))
  refine (zv_it c114_9 rfl).trans ?_
  refine (zv_an c114_10 rfl).trans ?_
  refine (zv_k (v := 0) c114_11 (by decide)).trans ?_
  refine (zv_pI c114_12 zf9_1).trans (zpI_c fun h4 => ?_)
  refine (zv_in c114_15 rfl).trans ?_
  refine (zv_ifle c114_16).trans (zif_c ?_ ?_)
  · refine (zv_bi (v := -10) c114_19 (by decide)).trans ?_
    refine (zv_in c114_21 rfl).trans ?_
    refine (zv_isub c114_22).trans ?_
    exact zv_ir c114_23 zrt_114
  · refine (zv_k (v := 0) c114_24 (by decide)).trans ?_
    refine (zv_it c114_25 rfl).trans ?_
    rfl
theorem e114 (l0 : Option Nat) (h : zH) : zcall 114 [vR l0] h = (zpI h l0 9 2 (-1) fun h1 => (zvr h1 l0 9 (zcI 115 [vR l0] h1 fun x3 h2 => (zpI h2 l0 9 1 0 fun h4 => (if 0 < x3 then some (some (vI ((-10) - x3)), h4) else zev 114 26 [some (vR l0), some (vI x3), some (vI 0)] [] h4))))) := by
  refine Eq.trans ?_ (b114_0 l0 h)
  unfold zcall zent
  rw [zL_114]
  rfl
set_option maxRecDepth 100000 in
theorem b114_26 (l0 : Option Nat) (l1 : Int32) (l2 : Int32) (h : zH) : zev 114 26 [some (vR l0), some (vI l1), some (vI l2)] [] h = (if l2 < 320 then (zgR h l0 9 3 fun x1 => (zgR h l0 9 4 fun x2 => (zaI h x2 l2 fun x3 => (ztI h x1 l2 x3 fun h4 => zev 114 26 [some (vR l0), some (vI l1), some (vI (l2 + 1))] [] h4)))) else (zgI h l0 9 5 fun x5 => zev 114 56 [some (vR l0), some (vI l1), some (vI x5)] [] h)) := by
  refine (zv_in c114_26 rfl).trans ?_
  refine (zv_si (v := 320) c114_27 (by decide)).trans ?_
  refine (zv_icge c114_30).trans (zif_c ?_ ?_)
  · refine (zv_an c114_33 rfl).trans ?_
    refine (zv_gR c114_34 zf9_3).trans (zgR_c fun x1 => ?_)
    refine (zv_in c114_37 rfl).trans ?_
    refine (zv_an c114_38 rfl).trans ?_
    refine (zv_gR c114_39 zf9_4).trans (zgR_c fun x2 => ?_)
    refine (zv_in c114_42 rfl).trans ?_
    refine (zv_aI c114_43).trans (zaI_c fun x3 => ?_)
    refine (zv_tI c114_44).trans (ztI_c fun h4 => ?_)
    refine (zv_inc (y := 1) c114_45 rfl (by decide) rfl).trans ?_
    refine (zv_goto c114_48).trans ?_
    rfl
  · refine (zv_an c114_51 rfl).trans ?_
    refine (zv_gI c114_52 zg9_5).trans (zgI_c fun x5 => ?_)
    refine (zv_it c114_55 rfl).trans ?_
    rfl
set_option maxRecDepth 100000 in
theorem b114_56 (l0 : Option Nat) (l1 : Int32) (l2 : Int32) (h : zH) : zev 114 56 [some (vR l0), some (vI l1), some (vI l2)] [] h = (zgI h l0 9 36 fun x1 => (if l2 < x1 then (zgR h l0 9 6 fun x2 => (zgR h l0 9 39 fun x3 => (zaI h x3 l2 fun x4 => (ztI h x2 l2 (2 * x4) fun h5 => (zgR h5 l0 9 8 fun x6 => (zgR h5 l0 9 40 fun x7 => (zaB h5 x7 l2 fun x8 => (ztB h5 x6 l2 x8 fun h9 => (zgR h9 l0 9 7 fun x10 => (ztI h9 x10 l2 (-1) fun h11 => (zgR h11 l0 9 11 fun x12 => (ztI h11 x12 l2 0 fun h13 => (zgR h13 l0 9 13 fun x14 => (ztI h13 x14 l2 0 fun h15 => (zgR h15 l0 9 14 fun x16 => (ztI h15 x16 l2 (-1) fun h17 => (zgR h17 l0 9 15 fun x18 => (ztI h17 x18 l2 (-1) fun h19 => (zgR h19 l0 9 21 fun x20 => (ztI h19 x20 l2 0 fun h21 => zev 114 56 [some (vR l0), some (vI l1), some (vI (l2 + 1))] [] h21)))))))))))))))))))) else (zgI h l0 9 16 fun x22 => zev 114 143 [some (vR l0), some (vI l1), some (vI x22)] [] h))) := by
  refine (zv_in c114_56 rfl).trans ?_
  refine (zv_an c114_57 rfl).trans ?_
  refine (zv_gI c114_58 zg9_36).trans (zgI_c fun x1 => ?_)
  refine (zv_icge c114_61).trans (zif_c ?_ ?_)
  · refine (zv_an c114_64 rfl).trans ?_
    refine (zv_gR c114_65 zf9_6).trans (zgR_c fun x2 => ?_)
    refine (zv_in c114_68 rfl).trans ?_
    refine (zv_k (v := 2) c114_69 (by decide)).trans ?_
    refine (zv_an c114_70 rfl).trans ?_
    refine (zv_gR c114_71 zf9_39).trans (zgR_c fun x3 => ?_)
    refine (zv_in c114_74 rfl).trans ?_
    refine (zv_aI c114_75).trans (zaI_c fun x4 => ?_)
    refine (zv_imul c114_76).trans ?_
    refine (zv_tI c114_77).trans (ztI_c fun h5 => ?_)
    refine (zv_an c114_78 rfl).trans ?_
    refine (zv_gR c114_79 zf9_8).trans (zgR_c fun x6 => ?_)
    refine (zv_in c114_82 rfl).trans ?_
    refine (zv_an c114_83 rfl).trans ?_
    refine (zv_gR c114_84 zf9_40).trans (zgR_c fun x7 => ?_)
    refine (zv_in c114_87 rfl).trans ?_
    refine (zv_aB c114_88).trans (zaB_c fun x8 => ?_)
    refine (zv_tB c114_89).trans (ztB_c fun h9 => ?_)
    refine (zv_an c114_90 rfl).trans ?_
    refine (zv_gR c114_91 zf9_7).trans (zgR_c fun x10 => ?_)
    refine (zv_in c114_94 rfl).trans ?_
    refine (zv_k (v := -1) c114_95 (by decide)).trans ?_
    refine (zv_tI c114_96).trans (ztI_c fun h11 => ?_)
    refine (zv_an c114_97 rfl).trans ?_
    refine (zv_gR c114_98 zf9_11).trans (zgR_c fun x12 => ?_)
    refine (zv_in c114_101 rfl).trans ?_
    refine (zv_k (v := 0) c114_102 (by decide)).trans ?_
    refine (zv_tI c114_103).trans (ztI_c fun h13 => ?_)
    refine (zv_an c114_104 rfl).trans ?_
    refine (zv_gR c114_105 zf9_13).trans (zgR_c fun x14 => ?_)
    refine (zv_in c114_108 rfl).trans ?_
    refine (zv_k (v := 0) c114_109 (by decide)).trans ?_
    refine (zv_tI c114_110).trans (ztI_c fun h15 => ?_)
    refine (zv_an c114_111 rfl).trans ?_
    refine (zv_gR c114_112 zf9_14).trans (zgR_c fun x16 => ?_)
    refine (zv_in c114_115 rfl).trans ?_
    refine (zv_k (v := -1) c114_116 (by decide)).trans ?_
    refine (zv_tI c114_117).trans (ztI_c fun h17 => ?_)
    refine (zv_an c114_118 rfl).trans ?_
    refine (zv_gR c114_119 zf9_15).trans (zgR_c fun x18 => ?_)
    refine (zv_in c114_122 rfl).trans ?_
    refine (zv_k (v := -1) c114_123 (by decide)).trans ?_
    refine (zv_tI c114_124).trans (ztI_c fun h19 => ?_)
    refine (zv_an c114_125 rfl).trans ?_
    refine (zv_gR c114_126 zf9_21).trans (zgR_c fun x20 => ?_)
    refine (zv_in c114_129 rfl).trans ?_
    refine (zv_k (v := 0) c114_130 (by decide)).trans ?_
    refine (zv_tI c114_131).trans (ztI_c fun h21 => ?_)
    refine (zv_inc (y := 1) c114_132 rfl (by decide) rfl).trans ?_
    refine (zv_goto c114_135).trans ?_
    rfl
  · refine (zv_an c114_138 rfl).trans ?_
    refine (zv_gI c114_139 zg9_16).trans (zgI_c fun x22 => ?_)
    refine (zv_it c114_142 rfl).trans ?_
    rfl
set_option maxRecDepth 100000 in
theorem b114_143 (l0 : Option Nat) (l1 : Int32) (l2 : Int32) (h : zH) : zev 114 143 [some (vR l0), some (vI l1), some (vI l2)] [] h = (zgI h l0 9 37 fun x1 => (if l2 < x1 then (zgR h l0 9 17 fun x2 => (ztB h x2 l2 0 fun h3 => zev 114 143 [some (vR l0), some (vI l1), some (vI (l2 + 1))] [] h3)) else (zgI h l0 9 36 fun x4 => (zpI h l0 9 5 x4 fun h5 => (zgI h5 l0 9 37 fun x6 => (zpI h5 l0 9 16 x6 fun h7 => (zgI h7 l0 9 5 fun x8 => some (some (vI x8), h7)))))))) := by
  refine (zv_in c114_143 rfl).trans ?_
  refine (zv_an c114_144 rfl).trans ?_
  refine (zv_gI c114_145 zg9_37).trans (zgI_c fun x1 => ?_)
  refine (zv_icge c114_148).trans (zif_c ?_ ?_)
  · refine (zv_an c114_151 rfl).trans ?_
    refine (zv_gR c114_152 zf9_17).trans (zgR_c fun x2 => ?_)
    refine (zv_in c114_155 rfl).trans ?_
    refine (zv_k (v := 0) c114_156 (by decide)).trans ?_
    refine (zv_tB c114_157).trans (ztB_c fun h3 => ?_)
    refine (zv_inc (y := 1) c114_158 rfl (by decide) rfl).trans ?_
    refine (zv_goto c114_161).trans ?_
    rfl
  · refine (zv_an c114_164 rfl).trans ?_
    refine (zv_an c114_165 rfl).trans ?_
    refine (zv_gI c114_166 zg9_36).trans (zgI_c fun x4 => ?_)
    refine (zv_pI c114_169 zf9_5).trans (zpI_c fun h5 => ?_)
    refine (zv_an c114_172 rfl).trans ?_
    refine (zv_an c114_173 rfl).trans ?_
    refine (zv_gI c114_174 zg9_37).trans (zgI_c fun x6 => ?_)
    refine (zv_pI c114_177 zf9_16).trans (zpI_c fun h7 => ?_)
    refine (zv_an c114_180 rfl).trans ?_
    refine (zv_gI c114_181 zg9_5).trans (zgI_c fun x8 => ?_)
    exact zv_ir c114_184 zrt_114
theorem c115_0 : zcod 115 0 = some (.aload_n 0, 1, 0, 0, 0, 0) := by decide +kernel
theorem c115_1 : zcod 115 1 = some (.iconst 0, 1, 0, 0, 0, 0) := by decide +kernel
theorem c115_2 : zcod 115 2 = some (.putfield 101, 3, 9, 35, 831, 0) := by decide +kernel
theorem c115_5 : zcod 115 5 = some (.aload_n 0, 1, 0, 0, 0, 0) := by decide +kernel
theorem c115_6 : zcod 115 6 = some (.aload_n 0, 1, 0, 0, 0, 0) := by decide +kernel
theorem c115_7 : zcod 115 7 = some (.getfield 142, 3, 9, 5, 801, 0) := by decide +kernel
theorem c115_10 : zcod 115 10 = some (.putfield 121, 3, 9, 36, 832, 0) := by decide +kernel
theorem c115_13 : zcod 115 13 = some (.aload_n 0, 1, 0, 0, 0, 0) := by decide +kernel
theorem c115_14 : zcod 115 14 = some (.aload_n 0, 1, 0, 0, 0, 0) := by decide +kernel
theorem c115_15 : zcod 115 15 = some (.getfield 145, 3, 9, 16, 812, 0) := by decide +kernel
theorem c115_18 : zcod 115 18 = some (.putfield 128, 3, 9, 37, 833, 0) := by decide +kernel
theorem c115_21 : zcod 115 21 = some (.iconst 0, 1, 0, 0, 0, 0) := by decide +kernel
theorem c115_22 : zcod 115 22 = some (.istore_n 1, 1, 0, 0, 0, 0) := by decide +kernel
theorem c115_23 : zcod 115 23 = some (.iload_n 1, 1, 0, 0, 0, 0) := by decide +kernel
theorem c115_24 : zcod 115 24 = some (.sipush 320, 3, 0, 0, 0, 0) := by decide +kernel
theorem c115_27 : zcod 115 27 = some (.if_icmp .ge 21, 3, 48, 0, 0, 0) := by decide +kernel
theorem c115_30 : zcod 115 30 = some (.aload_n 0, 1, 0, 0, 0, 0) := by decide +kernel
theorem c115_31 : zcod 115 31 = some (.getfield 20, 3, 9, 4, 800, 0) := by decide +kernel
theorem c115_34 : zcod 115 34 = some (.iload_n 1, 1, 0, 0, 0, 0) := by decide +kernel
theorem c115_35 : zcod 115 35 = some (.aload_n 0, 1, 0, 0, 0, 0) := by decide +kernel
theorem c115_36 : zcod 115 36 = some (.getfield 17, 3, 9, 3, 799, 0) := by decide +kernel
theorem c115_39 : zcod 115 39 = some (.iload_n 1, 1, 0, 0, 0, 0) := by decide +kernel
theorem c115_40 : zcod 115 40 = some (.iaload, 1, 0, 0, 0, 0) := by decide +kernel
theorem c115_41 : zcod 115 41 = some (.iastore, 1, 0, 0, 0, 0) := by decide +kernel
theorem c115_42 : zcod 115 42 = some (.iinc 1 1, 3, 0, 0, 0, 0) := by decide +kernel
theorem c115_45 : zcod 115 45 = some (.goto (-22), 3, 23, 0, 0, 0) := by decide +kernel
theorem c115_48 : zcod 115 48 = some (.aload_n 0, 1, 0, 0, 0, 0) := by decide +kernel
theorem c115_49 : zcod 115 49 = some (.invokevirtual 104, 3, 116, 0, 937, 0) := by decide +kernel
theorem c115_52 : zcod 115 52 = some (.aload_n 0, 1, 0, 0, 0, 0) := by decide +kernel
theorem c115_53 : zcod 115 53 = some (.getfield 101, 3, 9, 35, 831, 0) := by decide +kernel
theorem c115_56 : zcod 115 56 = some (.aload_n 0, 1, 0, 0, 0, 0) := by decide +kernel
theorem c115_57 : zcod 115 57 = some (.getfield 96, 3, 9, 1, 797, 0) := by decide +kernel
theorem c115_60 : zcod 115 60 = some (.if_icmp .ge 21, 3, 81, 0, 0, 0) := by decide +kernel
theorem c115_63 : zcod 115 63 = some (.aload_n 0, 1, 0, 0, 0, 0) := by decide +kernel
theorem c115_64 : zcod 115 64 = some (.invokevirtual 148, 3, 117, 0, 941, 0) := by decide +kernel
theorem c115_67 : zcod 115 67 = some (.istore_n 1, 1, 0, 0, 0, 0) := by decide +kernel
theorem c115_68 : zcod 115 68 = some (.iload_n 1, 1, 0, 0, 0, 0) := by decide +kernel
theorem c115_69 : zcod 115 69 = some (.ifCond .le 5, 3, 74, 0, 0, 0) := by decide +kernel
theorem c115_72 : zcod 115 72 = some (.iload_n 1, 1, 0, 0, 0, 0) := by decide +kernel
theorem c115_73 : zcod 115 73 = some (.ireturn, 1, 0, 0, 0, 0) := by decide +kernel
theorem c115_74 : zcod 115 74 = some (.aload_n 0, 1, 0, 0, 0, 0) := by decide +kernel
theorem c115_75 : zcod 115 75 = some (.invokevirtual 104, 3, 116, 0, 937, 0) := by decide +kernel
theorem c115_78 : zcod 115 78 = some (.goto (-26), 3, 52, 0, 0, 0) := by decide +kernel
theorem c115_81 : zcod 115 81 = some (.iconst 0, 1, 0, 0, 0, 0) := by decide +kernel
theorem c115_82 : zcod 115 82 = some (.ireturn, 1, 0, 0, 0, 0) := by decide +kernel
set_option maxRecDepth 100000 in
theorem b115_0 (l0 : Option Nat) (h : zH) : zev 115 0 [some (vR l0), none] [] h = (zpI h l0 9 35 0 fun h1 => (zgI h1 l0 9 5 fun x2 => (zpI h1 l0 9 36 x2 fun h3 => (zgI h3 l0 9 16 fun x4 => (zpI h3 l0 9 37 x4 fun h5 => zev 115 23 [some (vR l0), some (vI 0)] [] h5))))) := by
  refine (zv_an c115_0 rfl).trans ?_
  refine (zv_k (v := 0) c115_1 (by decide)).trans ?_
  refine (zv_pI c115_2 zf9_35).trans (zpI_c fun h1 => ?_)
  refine (zv_an c115_5 rfl).trans ?_
  refine (zv_an c115_6 rfl).trans ?_
  refine (zv_gI c115_7 zg9_5).trans (zgI_c fun x2 => ?_)
  refine (zv_pI c115_10 zf9_36).trans (zpI_c fun h3 => ?_)
  refine (zv_an c115_13 rfl).trans ?_
  refine (zv_an c115_14 rfl).trans ?_
  refine (zv_gI c115_15 zg9_16).trans (zgI_c fun x4 => ?_)
  refine (zv_pI c115_18 zf9_37).trans (zpI_c fun h5 => ?_)
  refine (zv_k (v := 0) c115_21 (by decide)).trans ?_
  refine (zv_it c115_22 rfl).trans ?_
  rfl
theorem e115 (l0 : Option Nat) (h : zH) : zcall 115 [vR l0] h = (zpI h l0 9 35 0 fun h1 => (zgI h1 l0 9 5 fun x2 => (zpI h1 l0 9 36 x2 fun h3 => (zgI h3 l0 9 16 fun x4 => (zpI h3 l0 9 37 x4 fun h5 => zev 115 23 [some (vR l0), some (vI 0)] [] h5))))) := by
  refine Eq.trans ?_ (b115_0 l0 h)
  unfold zcall zent
  rw [zL_115]
  rfl
set_option maxRecDepth 100000 in
theorem b115_23 (l0 : Option Nat) (l1 : Int32) (h : zH) : zev 115 23 [some (vR l0), some (vI l1)] [] h = (if l1 < 320 then (zgR h l0 9 4 fun x1 => (zgR h l0 9 3 fun x2 => (zaI h x2 l1 fun x3 => (ztI h x1 l1 x3 fun h4 => zev 115 23 [some (vR l0), some (vI (l1 + 1))] [] h4)))) else (zvr h l0 9 (zcV 116 [vR l0] h fun h5 => zev 115 52 [some (vR l0), some (vI l1)] [] h5))) := by
  refine (zv_in c115_23 rfl).trans ?_
  refine (zv_si (v := 320) c115_24 (by decide)).trans ?_
  refine (zv_icge c115_27).trans (zif_c ?_ ?_)
  · refine (zv_an c115_30 rfl).trans ?_
    refine (zv_gR c115_31 zf9_4).trans (zgR_c fun x1 => ?_)
    refine (zv_in c115_34 rfl).trans ?_
    refine (zv_an c115_35 rfl).trans ?_
    refine (zv_gR c115_36 zf9_3).trans (zgR_c fun x2 => ?_)
    refine (zv_in c115_39 rfl).trans ?_
    refine (zv_aI c115_40).trans (zaI_c fun x3 => ?_)
    refine (zv_tI c115_41).trans (ztI_c fun h4 => ?_)
    refine (zv_inc (y := 1) c115_42 rfl (by decide) rfl).trans ?_
    refine (zv_goto c115_45).trans ?_
    rfl
  · refine (zv_an c115_48 rfl).trans ?_
    refine (zv_viV c115_49 zcn_116 rfl zL_116 zrt_116 rfl rfl).trans (zvr_c (zcV_c fun h5 => ?_))
    rfl
set_option maxRecDepth 100000 in
theorem b115_52 (l0 : Option Nat) (l1 : Int32) (h : zH) : zev 115 52 [some (vR l0), some (vI l1)] [] h = (zgI h l0 9 35 fun x1 => (zgI h l0 9 1 fun x2 => (if x1 < x2 then (zvr h l0 9 (zcI 117 [vR l0] h fun x4 h3 => (if 0 < x4 then some (some (vI x4), h3) else (zvr h3 l0 9 (zcV 116 [vR l0] h3 fun h5 => zev 115 52 [some (vR l0), some (vI x4)] [] h5))))) else some (some (vI 0), h)))) := by
  refine (zv_an c115_52 rfl).trans ?_
  refine (zv_gI c115_53 zg9_35).trans (zgI_c fun x1 => ?_)
  refine (zv_an c115_56 rfl).trans ?_
  refine (zv_gI c115_57 zg9_1).trans (zgI_c fun x2 => ?_)
  refine (zv_icge c115_60).trans (zif_c ?_ ?_)
  · refine (zv_an c115_63 rfl).trans ?_
    refine (zv_viI c115_64 zcn_117 rfl zL_117 (Or.inl zrt_117) rfl rfl).trans (zvr_c (zcI_c fun x4 h3 => ?_))
    refine (zv_it c115_67 rfl).trans ?_
    refine (zv_in c115_68 rfl).trans ?_
    refine (zv_ifle c115_69).trans (zif_c ?_ ?_)
    · refine (zv_in c115_72 rfl).trans ?_
      exact zv_ir c115_73 zrt_115
    · refine (zv_an c115_74 rfl).trans ?_
      refine (zv_viV c115_75 zcn_116 rfl zL_116 zrt_116 rfl rfl).trans (zvr_c (zcV_c fun h5 => ?_))
      refine (zv_goto c115_78).trans ?_
      rfl
  · refine (zv_k (v := 0) c115_81 (by decide)).trans ?_
    exact zv_ir c115_82 zrt_115
theorem c116_0 : zcod 116 0 = some (.aload_n 0, 1, 0, 0, 0, 0) := by decide +kernel
theorem c116_1 : zcod 116 1 = some (.getfield 101, 3, 9, 35, 831, 0) := by decide +kernel
theorem c116_4 : zcod 116 4 = some (.aload_n 0, 1, 0, 0, 0, 0) := by decide +kernel
theorem c116_5 : zcod 116 5 = some (.getfield 96, 3, 9, 1, 797, 0) := by decide +kernel
theorem c116_8 : zcod 116 8 = some (.if_icmp .ge 30, 3, 38, 0, 0, 0) := by decide +kernel
theorem c116_11 : zcod 116 11 = some (.aload_n 0, 1, 0, 0, 0, 0) := by decide +kernel
theorem c116_12 : zcod 116 12 = some (.getfield 7, 3, 9, 0, 796, 0) := by decide +kernel
theorem c116_15 : zcod 116 15 = some (.aload_n 0, 1, 0, 0, 0, 0) := by decide +kernel
theorem c116_16 : zcod 116 16 = some (.getfield 101, 3, 9, 35, 831, 0) := by decide +kernel
theorem c116_19 : zcod 116 19 = some (.iaload, 1, 0, 0, 0, 0) := by decide +kernel
theorem c116_20 : zcod 116 20 = some (.bipush 32, 2, 0, 0, 0, 0) := by decide +kernel
theorem c116_22 : zcod 116 22 = some (.if_icmp .ne 16, 3, 38, 0, 0, 0) := by decide +kernel
theorem c116_25 : zcod 116 25 = some (.aload_n 0, 1, 0, 0, 0, 0) := by decide +kernel
theorem c116_26 : zcod 116 26 = some (.dup, 1, 0, 0, 0, 0) := by decide +kernel
theorem c116_27 : zcod 116 27 = some (.getfield 101, 3, 9, 35, 831, 0) := by decide +kernel
theorem c116_30 : zcod 116 30 = some (.iconst 1, 1, 0, 0, 0, 0) := by decide +kernel
theorem c116_31 : zcod 116 31 = some (.iadd, 1, 0, 0, 0, 0) := by decide +kernel
theorem c116_32 : zcod 116 32 = some (.putfield 101, 3, 9, 35, 831, 0) := by decide +kernel
theorem c116_35 : zcod 116 35 = some (.goto (-35), 3, 0, 0, 0, 0) := by decide +kernel
theorem c116_38 : zcod 116 38 = some (.return_, 1, 0, 0, 0, 0) := by decide +kernel
set_option maxRecDepth 100000 in
theorem b116_0 (l0 : Option Nat) (h : zH) : zev 116 0 [some (vR l0)] [] h = (zgI h l0 9 35 fun x1 => (zgI h l0 9 1 fun x2 => (if x1 < x2 then (zgR h l0 9 0 fun x3 => (zgI h l0 9 35 fun x4 => (zaI h x3 x4 fun x5 => (if x5 = 32 then (zgI h l0 9 35 fun x6 => (zpI h l0 9 35 (x6 + 1) fun h7 => zev 116 0 [some (vR l0)] [] h7)) else some (none, h))))) else some (none, h)))) := by
  refine (zv_an c116_0 rfl).trans ?_
  refine (zv_gI c116_1 zg9_35).trans (zgI_c fun x1 => ?_)
  refine (zv_an c116_4 rfl).trans ?_
  refine (zv_gI c116_5 zg9_1).trans (zgI_c fun x2 => ?_)
  refine (zv_icge c116_8).trans (zif_c ?_ ?_)
  · refine (zv_an c116_11 rfl).trans ?_
    refine (zv_gR c116_12 zf9_0).trans (zgR_c fun x3 => ?_)
    refine (zv_an c116_15 rfl).trans ?_
    refine (zv_gI c116_16 zg9_35).trans (zgI_c fun x4 => ?_)
    refine (zv_aI c116_19).trans (zaI_c fun x5 => ?_)
    refine (zv_bi (v := 32) c116_20 (by decide)).trans ?_
    refine (zv_icne c116_22).trans (zif_c ?_ ?_)
    · refine (zv_an c116_25 rfl).trans ?_
      refine (zv_dup c116_26 rfl).trans ?_
      refine (zv_gI c116_27 zg9_35).trans (zgI_c fun x6 => ?_)
      refine (zv_k (v := 1) c116_30 (by decide)).trans ?_
      refine (zv_iadd c116_31).trans ?_
      refine (zv_pI c116_32 zf9_35).trans (zpI_c fun h7 => ?_)
      refine (zv_goto c116_35).trans ?_
      rfl
    · exact zv_vr c116_38 zrt_116
  · exact zv_vr c116_38 zrt_116
theorem e116 (l0 : Option Nat) (h : zH) : zcall 116 [vR l0] h = (zgI h l0 9 35 fun x1 => (zgI h l0 9 1 fun x2 => (if x1 < x2 then (zgR h l0 9 0 fun x3 => (zgI h l0 9 35 fun x4 => (zaI h x3 x4 fun x5 => (if x5 = 32 then (zgI h l0 9 35 fun x6 => (zpI h l0 9 35 (x6 + 1) fun h7 => zev 116 0 [some (vR l0)] [] h7)) else some (none, h))))) else some (none, h)))) := by
  refine Eq.trans ?_ (b116_0 l0 h)
  unfold zcall zent
  rw [zL_116]
  rfl
theorem c117_0 : zcod 117 0 = some (.aload_n 0, 1, 0, 0, 0, 0) := by decide +kernel
theorem c117_1 : zcod 117 1 = some (.getfield 101, 3, 9, 35, 831, 0) := by decide +kernel
theorem c117_4 : zcod 117 4 = some (.istore_n 1, 1, 0, 0, 0, 0) := by decide +kernel
theorem c117_5 : zcod 117 5 = some (.aload_n 0, 1, 0, 0, 0, 0) := by decide +kernel
theorem c117_6 : zcod 117 6 = some (.getfield 7, 3, 9, 0, 796, 0) := by decide +kernel
theorem c117_9 : zcod 117 9 = some (.aload_n 0, 1, 0, 0, 0, 0) := by decide +kernel
theorem c117_10 : zcod 117 10 = some (.getfield 101, 3, 9, 35, 831, 0) := by decide +kernel
theorem c117_13 : zcod 117 13 = some (.iaload, 1, 0, 0, 0, 0) := by decide +kernel
theorem c117_14 : zcod 117 14 = some (.istore_n 2, 1, 0, 0, 0, 0) := by decide +kernel
theorem c117_15 : zcod 117 15 = some (.iload_n 2, 1, 0, 0, 0, 0) := by decide +kernel
theorem c117_16 : zcod 117 16 = some (.bipush 98, 2, 0, 0, 0, 0) := by decide +kernel
theorem c117_18 : zcod 117 18 = some (.if_icmp .eq 25, 3, 43, 0, 0, 0) := by decide +kernel
theorem c117_21 : zcod 117 21 = some (.iload_n 2, 1, 0, 0, 0, 0) := by decide +kernel
theorem c117_22 : zcod 117 22 = some (.bipush 115, 2, 0, 0, 0, 0) := by decide +kernel
theorem c117_24 : zcod 117 24 = some (.if_icmp .eq 19, 3, 43, 0, 0, 0) := by decide +kernel
theorem c117_27 : zcod 117 27 = some (.iload_n 2, 1, 0, 0, 0, 0) := by decide +kernel
theorem c117_28 : zcod 117 28 = some (.bipush 103, 2, 0, 0, 0, 0) := by decide +kernel
theorem c117_30 : zcod 117 30 = some (.if_icmp .eq 13, 3, 43, 0, 0, 0) := by decide +kernel
theorem c117_33 : zcod 117 33 = some (.aload_n 0, 1, 0, 0, 0, 0) := by decide +kernel
theorem c117_34 : zcod 117 34 = some (.iconst 1, 1, 0, 0, 0, 0) := by decide +kernel
theorem c117_35 : zcod 117 35 = some (.aload_n 0, 1, 0, 0, 0, 0) := by decide +kernel
theorem c117_36 : zcod 117 36 = some (.getfield 101, 3, 9, 35, 831, 0) := by decide +kernel
theorem c117_39 : zcod 117 39 = some (.invokevirtual 111, 3, 118, 2, 945, 0) := by decide +kernel
theorem c117_42 : zcod 117 42 = some (.ireturn, 1, 0, 0, 0, 0) := by decide +kernel
theorem c117_43 : zcod 117 43 = some (.aload_n 0, 1, 0, 0, 0, 0) := by decide +kernel
theorem c117_44 : zcod 117 44 = some (.dup, 1, 0, 0, 0, 0) := by decide +kernel
theorem c117_45 : zcod 117 45 = some (.getfield 101, 3, 9, 35, 831, 0) := by decide +kernel
theorem c117_48 : zcod 117 48 = some (.iconst 1, 1, 0, 0, 0, 0) := by decide +kernel
theorem c117_49 : zcod 117 49 = some (.iadd, 1, 0, 0, 0, 0) := by decide +kernel
theorem c117_50 : zcod 117 50 = some (.putfield 101, 3, 9, 35, 831, 0) := by decide +kernel
theorem c117_53 : zcod 117 53 = some (.aload_n 0, 1, 0, 0, 0, 0) := by decide +kernel
theorem c117_54 : zcod 117 54 = some (.iload_n 2, 1, 0, 0, 0, 0) := by decide +kernel
theorem c117_55 : zcod 117 55 = some (.iload_n 2, 1, 0, 0, 0, 0) := by decide +kernel
theorem c117_56 : zcod 117 56 = some (.bipush 98, 2, 0, 0, 0, 0) := by decide +kernel
theorem c117_58 : zcod 117 58 = some (.if_icmp .ne 7, 3, 65, 0, 0, 0) := by decide +kernel
theorem c117_61 : zcod 117 61 = some (.iconst 5, 1, 0, 0, 0, 0) := by decide +kernel
theorem c117_62 : zcod 117 62 = some (.goto 4, 3, 66, 0, 0, 0) := by decide +kernel
theorem c117_65 : zcod 117 65 = some (.iconst 4, 1, 0, 0, 0, 0) := by decide +kernel
theorem c117_66 : zcod 117 66 = some (.invokevirtual 131, 3, 119, 2, 949, 0) := by decide +kernel
theorem c117_69 : zcod 117 69 = some (.istore_n 3, 1, 0, 0, 0, 0) := by decide +kernel
theorem c117_70 : zcod 117 70 = some (.iload_n 3, 1, 0, 0, 0, 0) := by decide +kernel
theorem c117_71 : zcod 117 71 = some (.ifCond .le 5, 3, 76, 0, 0, 0) := by decide +kernel
theorem c117_74 : zcod 117 74 = some (.iload_n 3, 1, 0, 0, 0, 0) := by decide +kernel
theorem c117_75 : zcod 117 75 = some (.ireturn, 1, 0, 0, 0, 0) := by decide +kernel
theorem c117_76 : zcod 117 76 = some (.iload_n 2, 1, 0, 0, 0, 0) := by decide +kernel
theorem c117_77 : zcod 117 77 = some (.bipush 98, 2, 0, 0, 0, 0) := by decide +kernel
theorem c117_79 : zcod 117 79 = some (.if_icmp .ne 12, 3, 91, 0, 0, 0) := by decide +kernel
theorem c117_82 : zcod 117 82 = some (.aload_n 0, 1, 0, 0, 0, 0) := by decide +kernel
theorem c117_83 : zcod 117 83 = some (.getfield 81, 3, 9, 38, 834, 0) := by decide +kernel
theorem c117_86 : zcod 117 86 = some (.iconst 4, 1, 0, 0, 0, 0) := by decide +kernel
theorem c117_87 : zcod 117 87 = some (.iaload, 1, 0, 0, 0, 0) := by decide +kernel
theorem c117_88 : zcod 117 88 = some (.goto 4, 3, 92, 0, 0, 0) := by decide +kernel
theorem c117_91 : zcod 117 91 = some (.iconst 1, 1, 0, 0, 0, 0) := by decide +kernel
theorem c117_92 : zcod 117 92 = some (.istore 4, 2, 0, 0, 0, 0) := by decide +kernel
theorem c117_94 : zcod 117 94 = some (.iload_n 2, 1, 0, 0, 0, 0) := by decide +kernel
theorem c117_95 : zcod 117 95 = some (.bipush 115, 2, 0, 0, 0, 0) := by decide +kernel
theorem c117_97 : zcod 117 97 = some (.if_icmp .ne 10, 3, 107, 0, 0, 0) := by decide +kernel
theorem c117_100 : zcod 117 100 = some (.aload_n 0, 1, 0, 0, 0, 0) := by decide +kernel
theorem c117_101 : zcod 117 101 = some (.invokevirtual 134, 3, 122, 0, 961, 0) := by decide +kernel
theorem c117_104 : zcod 117 104 = some (.goto 9, 3, 113, 0, 0, 0) := by decide +kernel
theorem c117_107 : zcod 117 107 = some (.aload_n 0, 1, 0, 0, 0, 0) := by decide +kernel
theorem c117_108 : zcod 117 108 = some (.iload 4, 2, 0, 0, 0, 0) := by decide +kernel
theorem c117_110 : zcod 117 110 = some (.invokevirtual 138, 3, 123, 1, 965, 0) := by decide +kernel
theorem c117_113 : zcod 117 113 = some (.istore 5, 2, 0, 0, 0, 0) := by decide +kernel
theorem c117_115 : zcod 117 115 = some (.iload 5, 2, 0, 0, 0, 0) := by decide +kernel
theorem c117_117 : zcod 117 117 = some (.ifCond .ne 10, 3, 127, 0, 0, 0) := by decide +kernel
theorem c117_120 : zcod 117 120 = some (.aload_n 0, 1, 0, 0, 0, 0) := by decide +kernel
theorem c117_121 : zcod 117 121 = some (.iconst 3, 1, 0, 0, 0, 0) := by decide +kernel
theorem c117_122 : zcod 117 122 = some (.iload_n 1, 1, 0, 0, 0, 0) := by decide +kernel
theorem c117_123 : zcod 117 123 = some (.invokevirtual 111, 3, 118, 2, 945, 0) := by decide +kernel
theorem c117_126 : zcod 117 126 = some (.ireturn, 1, 0, 0, 0, 0) := by decide +kernel
theorem c117_127 : zcod 117 127 = some (.iload_n 2, 1, 0, 0, 0, 0) := by decide +kernel
theorem c117_128 : zcod 117 128 = some (.bipush 115, 2, 0, 0, 0, 0) := by decide +kernel
theorem c117_130 : zcod 117 130 = some (.if_icmp .ne 15, 3, 145, 0, 0, 0) := by decide +kernel
theorem c117_133 : zcod 117 133 = some (.aload_n 0, 1, 0, 0, 0, 0) := by decide +kernel
theorem c117_134 : zcod 117 134 = some (.getfield 128, 3, 9, 37, 833, 0) := by decide +kernel
theorem c117_137 : zcod 117 137 = some (.bipush 12, 2, 0, 0, 0, 0) := by decide +kernel
theorem c117_139 : zcod 117 139 = some (.if_icmp .ne 25, 3, 164, 0, 0, 0) := by decide +kernel
theorem c117_142 : zcod 117 142 = some (.goto 15, 3, 157, 0, 0, 0) := by decide +kernel
theorem c117_145 : zcod 117 145 = some (.aload_n 0, 1, 0, 0, 0, 0) := by decide +kernel
theorem c117_146 : zcod 117 146 = some (.getfield 121, 3, 9, 36, 832, 0) := by decide +kernel
theorem c117_149 : zcod 117 149 = some (.iload 4, 2, 0, 0, 0, 0) := by decide +kernel
theorem c117_151 : zcod 117 151 = some (.iadd, 1, 0, 0, 0, 0) := by decide +kernel
theorem c117_152 : zcod 117 152 = some (.bipush 40, 2, 0, 0, 0, 0) := by decide +kernel
theorem c117_154 : zcod 117 154 = some (.if_icmp .le 10, 3, 164, 0, 0, 0) := by decide +kernel
theorem c117_157 : zcod 117 157 = some (.aload_n 0, 1, 0, 0, 0, 0) := by decide +kernel
theorem c117_158 : zcod 117 158 = some (.iconst 4, 1, 0, 0, 0, 0) := by decide +kernel
theorem c117_159 : zcod 117 159 = some (.iload_n 1, 1, 0, 0, 0, 0) := by decide +kernel
theorem c117_160 : zcod 117 160 = some (.invokevirtual 111, 3, 118, 2, 945, 0) := by decide +kernel
theorem c117_163 : zcod 117 163 = some (.ireturn, 1, 0, 0, 0, 0) := by decide +kernel
theorem c117_164 : zcod 117 164 = some (.iload_n 2, 1, 0, 0, 0, 0) := by decide +kernel
theorem c117_165 : zcod 117 165 = some (.bipush 115, 2, 0, 0, 0, 0) := by decide +kernel
theorem c117_167 : zcod 117 167 = some (.if_icmp .ne 13, 3, 180, 0, 0, 0) := by decide +kernel
theorem c117_170 : zcod 117 170 = some (.aload_n 0, 1, 0, 0, 0, 0) := by decide +kernel
theorem c117_171 : zcod 117 171 = some (.dup, 1, 0, 0, 0, 0) := by decide +kernel
theorem c117_172 : zcod 117 172 = some (.getfield 128, 3, 9, 37, 833, 0) := by decide +kernel
theorem c117_175 : zcod 117 175 = some (.iconst 1, 1, 0, 0, 0, 0) := by decide +kernel
theorem c117_176 : zcod 117 176 = some (.iadd, 1, 0, 0, 0, 0) := by decide +kernel
theorem c117_177 : zcod 117 177 = some (.putfield 128, 3, 9, 37, 833, 0) := by decide +kernel
theorem c117_180 : zcod 117 180 = some (.iconst 0, 1, 0, 0, 0, 0) := by decide +kernel
theorem c117_181 : zcod 117 181 = some (.istore 6, 2, 0, 0, 0, 0) := by decide +kernel
theorem c117_183 : zcod 117 183 = some (.iload 6, 2, 0, 0, 0, 0) := by decide +kernel
theorem c117_185 : zcod 117 185 = some (.iload 4, 2, 0, 0, 0, 0) := by decide +kernel
theorem c117_187 : zcod 117 187 = some (.if_icmp .ge 67, 3, 254, 0, 0, 0) := by decide +kernel
theorem c117_190 : zcod 117 190 = some (.iload_n 2, 1, 0, 0, 0, 0) := by decide +kernel
theorem c117_191 : zcod 117 191 = some (.bipush 115, 2, 0, 0, 0, 0) := by decide +kernel
theorem c117_193 : zcod 117 193 = some (.if_icmp .eq 61, 3, 254, 0, 0, 0) := by decide +kernel
theorem c117_196 : zcod 117 196 = some (.aload_n 0, 1, 0, 0, 0, 0) := by decide +kernel
theorem c117_197 : zcod 117 197 = some (.getfield 84, 3, 9, 39, 835, 0) := by decide +kernel
theorem c117_200 : zcod 117 200 = some (.aload_n 0, 1, 0, 0, 0, 0) := by decide +kernel
theorem c117_201 : zcod 117 201 = some (.getfield 121, 3, 9, 36, 832, 0) := by decide +kernel
theorem c117_204 : zcod 117 204 = some (.aload_n 0, 1, 0, 0, 0, 0) := by decide +kernel
theorem c117_205 : zcod 117 205 = some (.getfield 81, 3, 9, 38, 834, 0) := by decide +kernel
theorem c117_208 : zcod 117 208 = some (.iconst 2, 1, 0, 0, 0, 0) := by decide +kernel
theorem c117_209 : zcod 117 209 = some (.iaload, 1, 0, 0, 0, 0) := by decide +kernel
theorem c117_210 : zcod 117 210 = some (.aload_n 0, 1, 0, 0, 0, 0) := by decide +kernel
theorem c117_211 : zcod 117 211 = some (.getfield 81, 3, 9, 38, 834, 0) := by decide +kernel
theorem c117_214 : zcod 117 214 = some (.iconst 3, 1, 0, 0, 0, 0) := by decide +kernel
theorem c117_215 : zcod 117 215 = some (.iaload, 1, 0, 0, 0, 0) := by decide +kernel
theorem c117_216 : zcod 117 216 = some (.imul, 1, 0, 0, 0, 0) := by decide +kernel
theorem c117_217 : zcod 117 217 = some (.iastore, 1, 0, 0, 0, 0) := by decide +kernel
theorem c117_218 : zcod 117 218 = some (.aload_n 0, 1, 0, 0, 0, 0) := by decide +kernel
theorem c117_219 : zcod 117 219 = some (.getfield 87, 3, 9, 40, 836, 0) := by decide +kernel
theorem c117_222 : zcod 117 222 = some (.aload_n 0, 1, 0, 0, 0, 0) := by decide +kernel
theorem c117_223 : zcod 117 223 = some (.getfield 121, 3, 9, 36, 832, 0) := by decide +kernel
theorem c117_226 : zcod 117 226 = some (.iload_n 2, 1, 0, 0, 0, 0) := by decide +kernel
theorem c117_227 : zcod 117 227 = some (.bipush 103, 2, 0, 0, 0, 0) := by decide +kernel
theorem c117_229 : zcod 117 229 = some (.if_icmp .ne 7, 3, 236, 0, 0, 0) := by decide +kernel
theorem c117_232 : zcod 117 232 = some (.iconst 1, 1, 0, 0, 0, 0) := by decide +kernel
theorem c117_233 : zcod 117 233 = some (.goto 4, 3, 237, 0, 0, 0) := by decide +kernel
theorem c117_236 : zcod 117 236 = some (.iconst 0, 1, 0, 0, 0, 0) := by decide +kernel
theorem c117_237 : zcod 117 237 = some (.bastore, 1, 0, 0, 0, 0) := by decide +kernel
theorem c117_238 : zcod 117 238 = some (.aload_n 0, 1, 0, 0, 0, 0) := by decide +kernel
theorem c117_239 : zcod 117 239 = some (.dup, 1, 0, 0, 0, 0) := by decide +kernel
theorem c117_240 : zcod 117 240 = some (.getfield 121, 3, 9, 36, 832, 0) := by decide +kernel
theorem c117_243 : zcod 117 243 = some (.iconst 1, 1, 0, 0, 0, 0) := by decide +kernel
theorem c117_244 : zcod 117 244 = some (.iadd, 1, 0, 0, 0, 0) := by decide +kernel
theorem c117_245 : zcod 117 245 = some (.putfield 121, 3, 9, 36, 832, 0) := by decide +kernel
theorem c117_248 : zcod 117 248 = some (.iinc 6 1, 3, 0, 0, 0, 0) := by decide +kernel
theorem c117_251 : zcod 117 251 = some (.goto (-68), 3, 183, 0, 0, 0) := by decide +kernel
theorem c117_254 : zcod 117 254 = some (.aload_n 0, 1, 0, 0, 0, 0) := by decide +kernel
theorem c117_255 : zcod 117 255 = some (.getfield 101, 3, 9, 35, 831, 0) := by decide +kernel
theorem c117_258 : zcod 117 258 = some (.aload_n 0, 1, 0, 0, 0, 0) := by decide +kernel
theorem c117_259 : zcod 117 259 = some (.getfield 96, 3, 9, 1, 797, 0) := by decide +kernel
theorem c117_262 : zcod 117 262 = some (.if_icmp .ge 29, 3, 291, 0, 0, 0) := by decide +kernel
theorem c117_265 : zcod 117 265 = some (.aload_n 0, 1, 0, 0, 0, 0) := by decide +kernel
theorem c117_266 : zcod 117 266 = some (.getfield 7, 3, 9, 0, 796, 0) := by decide +kernel
theorem c117_269 : zcod 117 269 = some (.aload_n 0, 1, 0, 0, 0, 0) := by decide +kernel
theorem c117_270 : zcod 117 270 = some (.getfield 101, 3, 9, 35, 831, 0) := by decide +kernel
theorem c117_273 : zcod 117 273 = some (.iaload, 1, 0, 0, 0, 0) := by decide +kernel
theorem c117_274 : zcod 117 274 = some (.bipush 32, 2, 0, 0, 0, 0) := by decide +kernel
theorem c117_276 : zcod 117 276 = some (.if_icmp .eq 15, 3, 291, 0, 0, 0) := by decide +kernel
theorem c117_279 : zcod 117 279 = some (.aload_n 0, 1, 0, 0, 0, 0) := by decide +kernel
theorem c117_280 : zcod 117 280 = some (.iconst 1, 1, 0, 0, 0, 0) := by decide +kernel
theorem c117_281 : zcod 117 281 = some (.aload_n 0, 1, 0, 0, 0, 0) := by decide +kernel
theorem c117_282 : zcod 117 282 = some (.getfield 101, 3, 9, 35, 831, 0) := by decide +kernel
theorem c117_285 : zcod 117 285 = some (.invokevirtual 111, 3, 118, 2, 945, 0) := by decide +kernel
theorem c117_288 : zcod 117 288 = some (.goto 4, 3, 292, 0, 0, 0) := by decide +kernel
theorem c117_291 : zcod 117 291 = some (.iconst 0, 1, 0, 0, 0, 0) := by decide +kernel
theorem c117_292 : zcod 117 292 = some (.ireturn, 1, 0, 0, 0, 0) := by decide +kernel
set_option maxRecDepth 100000 in
theorem b117_0 (l0 : Option Nat) (h : zH) : zev 117 0 [some (vR l0), none, none, none, none, none, none] [] h = (zgI h l0 9 35 fun x1 => (zgR h l0 9 0 fun x2 => (zgI h l0 9 35 fun x3 => (zaI h x2 x3 fun x4 => (if x4 = 98 then zev 117 43 [some (vR l0), some (vI x1), some (vI x4), none, none, none, none] [] h else (if x4 = 115 then zev 117 43 [some (vR l0), some (vI x1), some (vI x4), none, none, none, none] [] h else (if x4 = 103 then zev 117 43 [some (vR l0), some (vI x1), some (vI x4), none, none, none, none] [] h else (zgI h l0 9 35 fun x5 => (zvr h l0 9 (zcI 118 [vR l0, vI 1, vI x5] h fun x7 h6 => some (some (vI x7), h6))))))))))) := by
  refine (zv_an c117_0 rfl).trans ?_
  refine (zv_gI c117_1 zg9_35).trans (zgI_c fun x1 => ?_)
  refine (zv_it c117_4 rfl).trans ?_
  refine (zv_an c117_5 rfl).trans ?_
  refine (zv_gR c117_6 zf9_0).trans (zgR_c fun x2 => ?_)
  refine (zv_an c117_9 rfl).trans ?_
  refine (zv_gI c117_10 zg9_35).trans (zgI_c fun x3 => ?_)
  refine (zv_aI c117_13).trans (zaI_c fun x4 => ?_)
  refine (zv_it c117_14 rfl).trans ?_
  refine (zv_in c117_15 rfl).trans ?_
  refine (zv_bi (v := 98) c117_16 (by decide)).trans ?_
  refine (zv_iceq c117_18).trans (zif_c ?_ ?_)
  · rfl
  · refine (zv_in c117_21 rfl).trans ?_
    refine (zv_bi (v := 115) c117_22 (by decide)).trans ?_
    refine (zv_iceq c117_24).trans (zif_c ?_ ?_)
    · rfl
    · refine (zv_in c117_27 rfl).trans ?_
      refine (zv_bi (v := 103) c117_28 (by decide)).trans ?_
      refine (zv_iceq c117_30).trans (zif_c ?_ ?_)
      · rfl
      · refine (zv_an c117_33 rfl).trans ?_
        refine (zv_k (v := 1) c117_34 (by decide)).trans ?_
        refine (zv_an c117_35 rfl).trans ?_
        refine (zv_gI c117_36 zg9_35).trans (zgI_c fun x5 => ?_)
        refine (zv_viI c117_39 zcn_118 rfl zL_118 (Or.inl zrt_118) rfl rfl).trans (zvr_c (zcI_c fun x7 h6 => ?_))
        exact zv_ir c117_42 zrt_117
theorem e117 (l0 : Option Nat) (h : zH) : zcall 117 [vR l0] h = (zgI h l0 9 35 fun x1 => (zgR h l0 9 0 fun x2 => (zgI h l0 9 35 fun x3 => (zaI h x2 x3 fun x4 => (if x4 = 98 then zev 117 43 [some (vR l0), some (vI x1), some (vI x4), none, none, none, none] [] h else (if x4 = 115 then zev 117 43 [some (vR l0), some (vI x1), some (vI x4), none, none, none, none] [] h else (if x4 = 103 then zev 117 43 [some (vR l0), some (vI x1), some (vI x4), none, none, none, none] [] h else (zgI h l0 9 35 fun x5 => (zvr h l0 9 (zcI 118 [vR l0, vI 1, vI x5] h fun x7 h6 => some (some (vI x7), h6))))))))))) := by
  refine Eq.trans ?_ (b117_0 l0 h)
  unfold zcall zent
  rw [zL_117]
  rfl
set_option maxRecDepth 100000 in
theorem b117_43 (l0 : Option Nat) (l1 : Int32) (l2 : Int32) (l3 : Option zV) (l4 : Option zV) (l5 : Option zV) (l6 : Option zV) (h : zH) : zev 117 43 [some (vR l0), some (vI l1), some (vI l2), l3, l4, l5, l6] [] h = (zgI h l0 9 35 fun x1 => (zpI h l0 9 35 (x1 + 1) fun h2 => (if l2 = 98 then zev 117 66 [some (vR l0), some (vI l1), some (vI l2), l3, l4, l5, l6] [vI 5, vI l2, vR l0] h2 else zev 117 66 [some (vR l0), some (vI l1), some (vI l2), l3, l4, l5, l6] [vI 4, vI l2, vR l0] h2))) := by
  refine (zv_an c117_43 rfl).trans ?_
  refine (zv_dup c117_44 rfl).trans ?_
  refine (zv_gI c117_45 zg9_35).trans (zgI_c fun x1 => ?_)
  refine (zv_k (v := 1) c117_48 (by decide)).trans ?_
  refine (zv_iadd c117_49).trans ?_
  refine (zv_pI c117_50 zf9_35).trans (zpI_c fun h2 => ?_)
  refine (zv_an c117_53 rfl).trans ?_
  refine (zv_in c117_54 rfl).trans ?_
  refine (zv_in c117_55 rfl).trans ?_
  refine (zv_bi (v := 98) c117_56 (by decide)).trans ?_
  refine (zv_icne c117_58).trans (zif_c ?_ ?_)
  · refine (zv_k (v := 5) c117_61 (by decide)).trans ?_
    refine (zv_goto c117_62).trans ?_
    rfl
  · refine (zv_k (v := 4) c117_65 (by decide)).trans ?_
    rfl
set_option maxRecDepth 100000 in
theorem b117_66 (l0 : Option Nat) (l1 : Int32) (l2 : Int32) (l3 : Option zV) (l4 : Option zV) (l5 : Option zV) (l6 : Option zV) (s0 : Option Nat) (s1 : Int32) (s2 : Int32) (h : zH) : zev 117 66 [some (vR l0), some (vI l1), some (vI l2), l3, l4, l5, l6] [vI s2, vI s1, vR s0] h = (zvr h s0 9 (zcI 119 [vR s0, vI s1, vI s2] h fun x2 h1 => (if 0 < x2 then some (some (vI x2), h1) else (if l2 = 98 then (zgR h1 l0 9 38 fun x3 => (zaI h1 x3 4 fun x4 => (if l2 = 115 then (zvr h1 l0 9 (zcI 122 [vR l0] h1 fun x6 h5 => zev 117 113 [some (vR l0), some (vI l1), some (vI l2), some (vI x2), some (vI x4), l5, l6] [vI x6] h5)) else (zvr h1 l0 9 (zcI 123 [vR l0, vI x4] h1 fun x8 h7 => zev 117 113 [some (vR l0), some (vI l1), some (vI l2), some (vI x2), some (vI x4), l5, l6] [vI x8] h7))))) else (if l2 = 115 then (zvr h1 l0 9 (zcI 122 [vR l0] h1 fun x10 h9 => zev 117 113 [some (vR l0), some (vI l1), some (vI l2), some (vI x2), some (vI 1), l5, l6] [vI x10] h9)) else (zvr h1 l0 9 (zcI 123 [vR l0, vI 1] h1 fun x12 h11 => zev 117 113 [some (vR l0), some (vI l1), some (vI l2), some (vI x2), some (vI 1), l5, l6] [vI x12] h11))))))) := by
  refine (zv_viI c117_66 zcn_119 rfl zL_119 (Or.inl zrt_119) rfl rfl).trans (zvr_c (zcI_c fun x2 h1 => ?_))
  refine (zv_it c117_69 rfl).trans ?_
  refine (zv_in c117_70 rfl).trans ?_
  refine (zv_ifle c117_71).trans (zif_c ?_ ?_)
  · refine (zv_in c117_74 rfl).trans ?_
    exact zv_ir c117_75 zrt_117
  · refine (zv_in c117_76 rfl).trans ?_
    refine (zv_bi (v := 98) c117_77 (by decide)).trans ?_
    refine (zv_icne c117_79).trans (zif_c ?_ ?_)
    · refine (zv_an c117_82 rfl).trans ?_
      refine (zv_gR c117_83 zf9_38).trans (zgR_c fun x3 => ?_)
      refine (zv_k (v := 4) c117_86 (by decide)).trans ?_
      refine (zv_aI c117_87).trans (zaI_c fun x4 => ?_)
      refine (zv_goto c117_88).trans ?_
      refine (zv_is c117_92 rfl).trans ?_
      refine (zv_in c117_94 rfl).trans ?_
      refine (zv_bi (v := 115) c117_95 (by decide)).trans ?_
      refine (zv_icne c117_97).trans (zif_c ?_ ?_)
      · refine (zv_an c117_100 rfl).trans ?_
        refine (zv_viI c117_101 zcn_122 rfl zL_122 (Or.inr zrt_122) rfl rfl).trans (zvr_c (zcI_c fun x6 h5 => ?_))
        refine (zv_goto c117_104).trans ?_
        rfl
      · refine (zv_an c117_107 rfl).trans ?_
        refine (zv_il c117_108 rfl).trans ?_
        refine (zv_viI c117_110 zcn_123 rfl zL_123 (Or.inr zrt_123) rfl rfl).trans (zvr_c (zcI_c fun x8 h7 => ?_))
        rfl
    · refine (zv_k (v := 1) c117_91 (by decide)).trans ?_
      refine (zv_is c117_92 rfl).trans ?_
      refine (zv_in c117_94 rfl).trans ?_
      refine (zv_bi (v := 115) c117_95 (by decide)).trans ?_
      refine (zv_icne c117_97).trans (zif_c ?_ ?_)
      · refine (zv_an c117_100 rfl).trans ?_
        refine (zv_viI c117_101 zcn_122 rfl zL_122 (Or.inr zrt_122) rfl rfl).trans (zvr_c (zcI_c fun x10 h9 => ?_))
        refine (zv_goto c117_104).trans ?_
        rfl
      · refine (zv_an c117_107 rfl).trans ?_
        refine (zv_il c117_108 rfl).trans ?_
        refine (zv_viI c117_110 zcn_123 rfl zL_123 (Or.inr zrt_123) rfl rfl).trans (zvr_c (zcI_c fun x12 h11 => ?_))
        rfl
set_option maxRecDepth 100000 in
theorem b117_113 (l0 : Option Nat) (l1 : Int32) (l2 : Int32) (l3 : Int32) (l4 : Int32) (l5 : Option zV) (l6 : Option zV) (s0 : Int32) (h : zH) : zev 117 113 [some (vR l0), some (vI l1), some (vI l2), some (vI l3), some (vI l4), l5, l6] [vI s0] h = (if s0 = 0 then (zvr h l0 9 (zcI 118 [vR l0, vI 3, vI l1] h fun x2 h1 => some (some (vI x2), h1))) else (if l2 = 115 then (zgI h l0 9 37 fun x3 => (if x3 = 12 then (zvr h l0 9 (zcI 118 [vR l0, vI 4, vI l1] h fun x5 h4 => some (some (vI x5), h4))) else zev 117 164 [some (vR l0), some (vI l1), some (vI l2), some (vI l3), some (vI l4), some (vI s0), l6] [] h)) else (zgI h l0 9 36 fun x6 => (if 40 < (x6 + l4) then (zvr h l0 9 (zcI 118 [vR l0, vI 4, vI l1] h fun x8 h7 => some (some (vI x8), h7))) else zev 117 164 [some (vR l0), some (vI l1), some (vI l2), some (vI l3), some (vI l4), some (vI s0), l6] [] h)))) := by
  refine (zv_is c117_113 rfl).trans ?_
  refine (zv_il c117_115 rfl).trans ?_
  refine (zv_ifne c117_117).trans (zif_c ?_ ?_)
  · refine (zv_an c117_120 rfl).trans ?_
    refine (zv_k (v := 3) c117_121 (by decide)).trans ?_
    refine (zv_in c117_122 rfl).trans ?_
    refine (zv_viI c117_123 zcn_118 rfl zL_118 (Or.inl zrt_118) rfl rfl).trans (zvr_c (zcI_c fun x2 h1 => ?_))
    exact zv_ir c117_126 zrt_117
  · refine (zv_in c117_127 rfl).trans ?_
    refine (zv_bi (v := 115) c117_128 (by decide)).trans ?_
    refine (zv_icne c117_130).trans (zif_c ?_ ?_)
    · refine (zv_an c117_133 rfl).trans ?_
      refine (zv_gI c117_134 zg9_37).trans (zgI_c fun x3 => ?_)
      refine (zv_bi (v := 12) c117_137 (by decide)).trans ?_
      refine (zv_icne c117_139).trans (zif_c ?_ ?_)
      · refine (zv_goto c117_142).trans ?_
        refine (zv_an c117_157 rfl).trans ?_
        refine (zv_k (v := 4) c117_158 (by decide)).trans ?_
        refine (zv_in c117_159 rfl).trans ?_
        refine (zv_viI c117_160 zcn_118 rfl zL_118 (Or.inl zrt_118) rfl rfl).trans (zvr_c (zcI_c fun x5 h4 => ?_))
        exact zv_ir c117_163 zrt_117
      · rfl
    · refine (zv_an c117_145 rfl).trans ?_
      refine (zv_gI c117_146 zg9_36).trans (zgI_c fun x6 => ?_)
      refine (zv_il c117_149 rfl).trans ?_
      refine (zv_iadd c117_151).trans ?_
      refine (zv_bi (v := 40) c117_152 (by decide)).trans ?_
      refine (zv_icle c117_154).trans (zif_c ?_ ?_)
      · refine (zv_an c117_157 rfl).trans ?_
        refine (zv_k (v := 4) c117_158 (by decide)).trans ?_
        refine (zv_in c117_159 rfl).trans ?_
        refine (zv_viI c117_160 zcn_118 rfl zL_118 (Or.inl zrt_118) rfl rfl).trans (zvr_c (zcI_c fun x8 h7 => ?_))
        exact zv_ir c117_163 zrt_117
      · rfl
set_option maxRecDepth 100000 in
theorem b117_164 (l0 : Option Nat) (l1 : Int32) (l2 : Int32) (l3 : Int32) (l4 : Int32) (l5 : Int32) (l6 : Option zV) (h : zH) : zev 117 164 [some (vR l0), some (vI l1), some (vI l2), some (vI l3), some (vI l4), some (vI l5), l6] [] h = (if l2 = 115 then (zgI h l0 9 37 fun x1 => (zpI h l0 9 37 (x1 + 1) fun h2 => zev 117 183 [some (vR l0), some (vI l1), some (vI l2), some (vI l3), some (vI l4), some (vI l5), some (vI 0)] [] h2)) else zev 117 183 [some (vR l0), some (vI l1), some (vI l2), some (vI l3), some (vI l4), some (vI l5), some (vI 0)] [] h) := by
  refine (zv_in c117_164 rfl).trans ?_
  refine (zv_bi (v := 115) c117_165 (by decide)).trans ?_
  refine (zv_icne c117_167).trans (zif_c ?_ ?_)
  · refine (zv_an c117_170 rfl).trans ?_
    refine (zv_dup c117_171 rfl).trans ?_
    refine (zv_gI c117_172 zg9_37).trans (zgI_c fun x1 => ?_)
    refine (zv_k (v := 1) c117_175 (by decide)).trans ?_
    refine (zv_iadd c117_176).trans ?_
    refine (zv_pI c117_177 zf9_37).trans (zpI_c fun h2 => ?_)
    refine (zv_k (v := 0) c117_180 (by decide)).trans ?_
    refine (zv_is c117_181 rfl).trans ?_
    rfl
  · refine (zv_k (v := 0) c117_180 (by decide)).trans ?_
    refine (zv_is c117_181 rfl).trans ?_
    rfl
set_option maxRecDepth 100000 in
theorem b117_183 (l0 : Option Nat) (l1 : Int32) (l2 : Int32) (l3 : Int32) (l4 : Int32) (l5 : Int32) (l6 : Int32) (h : zH) : zev 117 183 [some (vR l0), some (vI l1), some (vI l2), some (vI l3), some (vI l4), some (vI l5), some (vI l6)] [] h = (if l6 < l4 then (if l2 = 115 then zev 117 254 [some (vR l0), some (vI l1), some (vI l2), some (vI l3), some (vI l4), some (vI l5), some (vI l6)] [] h else (zgR h l0 9 39 fun x1 => (zgI h l0 9 36 fun x2 => (zgR h l0 9 38 fun x3 => (zaI h x3 2 fun x4 => (zgR h l0 9 38 fun x5 => (zaI h x5 3 fun x6 => (ztI h x1 x2 (x4 * x6) fun h7 => (zgR h7 l0 9 40 fun x8 => (zgI h7 l0 9 36 fun x9 => (if l2 = 103 then (ztB h7 x8 x9 1 fun h10 => (zgI h10 l0 9 36 fun x11 => (zpI h10 l0 9 36 (x11 + 1) fun h12 => zev 117 183 [some (vR l0), some (vI l1), some (vI l2), some (vI l3), some (vI l4), some (vI l5), some (vI (l6 + 1))] [] h12))) else (ztB h7 x8 x9 0 fun h13 => (zgI h13 l0 9 36 fun x14 => (zpI h13 l0 9 36 (x14 + 1) fun h15 => zev 117 183 [some (vR l0), some (vI l1), some (vI l2), some (vI l3), some (vI l4), some (vI l5), some (vI (l6 + 1))] [] h15)))))))))))))) else zev 117 254 [some (vR l0), some (vI l1), some (vI l2), some (vI l3), some (vI l4), some (vI l5), some (vI l6)] [] h) := by
  refine (zv_il c117_183 rfl).trans ?_
  refine (zv_il c117_185 rfl).trans ?_
  refine (zv_icge c117_187).trans (zif_c ?_ ?_)
  · refine (zv_in c117_190 rfl).trans ?_
    refine (zv_bi (v := 115) c117_191 (by decide)).trans ?_
    refine (zv_iceq c117_193).trans (zif_c ?_ ?_)
    · rfl
    · refine (zv_an c117_196 rfl).trans ?_
      refine (zv_gR c117_197 zf9_39).trans (zgR_c fun x1 => ?_)
      refine (zv_an c117_200 rfl).trans ?_
      refine (zv_gI c117_201 zg9_36).trans (zgI_c fun x2 => ?_)
      refine (zv_an c117_204 rfl).trans ?_
      refine (zv_gR c117_205 zf9_38).trans (zgR_c fun x3 => ?_)
      refine (zv_k (v := 2) c117_208 (by decide)).trans ?_
      refine (zv_aI c117_209).trans (zaI_c fun x4 => ?_)
      refine (zv_an c117_210 rfl).trans ?_
      refine (zv_gR c117_211 zf9_38).trans (zgR_c fun x5 => ?_)
      refine (zv_k (v := 3) c117_214 (by decide)).trans ?_
      refine (zv_aI c117_215).trans (zaI_c fun x6 => ?_)
      refine (zv_imul c117_216).trans ?_
      refine (zv_tI c117_217).trans (ztI_c fun h7 => ?_)
      refine (zv_an c117_218 rfl).trans ?_
      refine (zv_gR c117_219 zf9_40).trans (zgR_c fun x8 => ?_)
      refine (zv_an c117_222 rfl).trans ?_
      refine (zv_gI c117_223 zg9_36).trans (zgI_c fun x9 => ?_)
      refine (zv_in c117_226 rfl).trans ?_
      refine (zv_bi (v := 103) c117_227 (by decide)).trans ?_
      refine (zv_icne c117_229).trans (zif_c ?_ ?_)
      · refine (zv_k (v := 1) c117_232 (by decide)).trans ?_
        refine (zv_goto c117_233).trans ?_
        refine (zv_tB c117_237).trans (ztB_c fun h10 => ?_)
        refine (zv_an c117_238 rfl).trans ?_
        refine (zv_dup c117_239 rfl).trans ?_
        refine (zv_gI c117_240 zg9_36).trans (zgI_c fun x11 => ?_)
        refine (zv_k (v := 1) c117_243 (by decide)).trans ?_
        refine (zv_iadd c117_244).trans ?_
        refine (zv_pI c117_245 zf9_36).trans (zpI_c fun h12 => ?_)
        refine (zv_inc (y := 1) c117_248 rfl (by decide) rfl).trans ?_
        refine (zv_goto c117_251).trans ?_
        rfl
      · refine (zv_k (v := 0) c117_236 (by decide)).trans ?_
        refine (zv_tB c117_237).trans (ztB_c fun h13 => ?_)
        refine (zv_an c117_238 rfl).trans ?_
        refine (zv_dup c117_239 rfl).trans ?_
        refine (zv_gI c117_240 zg9_36).trans (zgI_c fun x14 => ?_)
        refine (zv_k (v := 1) c117_243 (by decide)).trans ?_
        refine (zv_iadd c117_244).trans ?_
        refine (zv_pI c117_245 zf9_36).trans (zpI_c fun h15 => ?_)
        refine (zv_inc (y := 1) c117_248 rfl (by decide) rfl).trans ?_
        refine (zv_goto c117_251).trans ?_
        rfl
  · rfl
set_option maxRecDepth 100000 in
theorem b117_254 (l0 : Option Nat) (l1 : Int32) (l2 : Int32) (l3 : Int32) (l4 : Int32) (l5 : Int32) (l6 : Int32) (h : zH) : zev 117 254 [some (vR l0), some (vI l1), some (vI l2), some (vI l3), some (vI l4), some (vI l5), some (vI l6)] [] h = (zgI h l0 9 35 fun x1 => (zgI h l0 9 1 fun x2 => (if x1 < x2 then (zgR h l0 9 0 fun x3 => (zgI h l0 9 35 fun x4 => (zaI h x3 x4 fun x5 => (if x5 = 32 then some (some (vI 0), h) else (zgI h l0 9 35 fun x6 => (zvr h l0 9 (zcI 118 [vR l0, vI 1, vI x6] h fun x8 h7 => some (some (vI x8), h7)))))))) else some (some (vI 0), h)))) := by
  refine (zv_an c117_254 rfl).trans ?_
  refine (zv_gI c117_255 zg9_35).trans (zgI_c fun x1 => ?_)
  refine (zv_an c117_258 rfl).trans ?_
  refine (zv_gI c117_259 zg9_1).trans (zgI_c fun x2 => ?_)
  refine (zv_icge c117_262).trans (zif_c ?_ ?_)
  · refine (zv_an c117_265 rfl).trans ?_
    refine (zv_gR c117_266 zf9_0).trans (zgR_c fun x3 => ?_)
    refine (zv_an c117_269 rfl).trans ?_
    refine (zv_gI c117_270 zg9_35).trans (zgI_c fun x4 => ?_)
    refine (zv_aI c117_273).trans (zaI_c fun x5 => ?_)
    refine (zv_bi (v := 32) c117_274 (by decide)).trans ?_
    refine (zv_iceq c117_276).trans (zif_c ?_ ?_)
    · refine (zv_k (v := 0) c117_291 (by decide)).trans ?_
      exact zv_ir c117_292 zrt_117
    · refine (zv_an c117_279 rfl).trans ?_
      refine (zv_k (v := 1) c117_280 (by decide)).trans ?_
      refine (zv_an c117_281 rfl).trans ?_
      refine (zv_gI c117_282 zg9_35).trans (zgI_c fun x6 => ?_)
      refine (zv_viI c117_285 zcn_118 rfl zL_118 (Or.inl zrt_118) rfl rfl).trans (zvr_c (zcI_c fun x8 h7 => ?_))
      refine (zv_goto c117_288).trans ?_
      exact zv_ir c117_292 zrt_117
  · refine (zv_k (v := 0) c117_291 (by decide)).trans ?_
    exact zv_ir c117_292 zrt_117
theorem c118_0 : zcod 118 0 = some (.aload_n 0, 1, 0, 0, 0, 0) := by decide +kernel
theorem c118_1 : zcod 118 1 = some (.iload_n 2, 1, 0, 0, 0, 0) := by decide +kernel
theorem c118_2 : zcod 118 2 = some (.putfield 13, 3, 9, 2, 798, 0) := by decide +kernel
theorem c118_5 : zcod 118 5 = some (.iload_n 1, 1, 0, 0, 0, 0) := by decide +kernel
theorem c118_6 : zcod 118 6 = some (.ireturn, 1, 0, 0, 0, 0) := by decide +kernel
set_option maxRecDepth 100000 in
theorem b118_0 (l0 : Option Nat) (l1 : Int32) (l2 : Int32) (h : zH) : zev 118 0 [some (vR l0), some (vI l1), some (vI l2)] [] h = (zpI h l0 9 2 l2 fun h1 => some (some (vI l1), h1)) := by
  refine (zv_an c118_0 rfl).trans ?_
  refine (zv_in c118_1 rfl).trans ?_
  refine (zv_pI c118_2 zf9_2).trans (zpI_c fun h1 => ?_)
  refine (zv_in c118_5 rfl).trans ?_
  exact zv_ir c118_6 zrt_118
theorem e118 (l0 : Option Nat) (l1 : Int32) (l2 : Int32) (h : zH) : zcall 118 [vR l0, vI l1, vI l2] h = (zpI h l0 9 2 l2 fun h1 => some (some (vI l1), h1)) := by
  refine Eq.trans ?_ (b118_0 l0 l1 l2 h)
  unfold zcall zent
  rw [zL_118]
  rfl
theorem c119_0 : zcod 119 0 = some (.iconst 0, 1, 0, 0, 0, 0) := by decide +kernel
theorem c119_1 : zcod 119 1 = some (.istore_n 3, 1, 0, 0, 0, 0) := by decide +kernel
theorem c119_2 : zcod 119 2 = some (.iload_n 3, 1, 0, 0, 0, 0) := by decide +kernel
theorem c119_3 : zcod 119 3 = some (.iload_n 2, 1, 0, 0, 0, 0) := by decide +kernel
theorem c119_4 : zcod 119 4 = some (.if_icmp .ge 211, 3, 215, 0, 0, 0) := by decide +kernel
theorem c119_7 : zcod 119 7 = some (.aload_n 0, 1, 0, 0, 0, 0) := by decide +kernel
theorem c119_8 : zcod 119 8 = some (.invokevirtual 104, 3, 116, 0, 937, 0) := by decide +kernel
theorem c119_11 : zcod 119 11 = some (.aload_n 0, 1, 0, 0, 0, 0) := by decide +kernel
theorem c119_12 : zcod 119 12 = some (.getfield 101, 3, 9, 35, 831, 0) := by decide +kernel
theorem c119_15 : zcod 119 15 = some (.istore 4, 2, 0, 0, 0, 0) := by decide +kernel
theorem c119_17 : zcod 119 17 = some (.iconst 0, 1, 0, 0, 0, 0) := by decide +kernel
theorem c119_18 : zcod 119 18 = some (.istore 5, 2, 0, 0, 0, 0) := by decide +kernel
theorem c119_20 : zcod 119 20 = some (.aload_n 0, 1, 0, 0, 0, 0) := by decide +kernel
theorem c119_21 : zcod 119 21 = some (.getfield 101, 3, 9, 35, 831, 0) := by decide +kernel
theorem c119_24 : zcod 119 24 = some (.aload_n 0, 1, 0, 0, 0, 0) := by decide +kernel
theorem c119_25 : zcod 119 25 = some (.getfield 96, 3, 9, 1, 797, 0) := by decide +kernel
theorem c119_28 : zcod 119 28 = some (.if_icmp .ge 74, 3, 102, 0, 0, 0) := by decide +kernel
theorem c119_31 : zcod 119 31 = some (.aload_n 0, 1, 0, 0, 0, 0) := by decide +kernel
theorem c119_32 : zcod 119 32 = some (.getfield 7, 3, 9, 0, 796, 0) := by decide +kernel
theorem c119_35 : zcod 119 35 = some (.aload_n 0, 1, 0, 0, 0, 0) := by decide +kernel
theorem c119_36 : zcod 119 36 = some (.getfield 101, 3, 9, 35, 831, 0) := by decide +kernel
theorem c119_39 : zcod 119 39 = some (.iaload, 1, 0, 0, 0, 0) := by decide +kernel
theorem c119_40 : zcod 119 40 = some (.i2l, 1, 0, 0, 0, 0) := by decide +kernel
theorem c119_41 : zcod 119 41 = some (.ldc2_w 107, 3, 0, 0, 953, 48) := by decide +kernel
theorem c119_44 : zcod 119 44 = some (.ldc2_w 109, 3, 0, 0, 954, 57) := by decide +kernel
theorem c119_47 : zcod 119 47 = some (.invokestatic 92, 3, 113, 3, 925, 0) := by decide +kernel
theorem c119_50 : zcod 119 50 = some (.ifCond .eq 52, 3, 102, 0, 0, 0) := by decide +kernel
theorem c119_53 : zcod 119 53 = some (.aload_n 0, 1, 0, 0, 0, 0) := by decide +kernel
theorem c119_54 : zcod 119 54 = some (.getfield 101, 3, 9, 35, 831, 0) := by decide +kernel
theorem c119_57 : zcod 119 57 = some (.iload 4, 2, 0, 0, 0, 0) := by decide +kernel
theorem c119_59 : zcod 119 59 = some (.isub, 1, 0, 0, 0, 0) := by decide +kernel
theorem c119_60 : zcod 119 60 = some (.iconst 2, 1, 0, 0, 0, 0) := by decide +kernel
theorem c119_61 : zcod 119 61 = some (.if_icmp .ge 24, 3, 85, 0, 0, 0) := by decide +kernel
theorem c119_64 : zcod 119 64 = some (.bipush 10, 2, 0, 0, 0, 0) := by decide +kernel
theorem c119_66 : zcod 119 66 = some (.iload 5, 2, 0, 0, 0, 0) := by decide +kernel
theorem c119_68 : zcod 119 68 = some (.imul, 1, 0, 0, 0, 0) := by decide +kernel
theorem c119_69 : zcod 119 69 = some (.aload_n 0, 1, 0, 0, 0, 0) := by decide +kernel
theorem c119_70 : zcod 119 70 = some (.getfield 7, 3, 9, 0, 796, 0) := by decide +kernel
theorem c119_73 : zcod 119 73 = some (.aload_n 0, 1, 0, 0, 0, 0) := by decide +kernel
theorem c119_74 : zcod 119 74 = some (.getfield 101, 3, 9, 35, 831, 0) := by decide +kernel
theorem c119_77 : zcod 119 77 = some (.iaload, 1, 0, 0, 0, 0) := by decide +kernel
theorem c119_78 : zcod 119 78 = some (.iadd, 1, 0, 0, 0, 0) := by decide +kernel
theorem c119_79 : zcod 119 79 = some (.bipush 48, 2, 0, 0, 0, 0) := by decide +kernel
theorem c119_81 : zcod 119 81 = some (.isub, 1, 0, 0, 0, 0) := by decide +kernel
theorem c119_82 : zcod 119 82 = some (.goto 5, 3, 87, 0, 0, 0) := by decide +kernel
theorem c119_85 : zcod 119 85 = some (.iload 5, 2, 0, 0, 0, 0) := by decide +kernel
theorem c119_87 : zcod 119 87 = some (.istore 5, 2, 0, 0, 0, 0) := by decide +kernel
theorem c119_89 : zcod 119 89 = some (.aload_n 0, 1, 0, 0, 0, 0) := by decide +kernel
theorem c119_90 : zcod 119 90 = some (.dup, 1, 0, 0, 0, 0) := by decide +kernel
theorem c119_91 : zcod 119 91 = some (.getfield 101, 3, 9, 35, 831, 0) := by decide +kernel
theorem c119_94 : zcod 119 94 = some (.iconst 1, 1, 0, 0, 0, 0) := by decide +kernel
theorem c119_95 : zcod 119 95 = some (.iadd, 1, 0, 0, 0, 0) := by decide +kernel
theorem c119_96 : zcod 119 96 = some (.putfield 101, 3, 9, 35, 831, 0) := by decide +kernel
theorem c119_99 : zcod 119 99 = some (.goto (-79), 3, 20, 0, 0, 0) := by decide +kernel
theorem c119_102 : zcod 119 102 = some (.aload_n 0, 1, 0, 0, 0, 0) := by decide +kernel
theorem c119_103 : zcod 119 103 = some (.getfield 101, 3, 9, 35, 831, 0) := by decide +kernel
theorem c119_106 : zcod 119 106 = some (.iload 4, 2, 0, 0, 0, 0) := by decide +kernel
theorem c119_108 : zcod 119 108 = some (.if_icmp .ne 11, 3, 119, 0, 0, 0) := by decide +kernel
theorem c119_111 : zcod 119 111 = some (.aload_n 0, 1, 0, 0, 0, 0) := by decide +kernel
theorem c119_112 : zcod 119 112 = some (.iconst 1, 1, 0, 0, 0, 0) := by decide +kernel
theorem c119_113 : zcod 119 113 = some (.iload 4, 2, 0, 0, 0, 0) := by decide +kernel
theorem c119_115 : zcod 119 115 = some (.invokevirtual 111, 3, 118, 2, 945, 0) := by decide +kernel
theorem c119_118 : zcod 119 118 = some (.ireturn, 1, 0, 0, 0, 0) := by decide +kernel
theorem c119_119 : zcod 119 119 = some (.aload_n 0, 1, 0, 0, 0, 0) := by decide +kernel
theorem c119_120 : zcod 119 120 = some (.getfield 101, 3, 9, 35, 831, 0) := by decide +kernel
theorem c119_123 : zcod 119 123 = some (.iload 4, 2, 0, 0, 0, 0) := by decide +kernel
theorem c119_125 : zcod 119 125 = some (.isub, 1, 0, 0, 0, 0) := by decide +kernel
theorem c119_126 : zcod 119 126 = some (.iconst 2, 1, 0, 0, 0, 0) := by decide +kernel
theorem c119_127 : zcod 119 127 = some (.if_icmp .gt 24, 3, 151, 0, 0, 0) := by decide +kernel
theorem c119_130 : zcod 119 130 = some (.iload 5, 2, 0, 0, 0, 0) := by decide +kernel
theorem c119_132 : zcod 119 132 = some (.i2l, 1, 0, 0, 0, 0) := by decide +kernel
theorem c119_133 : zcod 119 133 = some (.iload_n 1, 1, 0, 0, 0, 0) := by decide +kernel
theorem c119_134 : zcod 119 134 = some (.iload_n 3, 1, 0, 0, 0, 0) := by decide +kernel
theorem c119_135 : zcod 119 135 = some (.invokestatic 115, 3, 120, 2, 955, 0) := by decide +kernel
theorem c119_138 : zcod 119 138 = some (.i2l, 1, 0, 0, 0, 0) := by decide +kernel
theorem c119_139 : zcod 119 139 = some (.iload_n 1, 1, 0, 0, 0, 0) := by decide +kernel
theorem c119_140 : zcod 119 140 = some (.iload_n 3, 1, 0, 0, 0, 0) := by decide +kernel
theorem c119_141 : zcod 119 141 = some (.invokestatic 118, 3, 121, 2, 958, 0) := by decide +kernel
theorem c119_144 : zcod 119 144 = some (.i2l, 1, 0, 0, 0, 0) := by decide +kernel
theorem c119_145 : zcod 119 145 = some (.invokestatic 92, 3, 113, 3, 925, 0) := by decide +kernel
theorem c119_148 : zcod 119 148 = some (.ifCond .ne 11, 3, 159, 0, 0, 0) := by decide +kernel
theorem c119_151 : zcod 119 151 = some (.aload_n 0, 1, 0, 0, 0, 0) := by decide +kernel
theorem c119_152 : zcod 119 152 = some (.iconst 2, 1, 0, 0, 0, 0) := by decide +kernel
theorem c119_153 : zcod 119 153 = some (.iload 4, 2, 0, 0, 0, 0) := by decide +kernel
theorem c119_155 : zcod 119 155 = some (.invokevirtual 111, 3, 118, 2, 945, 0) := by decide +kernel
theorem c119_158 : zcod 119 158 = some (.ireturn, 1, 0, 0, 0, 0) := by decide +kernel
theorem c119_159 : zcod 119 159 = some (.aload_n 0, 1, 0, 0, 0, 0) := by decide +kernel
theorem c119_160 : zcod 119 160 = some (.getfield 81, 3, 9, 38, 834, 0) := by decide +kernel
theorem c119_163 : zcod 119 163 = some (.iload_n 3, 1, 0, 0, 0, 0) := by decide +kernel
theorem c119_164 : zcod 119 164 = some (.iload 5, 2, 0, 0, 0, 0) := by decide +kernel
theorem c119_166 : zcod 119 166 = some (.iastore, 1, 0, 0, 0, 0) := by decide +kernel
theorem c119_167 : zcod 119 167 = some (.iload_n 3, 1, 0, 0, 0, 0) := by decide +kernel
theorem c119_168 : zcod 119 168 = some (.iload_n 2, 1, 0, 0, 0, 0) := by decide +kernel
theorem c119_169 : zcod 119 169 = some (.iconst 1, 1, 0, 0, 0, 0) := by decide +kernel
theorem c119_170 : zcod 119 170 = some (.isub, 1, 0, 0, 0, 0) := by decide +kernel
theorem c119_171 : zcod 119 171 = some (.if_icmp .ge 38, 3, 209, 0, 0, 0) := by decide +kernel
theorem c119_174 : zcod 119 174 = some (.aload_n 0, 1, 0, 0, 0, 0) := by decide +kernel
theorem c119_175 : zcod 119 175 = some (.getfield 101, 3, 9, 35, 831, 0) := by decide +kernel
theorem c119_178 : zcod 119 178 = some (.aload_n 0, 1, 0, 0, 0, 0) := by decide +kernel
theorem c119_179 : zcod 119 179 = some (.getfield 96, 3, 9, 1, 797, 0) := by decide +kernel
theorem c119_182 : zcod 119 182 = some (.if_icmp .eq 17, 3, 199, 0, 0, 0) := by decide +kernel
theorem c119_185 : zcod 119 185 = some (.aload_n 0, 1, 0, 0, 0, 0) := by decide +kernel
theorem c119_186 : zcod 119 186 = some (.getfield 7, 3, 9, 0, 796, 0) := by decide +kernel
theorem c119_189 : zcod 119 189 = some (.aload_n 0, 1, 0, 0, 0, 0) := by decide +kernel
theorem c119_190 : zcod 119 190 = some (.getfield 101, 3, 9, 35, 831, 0) := by decide +kernel
theorem c119_193 : zcod 119 193 = some (.iaload, 1, 0, 0, 0, 0) := by decide +kernel
theorem c119_194 : zcod 119 194 = some (.bipush 32, 2, 0, 0, 0, 0) := by decide +kernel
theorem c119_196 : zcod 119 196 = some (.if_icmp .eq 13, 3, 209, 0, 0, 0) := by decide +kernel
theorem c119_199 : zcod 119 199 = some (.aload_n 0, 1, 0, 0, 0, 0) := by decide +kernel
theorem c119_200 : zcod 119 200 = some (.iconst 1, 1, 0, 0, 0, 0) := by decide +kernel
theorem c119_201 : zcod 119 201 = some (.aload_n 0, 1, 0, 0, 0, 0) := by decide +kernel
theorem c119_202 : zcod 119 202 = some (.getfield 101, 3, 9, 35, 831, 0) := by decide +kernel
theorem c119_205 : zcod 119 205 = some (.invokevirtual 111, 3, 118, 2, 945, 0) := by decide +kernel
theorem c119_208 : zcod 119 208 = some (.ireturn, 1, 0, 0, 0, 0) := by decide +kernel
theorem c119_209 : zcod 119 209 = some (.iinc 3 1, 3, 0, 0, 0, 0) := by decide +kernel
theorem c119_212 : zcod 119 212 = some (.goto (-210), 3, 2, 0, 0, 0) := by decide +kernel
theorem c119_215 : zcod 119 215 = some (.iconst 0, 1, 0, 0, 0, 0) := by decide +kernel
theorem c119_216 : zcod 119 216 = some (.ireturn, 1, 0, 0, 0, 0) := by decide +kernel
set_option maxRecDepth 100000 in
theorem b119_0 (l0 : Option Nat) (l1 : Int32) (l2 : Int32) (h : zH) : zev 119 0 [some (vR l0), some (vI l1), some (vI l2), none, none, none] [] h = zev 119 2 [some (vR l0), some (vI l1), some (vI l2), some (vI 0), none, none] [] h := by
  refine (zv_k (v := 0) c119_0 (by decide)).trans ?_
  refine (zv_it c119_1 rfl).trans ?_
  rfl
theorem e119 (l0 : Option Nat) (l1 : Int32) (l2 : Int32) (h : zH) : zcall 119 [vR l0, vI l1, vI l2] h = zev 119 2 [some (vR l0), some (vI l1), some (vI l2), some (vI 0), none, none] [] h := by
  refine Eq.trans ?_ (b119_0 l0 l1 l2 h)
  unfold zcall zent
  rw [zL_119]
  rfl
set_option maxRecDepth 100000 in
theorem b119_2 (l0 : Option Nat) (l1 : Int32) (l2 : Int32) (l3 : Int32) (l4 : Option zV) (l5 : Option zV) (h : zH) : zev 119 2 [some (vR l0), some (vI l1), some (vI l2), some (vI l3), l4, l5] [] h = (if l3 < l2 then (zvr h l0 9 (zcV 116 [vR l0] h fun h1 => (zgI h1 l0 9 35 fun x2 => zev 119 20 [some (vR l0), some (vI l1), some (vI l2), some (vI l3), some (vI x2), some (vI 0)] [] h1))) else some (some (vI 0), h)) := by
  refine (zv_in c119_2 rfl).trans ?_
  refine (zv_in c119_3 rfl).trans ?_
  refine (zv_icge c119_4).trans (zif_c ?_ ?_)
  · refine (zv_an c119_7 rfl).trans ?_
    refine (zv_viV c119_8 zcn_116 rfl zL_116 zrt_116 rfl rfl).trans (zvr_c (zcV_c fun h1 => ?_))
    refine (zv_an c119_11 rfl).trans ?_
    refine (zv_gI c119_12 zg9_35).trans (zgI_c fun x2 => ?_)
    refine (zv_is c119_15 rfl).trans ?_
    refine (zv_k (v := 0) c119_17 (by decide)).trans ?_
    refine (zv_is c119_18 rfl).trans ?_
    rfl
  · refine (zv_k (v := 0) c119_215 (by decide)).trans ?_
    exact zv_ir c119_216 zrt_119
set_option maxRecDepth 100000 in
theorem b119_20 (l0 : Option Nat) (l1 : Int32) (l2 : Int32) (l3 : Int32) (l4 : Int32) (l5 : Int32) (h : zH) : zev 119 20 [some (vR l0), some (vI l1), some (vI l2), some (vI l3), some (vI l4), some (vI l5)] [] h = (zgI h l0 9 35 fun x1 => (zgI h l0 9 1 fun x2 => (if x1 < x2 then (zgR h l0 9 0 fun x3 => (zgI h l0 9 35 fun x4 => (zaI h x3 x4 fun x5 => (zcI 113 [vL (Int32.toInt64 x5), vL 48, vL 57] h fun x7 h6 => (if x7 = 0 then zev 119 102 [some (vR l0), some (vI l1), some (vI l2), some (vI l3), some (vI l4), some (vI l5)] [] h6 else (zgI h6 l0 9 35 fun x8 => (if (x8 - l4) < 2 then (zgR h6 l0 9 0 fun x9 => (zgI h6 l0 9 35 fun x10 => (zaI h6 x9 x10 fun x11 => (zgI h6 l0 9 35 fun x12 => (zpI h6 l0 9 35 (x12 + 1) fun h13 => zev 119 20 [some (vR l0), some (vI l1), some (vI l2), some (vI l3), some (vI l4), some (vI (((10 * l5) + x11) - 48))] [] h13))))) else (zgI h6 l0 9 35 fun x14 => (zpI h6 l0 9 35 (x14 + 1) fun h15 => zev 119 20 [some (vR l0), some (vI l1), some (vI l2), some (vI l3), some (vI l4), some (vI l5)] [] h15))))))))) else zev 119 102 [some (vR l0), some (vI l1), some (vI l2), some (vI l3), some (vI l4), some (vI l5)] [] h))) := by
  refine (zv_an c119_20 rfl).trans ?_
  refine (zv_gI c119_21 zg9_35).trans (zgI_c fun x1 => ?_)
  refine (zv_an c119_24 rfl).trans ?_
  refine (zv_gI c119_25 zg9_1).trans (zgI_c fun x2 => ?_)
  refine (zv_icge c119_28).trans (zif_c ?_ ?_)
  · refine (zv_an c119_31 rfl).trans ?_
    refine (zv_gR c119_32 zf9_0).trans (zgR_c fun x3 => ?_)
    refine (zv_an c119_35 rfl).trans ?_
    refine (zv_gI c119_36 zg9_35).trans (zgI_c fun x4 => ?_)
    refine (zv_aI c119_39).trans (zaI_c fun x5 => ?_)
    refine (zv_i2l c119_40).trans ?_
    refine (zv_ld2 (v := 48) c119_41 (by decide)).trans ?_
    refine (zv_ld2 (v := 57) c119_44 (by decide)).trans ?_
    refine (zv_stI c119_47 (by decide) rfl zL_113 (Or.inr zrt_113) rfl rfl).trans (zcI_c fun x7 h6 => ?_)
    refine (zv_ifeq c119_50).trans (zif_c ?_ ?_)
    · rfl
    · refine (zv_an c119_53 rfl).trans ?_
      refine (zv_gI c119_54 zg9_35).trans (zgI_c fun x8 => ?_)
      refine (zv_il c119_57 rfl).trans ?_
      refine (zv_isub c119_59).trans ?_
      refine (zv_k (v := 2) c119_60 (by decide)).trans ?_
      refine (zv_icge c119_61).trans (zif_c ?_ ?_)
      · refine (zv_bi (v := 10) c119_64 (by decide)).trans ?_
        refine (zv_il c119_66 rfl).trans ?_
        refine (zv_imul c119_68).trans ?_
        refine (zv_an c119_69 rfl).trans ?_
        refine (zv_gR c119_70 zf9_0).trans (zgR_c fun x9 => ?_)
        refine (zv_an c119_73 rfl).trans ?_
        refine (zv_gI c119_74 zg9_35).trans (zgI_c fun x10 => ?_)
        refine (zv_aI c119_77).trans (zaI_c fun x11 => ?_)
        refine (zv_iadd c119_78).trans ?_
        refine (zv_bi (v := 48) c119_79 (by decide)).trans ?_
        refine (zv_isub c119_81).trans ?_
        refine (zv_goto c119_82).trans ?_
        refine (zv_is c119_87 rfl).trans ?_
        refine (zv_an c119_89 rfl).trans ?_
        refine (zv_dup c119_90 rfl).trans ?_
        refine (zv_gI c119_91 zg9_35).trans (zgI_c fun x12 => ?_)
        refine (zv_k (v := 1) c119_94 (by decide)).trans ?_
        refine (zv_iadd c119_95).trans ?_
        refine (zv_pI c119_96 zf9_35).trans (zpI_c fun h13 => ?_)
        refine (zv_goto c119_99).trans ?_
        rfl
      · refine (zv_il c119_85 rfl).trans ?_
        refine (zv_is c119_87 rfl).trans ?_
        refine (zv_an c119_89 rfl).trans ?_
        refine (zv_dup c119_90 rfl).trans ?_
        refine (zv_gI c119_91 zg9_35).trans (zgI_c fun x14 => ?_)
        refine (zv_k (v := 1) c119_94 (by decide)).trans ?_
        refine (zv_iadd c119_95).trans ?_
        refine (zv_pI c119_96 zf9_35).trans (zpI_c fun h15 => ?_)
        refine (zv_goto c119_99).trans ?_
        rfl
  · rfl
set_option maxRecDepth 100000 in
theorem b119_102 (l0 : Option Nat) (l1 : Int32) (l2 : Int32) (l3 : Int32) (l4 : Int32) (l5 : Int32) (h : zH) : zev 119 102 [some (vR l0), some (vI l1), some (vI l2), some (vI l3), some (vI l4), some (vI l5)] [] h = (zgI h l0 9 35 fun x1 => (if x1 = l4 then (zvr h l0 9 (zcI 118 [vR l0, vI 1, vI l4] h fun x3 h2 => some (some (vI x3), h2))) else (zgI h l0 9 35 fun x4 => (if 2 < (x4 - l4) then (zvr h l0 9 (zcI 118 [vR l0, vI 2, vI l4] h fun x6 h5 => some (some (vI x6), h5))) else (zcI 120 [vI l1, vI l3] h fun x8 h7 => (zcI 121 [vI l1, vI l3] h7 fun x10 h9 => (zcI 113 [vL (Int32.toInt64 l5), vL (Int32.toInt64 x8), vL (Int32.toInt64 x10)] h9 fun x12 h11 => (if x12 = 0 then (zvr h11 l0 9 (zcI 118 [vR l0, vI 2, vI l4] h11 fun x14 h13 => some (some (vI x14), h13))) else (zgR h11 l0 9 38 fun x15 => (ztI h11 x15 l3 l5 fun h16 => (if l3 < (l2 - 1) then (zgI h16 l0 9 35 fun x17 => (zgI h16 l0 9 1 fun x18 => (if x17 = x18 then (zgI h16 l0 9 35 fun x19 => (zvr h16 l0 9 (zcI 118 [vR l0, vI 1, vI x19] h16 fun x21 h20 => some (some (vI x21), h20)))) else (zgR h16 l0 9 0 fun x22 => (zgI h16 l0 9 35 fun x23 => (zaI h16 x22 x23 fun x24 => (if x24 = 32 then zev 119 2 [some (vR l0), some (vI l1), some (vI l2), some (vI (l3 + 1)), some (vI l4), some (vI l5)] [] h16 else (zgI h16 l0 9 35 fun x25 => (zvr h16 l0 9 (zcI 118 [vR l0, vI 1, vI x25] h16 fun x27 h26 => some (some (vI x27), h26))))))))))) else zev 119 2 [some (vR l0), some (vI l1), some (vI l2), some (vI (l3 + 1)), some (vI l4), some (vI l5)] [] h16))))))))))) := by
  refine (zv_an c119_102 rfl).trans ?_
  refine (zv_gI c119_103 zg9_35).trans (zgI_c fun x1 => ?_)
  refine (zv_il c119_106 rfl).trans ?_
  refine (zv_icne c119_108).trans (zif_c ?_ ?_)
  · refine (zv_an c119_111 rfl).trans ?_
    refine (zv_k (v := 1) c119_112 (by decide)).trans ?_
    refine (zv_il c119_113 rfl).trans ?_
    refine (zv_viI c119_115 zcn_118 rfl zL_118 (Or.inl zrt_118) rfl rfl).trans (zvr_c (zcI_c fun x3 h2 => ?_))
    exact zv_ir c119_118 zrt_119
  · refine (zv_an c119_119 rfl).trans ?_
    refine (zv_gI c119_120 zg9_35).trans (zgI_c fun x4 => ?_)
    refine (zv_il c119_123 rfl).trans ?_
    refine (zv_isub c119_125).trans ?_
    refine (zv_k (v := 2) c119_126 (by decide)).trans ?_
    refine (zv_icgt c119_127).trans (zif_c ?_ ?_)
    · refine (zv_an c119_151 rfl).trans ?_
      refine (zv_k (v := 2) c119_152 (by decide)).trans ?_
      refine (zv_il c119_153 rfl).trans ?_
      refine (zv_viI c119_155 zcn_118 rfl zL_118 (Or.inl zrt_118) rfl rfl).trans (zvr_c (zcI_c fun x6 h5 => ?_))
      exact zv_ir c119_158 zrt_119
    · refine (zv_il c119_130 rfl).trans ?_
      refine (zv_i2l c119_132).trans ?_
      refine (zv_in c119_133 rfl).trans ?_
      refine (zv_in c119_134 rfl).trans ?_
      refine (zv_stI c119_135 (by decide) rfl zL_120 (Or.inl zrt_120) rfl rfl).trans (zcI_c fun x8 h7 => ?_)
      refine (zv_i2l c119_138).trans ?_
      refine (zv_in c119_139 rfl).trans ?_
      refine (zv_in c119_140 rfl).trans ?_
      refine (zv_stI c119_141 (by decide) rfl zL_121 (Or.inl zrt_121) rfl rfl).trans (zcI_c fun x10 h9 => ?_)
      refine (zv_i2l c119_144).trans ?_
      refine (zv_stI c119_145 (by decide) rfl zL_113 (Or.inr zrt_113) rfl rfl).trans (zcI_c fun x12 h11 => ?_)
      refine (zv_ifne c119_148).trans (zif_c ?_ ?_)
      · refine (zv_an c119_151 rfl).trans ?_
        refine (zv_k (v := 2) c119_152 (by decide)).trans ?_
        refine (zv_il c119_153 rfl).trans ?_
        refine (zv_viI c119_155 zcn_118 rfl zL_118 (Or.inl zrt_118) rfl rfl).trans (zvr_c (zcI_c fun x14 h13 => ?_))
        exact zv_ir c119_158 zrt_119
      · refine (zv_an c119_159 rfl).trans ?_
        refine (zv_gR c119_160 zf9_38).trans (zgR_c fun x15 => ?_)
        refine (zv_in c119_163 rfl).trans ?_
        refine (zv_il c119_164 rfl).trans ?_
        refine (zv_tI c119_166).trans (ztI_c fun h16 => ?_)
        refine (zv_in c119_167 rfl).trans ?_
        refine (zv_in c119_168 rfl).trans ?_
        refine (zv_k (v := 1) c119_169 (by decide)).trans ?_
        refine (zv_isub c119_170).trans ?_
        refine (zv_icge c119_171).trans (zif_c ?_ ?_)
        · refine (zv_an c119_174 rfl).trans ?_
          refine (zv_gI c119_175 zg9_35).trans (zgI_c fun x17 => ?_)
          refine (zv_an c119_178 rfl).trans ?_
          refine (zv_gI c119_179 zg9_1).trans (zgI_c fun x18 => ?_)
          refine (zv_iceq c119_182).trans (zif_c ?_ ?_)
          · refine (zv_an c119_199 rfl).trans ?_
            refine (zv_k (v := 1) c119_200 (by decide)).trans ?_
            refine (zv_an c119_201 rfl).trans ?_
            refine (zv_gI c119_202 zg9_35).trans (zgI_c fun x19 => ?_)
            refine (zv_viI c119_205 zcn_118 rfl zL_118 (Or.inl zrt_118) rfl rfl).trans (zvr_c (zcI_c fun x21 h20 => ?_))
            exact zv_ir c119_208 zrt_119
          · refine (zv_an c119_185 rfl).trans ?_
            refine (zv_gR c119_186 zf9_0).trans (zgR_c fun x22 => ?_)
            refine (zv_an c119_189 rfl).trans ?_
            refine (zv_gI c119_190 zg9_35).trans (zgI_c fun x23 => ?_)
            refine (zv_aI c119_193).trans (zaI_c fun x24 => ?_)
            refine (zv_bi (v := 32) c119_194 (by decide)).trans ?_
            refine (zv_iceq c119_196).trans (zif_c ?_ ?_)
            · refine (zv_inc (y := 1) c119_209 rfl (by decide) rfl).trans ?_
              refine (zv_goto c119_212).trans ?_
              rfl
            · refine (zv_an c119_199 rfl).trans ?_
              refine (zv_k (v := 1) c119_200 (by decide)).trans ?_
              refine (zv_an c119_201 rfl).trans ?_
              refine (zv_gI c119_202 zg9_35).trans (zgI_c fun x25 => ?_)
              refine (zv_viI c119_205 zcn_118 rfl zL_118 (Or.inl zrt_118) rfl rfl).trans (zvr_c (zcI_c fun x27 h26 => ?_))
              exact zv_ir c119_208 zrt_119
        · refine (zv_inc (y := 1) c119_209 rfl (by decide) rfl).trans ?_
          refine (zv_goto c119_212).trans ?_
          rfl
