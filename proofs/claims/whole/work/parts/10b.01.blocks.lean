theorem c50_0 : zcod 50 0 = some (.iload_n 1, 1, 0, 0, 0, 0) := by decide +kernel
theorem c50_1 : zcod 50 1 = some (.ifCond .lt 28, 3, 29, 0, 0, 0) := by decide +kernel
theorem c50_4 : zcod 50 4 = some (.iload_n 1, 1, 0, 0, 0, 0) := by decide +kernel
theorem c50_5 : zcod 50 5 = some (.aload_n 0, 1, 0, 0, 0, 0) := by decide +kernel
theorem c50_6 : zcod 50 6 = some (.getfield 22, 3, 5, 2, 147, 0) := by decide +kernel
theorem c50_9 : zcod 50 9 = some (.invokevirtual 36, 3, 14, 0, 300, 0) := by decide +kernel
theorem c50_12 : zcod 50 12 = some (.if_icmp .ge 17, 3, 29, 0, 0, 0) := by decide +kernel
theorem c50_15 : zcod 50 15 = some (.aload_n 0, 1, 0, 0, 0, 0) := by decide +kernel
theorem c50_16 : zcod 50 16 = some (.getfield 22, 3, 5, 2, 147, 0) := by decide +kernel
theorem c50_19 : zcod 50 19 = some (.iload_n 1, 1, 0, 0, 0, 0) := by decide +kernel
theorem c50_20 : zcod 50 20 = some (.invokevirtual 40, 3, 51, 1, 503, 0) := by decide +kernel
theorem c50_23 : zcod 50 23 = some (.checkcast 44, 3, 2, 0, 301, 0) := by decide +kernel
theorem c50_26 : zcod 50 26 = some (.goto 4, 3, 30, 0, 0, 0) := by decide +kernel
theorem c50_29 : zcod 50 29 = some (.aconst_null, 1, 0, 0, 0, 0) := by decide +kernel
theorem c50_30 : zcod 50 30 = some (.areturn, 1, 0, 0, 0, 0) := by decide +kernel
set_option maxRecDepth 100000 in
theorem b50_0 (l0 : Option Nat) (l1 : Int32) (h : zH) : zev 50 0 [some (vR l0), some (vI l1)] [] h = (if l1 < 0 then some (some (vR none), h) else (zgR h l0 5 2 fun x1 => (zvr h x1 0 (zcI 14 [vR x1] h fun x3 h2 => (if l1 < x3 then (zgR h2 l0 5 2 fun x4 => (zvr h2 x4 0 (zcR 51 [vR x4, vI l1] h2 fun x6 h5 => (zca h5 2 x6 (some (some (vR x6), h5)))))) else some (some (vR none), h2)))))) := by
  refine (zv_in c50_0 rfl).trans ?_
  refine (zv_iflt c50_1).trans (zif_c ?_ ?_)
  · refine (zv_null c50_29).trans ?_
    exact zv_ar c50_30 zrt_50
  · refine (zv_in c50_4 rfl).trans ?_
    refine (zv_an c50_5 rfl).trans ?_
    refine (zv_gR c50_6 zf5_2).trans (zgR_c fun x1 => ?_)
    refine (zv_viI c50_9 zcn_14 rfl zL_14 (Or.inl zrt_14) rfl rfl).trans (zvr_c (zcI_c fun x3 h2 => ?_))
    refine (zv_icge c50_12).trans (zif_c ?_ ?_)
    · refine (zv_an c50_15 rfl).trans ?_
      refine (zv_gR c50_16 zf5_2).trans (zgR_c fun x4 => ?_)
      refine (zv_in c50_19 rfl).trans ?_
      refine (zv_viR c50_20 zcn_51 rfl zL_51 zrt_51 rfl rfl).trans (zvr_c (zcR_c fun x6 h5 => ?_))
      refine (zv_ca c50_23).trans (zca_c ?_)
      refine (zv_goto c50_26).trans ?_
      exact zv_ar c50_30 zrt_50
    · refine (zv_null c50_29).trans ?_
      exact zv_ar c50_30 zrt_50
theorem e50 (l0 : Option Nat) (l1 : Int32) (h : zH) : zcall 50 [vR l0, vI l1] h = (if l1 < 0 then some (some (vR none), h) else (zgR h l0 5 2 fun x1 => (zvr h x1 0 (zcI 14 [vR x1] h fun x3 h2 => (if l1 < x3 then (zgR h2 l0 5 2 fun x4 => (zvr h2 x4 0 (zcR 51 [vR x4, vI l1] h2 fun x6 h5 => (zca h5 2 x6 (some (some (vR x6), h5)))))) else some (some (vR none), h2)))))) := by
  refine Eq.trans ?_ (b50_0 l0 l1 h)
  unfold zcall zent
  rw [zL_50]
  rfl
theorem c51_0 : zcod 51 0 = some (.iload_n 1, 1, 0, 0, 0, 0) := by decide +kernel
theorem c51_1 : zcod 51 1 = some (.aload_n 0, 1, 0, 0, 0, 0) := by decide +kernel
theorem c51_2 : zcod 51 2 = some (.getfield 48, 3, 0, 2, 130, 0) := by decide +kernel
theorem c51_5 : zcod 51 5 = some (.invokestatic 118, 3, 44, 2, 473, 0) := by decide +kernel
theorem c51_8 : zcod 51 8 = some (.pop, 1, 0, 0, 0, 0) := by decide +kernel
theorem c51_9 : zcod 51 9 = some (.aload_n 0, 1, 0, 0, 0, 0) := by decide +kernel
theorem c51_10 : zcod 51 10 = some (.iload_n 1, 1, 0, 0, 0, 0) := by decide +kernel
theorem c51_11 : zcod 51 11 = some (.invokevirtual 123, 3, 52, 1, 507, 0) := by decide +kernel
theorem c51_14 : zcod 51 14 = some (.areturn, 1, 0, 0, 0, 0) := by decide +kernel
set_option maxRecDepth 100000 in
theorem b51_0 (l0 : Option Nat) (l1 : Int32) (h : zH) : zev 51 0 [some (vR l0), some (vI l1)] [] h = (zgI h l0 0 2 fun x1 => (zcI 44 [vI l1, vI x1] h fun x3 h2 => (zvr h2 l0 0 (zcR 52 [vR l0, vI l1] h2 fun x5 h4 => some (some (vR x5), h4))))) := by
  refine (zv_in c51_0 rfl).trans ?_
  refine (zv_an c51_1 rfl).trans ?_
  refine (zv_gI c51_2 zg0_2).trans (zgI_c fun x1 => ?_)
  refine (zv_stI c51_5 (by decide) rfl zL_44 (Or.inl zrt_44) rfl rfl).trans (zcI_c fun x3 h2 => ?_)
  refine (zv_pop c51_8 rfl).trans ?_
  refine (zv_an c51_9 rfl).trans ?_
  refine (zv_in c51_10 rfl).trans ?_
  refine (zv_viR c51_11 zcn_52 rfl zL_52 zrt_52 rfl rfl).trans (zvr_c (zcR_c fun x5 h4 => ?_))
  exact zv_ar c51_14 zrt_51
theorem e51 (l0 : Option Nat) (l1 : Int32) (h : zH) : zcall 51 [vR l0, vI l1] h = (zgI h l0 0 2 fun x1 => (zcI 44 [vI l1, vI x1] h fun x3 h2 => (zvr h2 l0 0 (zcR 52 [vR l0, vI l1] h2 fun x5 h4 => some (some (vR x5), h4))))) := by
  refine Eq.trans ?_ (b51_0 l0 l1 h)
  unfold zcall zent
  rw [zL_51]
  rfl
theorem c52_0 : zcod 52 0 = some (.aload_n 0, 1, 0, 0, 0, 0) := by decide +kernel
theorem c52_1 : zcod 52 1 = some (.getfield 9, 3, 0, 1, 129, 0) := by decide +kernel
theorem c52_4 : zcod 52 4 = some (.iload_n 1, 1, 0, 0, 0, 0) := by decide +kernel
theorem c52_5 : zcod 52 5 = some (.aaload, 1, 0, 0, 0, 0) := by decide +kernel
theorem c52_6 : zcod 52 6 = some (.areturn, 1, 0, 0, 0, 0) := by decide +kernel
set_option maxRecDepth 100000 in
theorem b52_0 (l0 : Option Nat) (l1 : Int32) (h : zH) : zev 52 0 [some (vR l0), some (vI l1)] [] h = (zgR h l0 0 1 fun x1 => (zaR h x1 l1 fun x2 => some (some (vR x2), h))) := by
  refine (zv_an c52_0 rfl).trans ?_
  refine (zv_gR c52_1 zf0_1).trans (zgR_c fun x1 => ?_)
  refine (zv_in c52_4 rfl).trans ?_
  refine (zv_aR c52_5).trans (zaR_c fun x2 => ?_)
  exact zv_ar c52_6 zrt_52
theorem e52 (l0 : Option Nat) (l1 : Int32) (h : zH) : zcall 52 [vR l0, vI l1] h = (zgR h l0 0 1 fun x1 => (zaR h x1 l1 fun x2 => some (some (vR x2), h))) := by
  refine Eq.trans ?_ (b52_0 l0 l1 h)
  unfold zcall zent
  rw [zL_52]
  rfl
theorem c53_0 : zcod 53 0 = some (.iconst 2, 1, 0, 0, 0, 0) := by decide +kernel
theorem c53_1 : zcod 53 1 = some (.aload_n 0, 1, 0, 0, 0, 0) := by decide +kernel
theorem c53_2 : zcod 53 2 = some (.getfield 34, 3, 2, 2, 315, 0) := by decide +kernel
theorem c53_5 : zcod 53 5 = some (.imul, 1, 0, 0, 0, 0) := by decide +kernel
theorem c53_6 : zcod 53 6 = some (.aload_n 0, 1, 0, 0, 0, 0) := by decide +kernel
theorem c53_7 : zcod 53 7 = some (.getfield 37, 3, 2, 3, 317, 0) := by decide +kernel
theorem c53_10 : zcod 53 10 = some (.imul, 1, 0, 0, 0, 0) := by decide +kernel
theorem c53_11 : zcod 53 11 = some (.aload_n 0, 1, 0, 0, 0, 0) := by decide +kernel
theorem c53_12 : zcod 53 12 = some (.getfield 44, 3, 2, 5, 321, 0) := by decide +kernel
theorem c53_15 : zcod 53 15 = some (.iadd, 1, 0, 0, 0, 0) := by decide +kernel
theorem c53_16 : zcod 53 16 = some (.ireturn, 1, 0, 0, 0, 0) := by decide +kernel
set_option maxRecDepth 100000 in
theorem b53_0 (l0 : Option Nat) (h : zH) : zev 53 0 [some (vR l0)] [] h = (zgI h l0 2 2 fun x1 => (zgI h l0 2 3 fun x2 => (zgI h l0 2 5 fun x3 => some (some (vI (((2 * x1) * x2) + x3)), h)))) := by
  refine (zv_k (v := 2) c53_0 (by decide)).trans ?_
  refine (zv_an c53_1 rfl).trans ?_
  refine (zv_gI c53_2 zg2_2).trans (zgI_c fun x1 => ?_)
  refine (zv_imul c53_5).trans ?_
  refine (zv_an c53_6 rfl).trans ?_
  refine (zv_gI c53_7 zg2_3).trans (zgI_c fun x2 => ?_)
  refine (zv_imul c53_10).trans ?_
  refine (zv_an c53_11 rfl).trans ?_
  refine (zv_gI c53_12 zg2_5).trans (zgI_c fun x3 => ?_)
  refine (zv_iadd c53_15).trans ?_
  exact zv_ir c53_16 zrt_53
theorem e53 (l0 : Option Nat) (h : zH) : zcall 53 [vR l0] h = (zgI h l0 2 2 fun x1 => (zgI h l0 2 3 fun x2 => (zgI h l0 2 5 fun x3 => some (some (vI (((2 * x1) * x2) + x3)), h)))) := by
  refine Eq.trans ?_ (b53_0 l0 h)
  unfold zcall zent
  rw [zL_53]
  rfl
theorem c54_0 : zcod 54 0 = some (.aload_n 1, 1, 0, 0, 0, 0) := by decide +kernel
theorem c54_1 : zcod 54 1 = some (.getfield 78, 3, 2, 0, 311, 0) := by decide +kernel
theorem c54_4 : zcod 54 4 = some (.aload_n 0, 1, 0, 0, 0, 0) := by decide +kernel
theorem c54_5 : zcod 54 5 = some (.getfield 81, 3, 5, 4, 155, 0) := by decide +kernel
theorem c54_8 : zcod 54 8 = some (.bipush 20, 2, 0, 0, 0, 0) := by decide +kernel
theorem c54_10 : zcod 54 10 = some (.irem, 1, 0, 0, 0, 0) := by decide +kernel
theorem c54_11 : zcod 54 11 = some (.isub, 1, 0, 0, 0, 0) := by decide +kernel
theorem c54_12 : zcod 54 12 = some (.invokestatic 84, 3, 55, 1, 519, 0) := by decide +kernel
theorem c54_15 : zcod 54 15 = some (.aload_n 1, 1, 0, 0, 0, 0) := by decide +kernel
theorem c54_16 : zcod 54 16 = some (.getfield 90, 3, 2, 1, 314, 0) := by decide +kernel
theorem c54_19 : zcod 54 19 = some (.aload_n 0, 1, 0, 0, 0, 0) := by decide +kernel
theorem c54_20 : zcod 54 20 = some (.getfield 81, 3, 5, 4, 155, 0) := by decide +kernel
theorem c54_23 : zcod 54 23 = some (.bipush 20, 2, 0, 0, 0, 0) := by decide +kernel
theorem c54_25 : zcod 54 25 = some (.idiv, 1, 0, 0, 0, 0) := by decide +kernel
theorem c54_26 : zcod 54 26 = some (.isub, 1, 0, 0, 0, 0) := by decide +kernel
theorem c54_27 : zcod 54 27 = some (.invokestatic 84, 3, 55, 1, 519, 0) := by decide +kernel
theorem c54_30 : zcod 54 30 = some (.iadd, 1, 0, 0, 0, 0) := by decide +kernel
theorem c54_31 : zcod 54 31 = some (.istore_n 2, 1, 0, 0, 0, 0) := by decide +kernel
theorem c54_32 : zcod 54 32 = some (.bipush 10, 2, 0, 0, 0, 0) := by decide +kernel
theorem c54_34 : zcod 54 34 = some (.aload_n 1, 1, 0, 0, 0, 0) := by decide +kernel
theorem c54_35 : zcod 54 35 = some (.invokevirtual 93, 3, 53, 0, 522, 0) := by decide +kernel
theorem c54_38 : zcod 54 38 = some (.imul, 1, 0, 0, 0, 0) := by decide +kernel
theorem c54_39 : zcod 54 39 = some (.sipush 200, 3, 0, 0, 0, 0) := by decide +kernel
theorem c54_42 : zcod 54 42 = some (.iconst 1, 1, 0, 0, 0, 0) := by decide +kernel
theorem c54_43 : zcod 54 43 = some (.iconst 1, 1, 0, 0, 0, 0) := by decide +kernel
theorem c54_44 : zcod 54 44 = some (.iload_n 2, 1, 0, 0, 0, 0) := by decide +kernel
theorem c54_45 : zcod 54 45 = some (.iadd, 1, 0, 0, 0, 0) := by decide +kernel
theorem c54_46 : zcod 54 46 = some (.invokestatic 96, 3, 34, 2, 523, 0) := by decide +kernel
theorem c54_49 : zcod 54 49 = some (.idiv, 1, 0, 0, 0, 0) := by decide +kernel
theorem c54_50 : zcod 54 50 = some (.iadd, 1, 0, 0, 0, 0) := by decide +kernel
theorem c54_51 : zcod 54 51 = some (.istore_n 3, 1, 0, 0, 0, 0) := by decide +kernel
theorem c54_52 : zcod 54 52 = some (.iload_n 3, 1, 0, 0, 0, 0) := by decide +kernel
theorem c54_53 : zcod 54 53 = some (.bipush 15, 2, 0, 0, 0, 0) := by decide +kernel
theorem c54_55 : zcod 54 55 = some (.aload_n 0, 1, 0, 0, 0, 0) := by decide +kernel
theorem c54_56 : zcod 54 56 = some (.aload_n 1, 1, 0, 0, 0, 0) := by decide +kernel
theorem c54_57 : zcod 54 57 = some (.invokevirtual 99, 3, 56, 1, 524, 0) := by decide +kernel
theorem c54_60 : zcod 54 60 = some (.imul, 1, 0, 0, 0, 0) := by decide +kernel
theorem c54_61 : zcod 54 61 = some (.iadd, 1, 0, 0, 0, 0) := by decide +kernel
theorem c54_62 : zcod 54 62 = some (.istore_n 3, 1, 0, 0, 0, 0) := by decide +kernel
theorem c54_63 : zcod 54 63 = some (.aload_n 0, 1, 0, 0, 0, 0) := by decide +kernel
theorem c54_64 : zcod 54 64 = some (.aload_n 1, 1, 0, 0, 0, 0) := by decide +kernel
theorem c54_65 : zcod 54 65 = some (.invokevirtual 103, 3, 58, 1, 532, 0) := by decide +kernel
theorem c54_68 : zcod 54 68 = some (.ifCond .eq 10, 3, 78, 0, 0, 0) := by decide +kernel
theorem c54_71 : zcod 54 71 = some (.iload_n 3, 1, 0, 0, 0, 0) := by decide +kernel
theorem c54_72 : zcod 54 72 = some (.bipush 30, 2, 0, 0, 0, 0) := by decide +kernel
theorem c54_74 : zcod 54 74 = some (.iadd, 1, 0, 0, 0, 0) := by decide +kernel
theorem c54_75 : zcod 54 75 = some (.goto 4, 3, 79, 0, 0, 0) := by decide +kernel
theorem c54_78 : zcod 54 78 = some (.iload_n 3, 1, 0, 0, 0, 0) := by decide +kernel
theorem c54_79 : zcod 54 79 = some (.ireturn, 1, 0, 0, 0, 0) := by decide +kernel
set_option maxRecDepth 100000 in
theorem b54_0 (l0 : Option Nat) (l1 : Option Nat) (h : zH) : zev 54 0 [some (vR l0), some (vR l1), none, none] [] h = (zgI h l1 2 0 fun x1 => (zgI h l0 5 4 fun x2 => (zdv 20 ((zcI 55 [vI (x1 - (x2 - x2 / 20 * 20))] h fun x4 h3 => (zgI h3 l1 2 1 fun x5 => (zgI h3 l0 5 4 fun x6 => (zdv 20 ((zcI 55 [vI (x5 - (x6 / 20))] h3 fun x8 h7 => (zvr h7 l1 2 (zcI 53 [vR l1] h7 fun x10 h9 => (zcI 34 [vI 1, vI (1 + (x4 + x8))] h9 fun x12 h11 => (zdv x12 ((zvr h11 l0 5 (zcI 56 [vR l0, vR l1] h11 fun x14 h13 => (zvr h13 l0 5 (zcI 58 [vR l0, vR l1] h13 fun x16 h15 => (if x16 = 0 then some (some (vI (((10 * x10) + (200 / x12)) + (15 * x14))), h15) else some (some (vI ((((10 * x10) + (200 / x12)) + (15 * x14)) + 30)), h15))))))))))))))))))))) := by
  refine (zv_an c54_0 rfl).trans ?_
  refine (zv_gI c54_1 zg2_0).trans (zgI_c fun x1 => ?_)
  refine (zv_an c54_4 rfl).trans ?_
  refine (zv_gI c54_5 zg5_4).trans (zgI_c fun x2 => ?_)
  refine (zv_bi (v := 20) c54_8 (by decide)).trans ?_
  refine (zv_rem c54_10).trans (zdv_c ?_)
  refine (zv_isub c54_11).trans ?_
  refine (zv_stI c54_12 (by decide) rfl zL_55 (Or.inl zrt_55) rfl rfl).trans (zcI_c fun x4 h3 => ?_)
  refine (zv_an c54_15 rfl).trans ?_
  refine (zv_gI c54_16 zg2_1).trans (zgI_c fun x5 => ?_)
  refine (zv_an c54_19 rfl).trans ?_
  refine (zv_gI c54_20 zg5_4).trans (zgI_c fun x6 => ?_)
  refine (zv_bi (v := 20) c54_23 (by decide)).trans ?_
  refine (zv_div c54_25).trans (zdv_c ?_)
  refine (zv_isub c54_26).trans ?_
  refine (zv_stI c54_27 (by decide) rfl zL_55 (Or.inl zrt_55) rfl rfl).trans (zcI_c fun x8 h7 => ?_)
  refine (zv_iadd c54_30).trans ?_
  refine (zv_it c54_31 rfl).trans ?_
  refine (zv_bi (v := 10) c54_32 (by decide)).trans ?_
  refine (zv_an c54_34 rfl).trans ?_
  refine (zv_viI c54_35 zcn_53 rfl zL_53 (Or.inl zrt_53) rfl rfl).trans (zvr_c (zcI_c fun x10 h9 => ?_))
  refine (zv_imul c54_38).trans ?_
  refine (zv_si (v := 200) c54_39 (by decide)).trans ?_
  refine (zv_k (v := 1) c54_42 (by decide)).trans ?_
  refine (zv_k (v := 1) c54_43 (by decide)).trans ?_
  refine (zv_in c54_44 rfl).trans ?_
  refine (zv_iadd c54_45).trans ?_
  refine (zv_stI c54_46 (by decide) rfl zL_34 (Or.inl zrt_34) rfl rfl).trans (zcI_c fun x12 h11 => ?_)
  refine (zv_div c54_49).trans (zdv_c ?_)
  refine (zv_iadd c54_50).trans ?_
  refine (zv_it c54_51 rfl).trans ?_
  refine (zv_in c54_52 rfl).trans ?_
  refine (zv_bi (v := 15) c54_53 (by decide)).trans ?_
  refine (zv_an c54_55 rfl).trans ?_
  refine (zv_an c54_56 rfl).trans ?_
  refine (zv_viI c54_57 zcn_56 rfl zL_56 (Or.inl zrt_56) rfl rfl).trans (zvr_c (zcI_c fun x14 h13 => ?_))
  refine (zv_imul c54_60).trans ?_
  refine (zv_iadd c54_61).trans ?_
  refine (zv_it c54_62 rfl).trans ?_
  refine (zv_an c54_63 rfl).trans ?_
  refine (zv_an c54_64 rfl).trans ?_
  refine (zv_viI c54_65 zcn_58 rfl zL_58 (Or.inr zrt_58) rfl rfl).trans (zvr_c (zcI_c fun x16 h15 => ?_))
  refine (zv_ifeq c54_68).trans (zif_c ?_ ?_)
  · refine (zv_in c54_78 rfl).trans ?_
    exact zv_ir c54_79 zrt_54
  · refine (zv_in c54_71 rfl).trans ?_
    refine (zv_bi (v := 30) c54_72 (by decide)).trans ?_
    refine (zv_iadd c54_74).trans ?_
    refine (zv_goto c54_75).trans ?_
    exact zv_ir c54_79 zrt_54
theorem e54 (l0 : Option Nat) (l1 : Option Nat) (h : zH) : zcall 54 [vR l0, vR l1] h = (zgI h l1 2 0 fun x1 => (zgI h l0 5 4 fun x2 => (zdv 20 ((zcI 55 [vI (x1 - (x2 - x2 / 20 * 20))] h fun x4 h3 => (zgI h3 l1 2 1 fun x5 => (zgI h3 l0 5 4 fun x6 => (zdv 20 ((zcI 55 [vI (x5 - (x6 / 20))] h3 fun x8 h7 => (zvr h7 l1 2 (zcI 53 [vR l1] h7 fun x10 h9 => (zcI 34 [vI 1, vI (1 + (x4 + x8))] h9 fun x12 h11 => (zdv x12 ((zvr h11 l0 5 (zcI 56 [vR l0, vR l1] h11 fun x14 h13 => (zvr h13 l0 5 (zcI 58 [vR l0, vR l1] h13 fun x16 h15 => (if x16 = 0 then some (some (vI (((10 * x10) + (200 / x12)) + (15 * x14))), h15) else some (some (vI ((((10 * x10) + (200 / x12)) + (15 * x14)) + 30)), h15))))))))))))))))))))) := by
  refine Eq.trans ?_ (b54_0 l0 l1 h)
  unfold zcall zent
  rw [zL_54]
  rfl
theorem c55_0 : zcod 55 0 = some (.iload_n 0, 1, 0, 0, 0, 0) := by decide +kernel
theorem c55_1 : zcod 55 1 = some (.ifCond .ge 8, 3, 9, 0, 0, 0) := by decide +kernel
theorem c55_4 : zcod 55 4 = some (.iload_n 0, 1, 0, 0, 0, 0) := by decide +kernel
theorem c55_5 : zcod 55 5 = some (.ineg, 1, 0, 0, 0, 0) := by decide +kernel
theorem c55_6 : zcod 55 6 = some (.goto 4, 3, 10, 0, 0, 0) := by decide +kernel
theorem c55_9 : zcod 55 9 = some (.iload_n 0, 1, 0, 0, 0, 0) := by decide +kernel
theorem c55_10 : zcod 55 10 = some (.ireturn, 1, 0, 0, 0, 0) := by decide +kernel
set_option maxRecDepth 100000 in
theorem b55_0 (l0 : Int32) (h : zH) : zev 55 0 [some (vI l0)] [] h = (if l0 < 0 then some (some (vI (-l0)), h) else some (some (vI l0), h)) := by
  refine (zv_in c55_0 rfl).trans ?_
  refine (zv_ifge c55_1).trans (zif_c ?_ ?_)
  · refine (zv_in c55_4 rfl).trans ?_
    refine (zv_ineg c55_5).trans ?_
    refine (zv_goto c55_6).trans ?_
    exact zv_ir c55_10 zrt_55
  · refine (zv_in c55_9 rfl).trans ?_
    exact zv_ir c55_10 zrt_55
theorem e55 (l0 : Int32) (h : zH) : zcall 55 [vI l0] h = (if l0 < 0 then some (some (vI (-l0)), h) else some (some (vI l0), h)) := by
  refine Eq.trans ?_ (b55_0 l0 h)
  unfold zcall zent
  rw [zL_55]
  rfl
theorem c56_0 : zcod 56 0 = some (.iconst 0, 1, 0, 0, 0, 0) := by decide +kernel
theorem c56_1 : zcod 56 1 = some (.istore_n 2, 1, 0, 0, 0, 0) := by decide +kernel
theorem c56_2 : zcod 56 2 = some (.iconst 0, 1, 0, 0, 0, 0) := by decide +kernel
theorem c56_3 : zcod 56 3 = some (.istore_n 3, 1, 0, 0, 0, 0) := by decide +kernel
theorem c56_4 : zcod 56 4 = some (.iload_n 3, 1, 0, 0, 0, 0) := by decide +kernel
theorem c56_5 : zcod 56 5 = some (.aload_n 0, 1, 0, 0, 0, 0) := by decide +kernel
theorem c56_6 : zcod 56 6 = some (.getfield 22, 3, 5, 2, 147, 0) := by decide +kernel
theorem c56_9 : zcod 56 9 = some (.invokevirtual 36, 3, 14, 0, 300, 0) := by decide +kernel
theorem c56_12 : zcod 56 12 = some (.if_icmp .ge 60, 3, 72, 0, 0, 0) := by decide +kernel
theorem c56_15 : zcod 56 15 = some (.aload_n 0, 1, 0, 0, 0, 0) := by decide +kernel
theorem c56_16 : zcod 56 16 = some (.getfield 22, 3, 5, 2, 147, 0) := by decide +kernel
theorem c56_19 : zcod 56 19 = some (.iload_n 3, 1, 0, 0, 0, 0) := by decide +kernel
theorem c56_20 : zcod 56 20 = some (.invokevirtual 40, 3, 51, 1, 503, 0) := by decide +kernel
theorem c56_23 : zcod 56 23 = some (.checkcast 44, 3, 2, 0, 301, 0) := by decide +kernel
theorem c56_26 : zcod 56 26 = some (.astore 4, 2, 0, 0, 0, 0) := by decide +kernel
theorem c56_28 : zcod 56 28 = some (.aload 4, 2, 0, 0, 0, 0) := by decide +kernel
theorem c56_30 : zcod 56 30 = some (.getfield 107, 3, 2, 10, 336, 0) := by decide +kernel
theorem c56_33 : zcod 56 33 = some (.ifCond .eq 33, 3, 66, 0, 0, 0) := by decide +kernel
theorem c56_36 : zcod 56 36 = some (.aload_n 1, 1, 0, 0, 0, 0) := by decide +kernel
theorem c56_37 : zcod 56 37 = some (.aload 4, 2, 0, 0, 0, 0) := by decide +kernel
theorem c56_39 : zcod 56 39 = some (.getfield 78, 3, 2, 0, 311, 0) := by decide +kernel
theorem c56_42 : zcod 56 42 = some (.aload 4, 2, 0, 0, 0, 0) := by decide +kernel
theorem c56_44 : zcod 56 44 = some (.getfield 90, 3, 2, 1, 314, 0) := by decide +kernel
theorem c56_47 : zcod 56 47 = some (.aload 4, 2, 0, 0, 0, 0) := by decide +kernel
theorem c56_49 : zcod 56 49 = some (.getfield 111, 3, 2, 2, 316, 0) := by decide +kernel
theorem c56_52 : zcod 56 52 = some (.aload 4, 2, 0, 0, 0, 0) := by decide +kernel
theorem c56_54 : zcod 56 54 = some (.getfield 114, 3, 2, 3, 318, 0) := by decide +kernel
theorem c56_57 : zcod 56 57 = some (.invokevirtual 71, 3, 57, 4, 528, 0) := by decide +kernel
theorem c56_60 : zcod 56 60 = some (.ifCond .eq 6, 3, 66, 0, 0, 0) := by decide +kernel
theorem c56_63 : zcod 56 63 = some (.iinc 2 1, 3, 0, 0, 0, 0) := by decide +kernel
theorem c56_66 : zcod 56 66 = some (.iinc 3 1, 3, 0, 0, 0, 0) := by decide +kernel
theorem c56_69 : zcod 56 69 = some (.goto (-65), 3, 4, 0, 0, 0) := by decide +kernel
theorem c56_72 : zcod 56 72 = some (.iload_n 2, 1, 0, 0, 0, 0) := by decide +kernel
theorem c56_73 : zcod 56 73 = some (.ireturn, 1, 0, 0, 0, 0) := by decide +kernel
set_option maxRecDepth 100000 in
theorem b56_0 (l0 : Option Nat) (l1 : Option Nat) (h : zH) : zev 56 0 [some (vR l0), some (vR l1), none, none, none] [] h = zev 56 4 [some (vR l0), some (vR l1), some (vI 0), some (vI 0), none] [] h := by
  refine (zv_k (v := 0) c56_0 (by decide)).trans ?_
  refine (zv_it c56_1 rfl).trans ?_
  refine (zv_k (v := 0) c56_2 (by decide)).trans ?_
  refine (zv_it c56_3 rfl).trans ?_
  rfl
theorem e56 (l0 : Option Nat) (l1 : Option Nat) (h : zH) : zcall 56 [vR l0, vR l1] h = zev 56 4 [some (vR l0), some (vR l1), some (vI 0), some (vI 0), none] [] h := by
  refine Eq.trans ?_ (b56_0 l0 l1 h)
  unfold zcall zent
  rw [zL_56]
  rfl
set_option maxRecDepth 100000 in
theorem b56_4 (l0 : Option Nat) (l1 : Option Nat) (l2 : Int32) (l3 : Int32) (l4 : Option zV) (h : zH) : zev 56 4 [some (vR l0), some (vR l1), some (vI l2), some (vI l3), l4] [] h = (zgR h l0 5 2 fun x1 => (zvr h x1 0 (zcI 14 [vR x1] h fun x3 h2 => (if l3 < x3 then (zgR h2 l0 5 2 fun x4 => (zvr h2 x4 0 (zcR 51 [vR x4, vI l3] h2 fun x6 h5 => (zca h5 2 x6 ((zgI h5 x6 2 10 fun x7 => (if x7 = 0 then zev 56 4 [some (vR l0), some (vR l1), some (vI l2), some (vI (l3 + 1)), some (vR x6)] [] h5 else (zgI h5 x6 2 0 fun x8 => (zgI h5 x6 2 1 fun x9 => (zgI h5 x6 2 2 fun x10 => (zgI h5 x6 2 3 fun x11 => (zvr h5 l1 2 (zcI 57 [vR l1, vI x8, vI x9, vI x10, vI x11] h5 fun x13 h12 => (if x13 = 0 then zev 56 4 [some (vR l0), some (vR l1), some (vI l2), some (vI (l3 + 1)), some (vR x6)] [] h12 else zev 56 4 [some (vR l0), some (vR l1), some (vI (l2 + 1)), some (vI (l3 + 1)), some (vR x6)] [] h12)))))))))))))) else some (some (vI l2), h2))))) := by
  refine (zv_in c56_4 rfl).trans ?_
  refine (zv_an c56_5 rfl).trans ?_
  refine (zv_gR c56_6 zf5_2).trans (zgR_c fun x1 => ?_)
  refine (zv_viI c56_9 zcn_14 rfl zL_14 (Or.inl zrt_14) rfl rfl).trans (zvr_c (zcI_c fun x3 h2 => ?_))
  refine (zv_icge c56_12).trans (zif_c ?_ ?_)
  · refine (zv_an c56_15 rfl).trans ?_
    refine (zv_gR c56_16 zf5_2).trans (zgR_c fun x4 => ?_)
    refine (zv_in c56_19 rfl).trans ?_
    refine (zv_viR c56_20 zcn_51 rfl zL_51 zrt_51 rfl rfl).trans (zvr_c (zcR_c fun x6 h5 => ?_))
    refine (zv_ca c56_23).trans (zca_c ?_)
    refine (zv_as c56_26 rfl).trans ?_
    refine (zv_al c56_28 rfl).trans ?_
    refine (zv_gI c56_30 zg2_10).trans (zgI_c fun x7 => ?_)
    refine (zv_ifeq c56_33).trans (zif_c ?_ ?_)
    · refine (zv_inc (y := 1) c56_66 rfl (by decide) rfl).trans ?_
      refine (zv_goto c56_69).trans ?_
      rfl
    · refine (zv_an c56_36 rfl).trans ?_
      refine (zv_al c56_37 rfl).trans ?_
      refine (zv_gI c56_39 zg2_0).trans (zgI_c fun x8 => ?_)
      refine (zv_al c56_42 rfl).trans ?_
      refine (zv_gI c56_44 zg2_1).trans (zgI_c fun x9 => ?_)
      refine (zv_al c56_47 rfl).trans ?_
      refine (zv_gI c56_49 zg2_2).trans (zgI_c fun x10 => ?_)
      refine (zv_al c56_52 rfl).trans ?_
      refine (zv_gI c56_54 zg2_3).trans (zgI_c fun x11 => ?_)
      refine (zv_viI c56_57 zcn_57 rfl zL_57 (Or.inr zrt_57) rfl rfl).trans (zvr_c (zcI_c fun x13 h12 => ?_))
      refine (zv_ifeq c56_60).trans (zif_c ?_ ?_)
      · refine (zv_inc (y := 1) c56_66 rfl (by decide) rfl).trans ?_
        refine (zv_goto c56_69).trans ?_
        rfl
      · refine (zv_inc (y := 1) c56_63 rfl (by decide) rfl).trans ?_
        refine (zv_inc (y := 1) c56_66 rfl (by decide) rfl).trans ?_
        refine (zv_goto c56_69).trans ?_
        rfl
  · refine (zv_in c56_72 rfl).trans ?_
    exact zv_ir c56_73 zrt_56
theorem c57_0 : zcod 57 0 = some (.aload_n 0, 1, 0, 0, 0, 0) := by decide +kernel
theorem c57_1 : zcod 57 1 = some (.getfield 28, 3, 2, 0, 309, 0) := by decide +kernel
theorem c57_4 : zcod 57 4 = some (.iload_n 1, 1, 0, 0, 0, 0) := by decide +kernel
theorem c57_5 : zcod 57 5 = some (.iload_n 3, 1, 0, 0, 0, 0) := by decide +kernel
theorem c57_6 : zcod 57 6 = some (.iadd, 1, 0, 0, 0, 0) := by decide +kernel
theorem c57_7 : zcod 57 7 = some (.if_icmp .ge 20, 3, 27, 0, 0, 0) := by decide +kernel
theorem c57_10 : zcod 57 10 = some (.iload_n 1, 1, 0, 0, 0, 0) := by decide +kernel
theorem c57_11 : zcod 57 11 = some (.aload_n 0, 1, 0, 0, 0, 0) := by decide +kernel
theorem c57_12 : zcod 57 12 = some (.getfield 28, 3, 2, 0, 309, 0) := by decide +kernel
theorem c57_15 : zcod 57 15 = some (.aload_n 0, 1, 0, 0, 0, 0) := by decide +kernel
theorem c57_16 : zcod 57 16 = some (.getfield 34, 3, 2, 2, 315, 0) := by decide +kernel
theorem c57_19 : zcod 57 19 = some (.iadd, 1, 0, 0, 0, 0) := by decide +kernel
theorem c57_20 : zcod 57 20 = some (.if_icmp .ge 7, 3, 27, 0, 0, 0) := by decide +kernel
theorem c57_23 : zcod 57 23 = some (.iconst 1, 1, 0, 0, 0, 0) := by decide +kernel
theorem c57_24 : zcod 57 24 = some (.goto 4, 3, 28, 0, 0, 0) := by decide +kernel
theorem c57_27 : zcod 57 27 = some (.iconst 0, 1, 0, 0, 0, 0) := by decide +kernel
theorem c57_28 : zcod 57 28 = some (.istore 5, 2, 0, 0, 0, 0) := by decide +kernel
theorem c57_30 : zcod 57 30 = some (.aload_n 0, 1, 0, 0, 0, 0) := by decide +kernel
theorem c57_31 : zcod 57 31 = some (.getfield 31, 3, 2, 1, 312, 0) := by decide +kernel
theorem c57_34 : zcod 57 34 = some (.iload_n 2, 1, 0, 0, 0, 0) := by decide +kernel
theorem c57_35 : zcod 57 35 = some (.iload 4, 2, 0, 0, 0, 0) := by decide +kernel
theorem c57_37 : zcod 57 37 = some (.iadd, 1, 0, 0, 0, 0) := by decide +kernel
theorem c57_38 : zcod 57 38 = some (.if_icmp .ge 20, 3, 58, 0, 0, 0) := by decide +kernel
theorem c57_41 : zcod 57 41 = some (.iload_n 2, 1, 0, 0, 0, 0) := by decide +kernel
theorem c57_42 : zcod 57 42 = some (.aload_n 0, 1, 0, 0, 0, 0) := by decide +kernel
theorem c57_43 : zcod 57 43 = some (.getfield 31, 3, 2, 1, 312, 0) := by decide +kernel
theorem c57_46 : zcod 57 46 = some (.aload_n 0, 1, 0, 0, 0, 0) := by decide +kernel
theorem c57_47 : zcod 57 47 = some (.getfield 37, 3, 2, 3, 317, 0) := by decide +kernel
theorem c57_50 : zcod 57 50 = some (.iadd, 1, 0, 0, 0, 0) := by decide +kernel
theorem c57_51 : zcod 57 51 = some (.if_icmp .ge 7, 3, 58, 0, 0, 0) := by decide +kernel
theorem c57_54 : zcod 57 54 = some (.iconst 1, 1, 0, 0, 0, 0) := by decide +kernel
theorem c57_55 : zcod 57 55 = some (.goto 4, 3, 59, 0, 0, 0) := by decide +kernel
theorem c57_58 : zcod 57 58 = some (.iconst 0, 1, 0, 0, 0, 0) := by decide +kernel
theorem c57_59 : zcod 57 59 = some (.istore 6, 2, 0, 0, 0, 0) := by decide +kernel
theorem c57_61 : zcod 57 61 = some (.aload_n 0, 1, 0, 0, 0, 0) := by decide +kernel
theorem c57_62 : zcod 57 62 = some (.getfield 28, 3, 2, 0, 309, 0) := by decide +kernel
theorem c57_65 : zcod 57 65 = some (.aload_n 0, 1, 0, 0, 0, 0) := by decide +kernel
theorem c57_66 : zcod 57 66 = some (.getfield 34, 3, 2, 2, 315, 0) := by decide +kernel
theorem c57_69 : zcod 57 69 = some (.iadd, 1, 0, 0, 0, 0) := by decide +kernel
theorem c57_70 : zcod 57 70 = some (.iload_n 1, 1, 0, 0, 0, 0) := by decide +kernel
theorem c57_71 : zcod 57 71 = some (.if_icmp .eq 13, 3, 84, 0, 0, 0) := by decide +kernel
theorem c57_74 : zcod 57 74 = some (.iload_n 1, 1, 0, 0, 0, 0) := by decide +kernel
theorem c57_75 : zcod 57 75 = some (.iload_n 3, 1, 0, 0, 0, 0) := by decide +kernel
theorem c57_76 : zcod 57 76 = some (.iadd, 1, 0, 0, 0, 0) := by decide +kernel
theorem c57_77 : zcod 57 77 = some (.aload_n 0, 1, 0, 0, 0, 0) := by decide +kernel
theorem c57_78 : zcod 57 78 = some (.getfield 28, 3, 2, 0, 309, 0) := by decide +kernel
theorem c57_81 : zcod 57 81 = some (.if_icmp .ne 7, 3, 88, 0, 0, 0) := by decide +kernel
theorem c57_84 : zcod 57 84 = some (.iconst 1, 1, 0, 0, 0, 0) := by decide +kernel
theorem c57_85 : zcod 57 85 = some (.goto 4, 3, 89, 0, 0, 0) := by decide +kernel
theorem c57_88 : zcod 57 88 = some (.iconst 0, 1, 0, 0, 0, 0) := by decide +kernel
theorem c57_89 : zcod 57 89 = some (.istore 7, 2, 0, 0, 0, 0) := by decide +kernel
theorem c57_91 : zcod 57 91 = some (.aload_n 0, 1, 0, 0, 0, 0) := by decide +kernel
theorem c57_92 : zcod 57 92 = some (.getfield 31, 3, 2, 1, 312, 0) := by decide +kernel
theorem c57_95 : zcod 57 95 = some (.aload_n 0, 1, 0, 0, 0, 0) := by decide +kernel
theorem c57_96 : zcod 57 96 = some (.getfield 37, 3, 2, 3, 317, 0) := by decide +kernel
theorem c57_99 : zcod 57 99 = some (.iadd, 1, 0, 0, 0, 0) := by decide +kernel
theorem c57_100 : zcod 57 100 = some (.iload_n 2, 1, 0, 0, 0, 0) := by decide +kernel
theorem c57_101 : zcod 57 101 = some (.if_icmp .eq 14, 3, 115, 0, 0, 0) := by decide +kernel
theorem c57_104 : zcod 57 104 = some (.iload_n 2, 1, 0, 0, 0, 0) := by decide +kernel
theorem c57_105 : zcod 57 105 = some (.iload 4, 2, 0, 0, 0, 0) := by decide +kernel
theorem c57_107 : zcod 57 107 = some (.iadd, 1, 0, 0, 0, 0) := by decide +kernel
theorem c57_108 : zcod 57 108 = some (.aload_n 0, 1, 0, 0, 0, 0) := by decide +kernel
theorem c57_109 : zcod 57 109 = some (.getfield 31, 3, 2, 1, 312, 0) := by decide +kernel
theorem c57_112 : zcod 57 112 = some (.if_icmp .ne 7, 3, 119, 0, 0, 0) := by decide +kernel
theorem c57_115 : zcod 57 115 = some (.iconst 1, 1, 0, 0, 0, 0) := by decide +kernel
theorem c57_116 : zcod 57 116 = some (.goto 4, 3, 120, 0, 0, 0) := by decide +kernel
theorem c57_119 : zcod 57 119 = some (.iconst 0, 1, 0, 0, 0, 0) := by decide +kernel
theorem c57_120 : zcod 57 120 = some (.istore 8, 2, 0, 0, 0, 0) := by decide +kernel
theorem c57_122 : zcod 57 122 = some (.iload 5, 2, 0, 0, 0, 0) := by decide +kernel
theorem c57_124 : zcod 57 124 = some (.ifCond .eq 8, 3, 132, 0, 0, 0) := by decide +kernel
theorem c57_127 : zcod 57 127 = some (.iload 8, 2, 0, 0, 0, 0) := by decide +kernel
theorem c57_129 : zcod 57 129 = some (.ifCond .ne 13, 3, 142, 0, 0, 0) := by decide +kernel
theorem c57_132 : zcod 57 132 = some (.iload 6, 2, 0, 0, 0, 0) := by decide +kernel
theorem c57_134 : zcod 57 134 = some (.ifCond .eq 12, 3, 146, 0, 0, 0) := by decide +kernel
theorem c57_137 : zcod 57 137 = some (.iload 7, 2, 0, 0, 0, 0) := by decide +kernel
theorem c57_139 : zcod 57 139 = some (.ifCond .eq 7, 3, 146, 0, 0, 0) := by decide +kernel
theorem c57_142 : zcod 57 142 = some (.iconst 1, 1, 0, 0, 0, 0) := by decide +kernel
theorem c57_143 : zcod 57 143 = some (.goto 4, 3, 147, 0, 0, 0) := by decide +kernel
theorem c57_146 : zcod 57 146 = some (.iconst 0, 1, 0, 0, 0, 0) := by decide +kernel
theorem c57_147 : zcod 57 147 = some (.ireturn, 1, 0, 0, 0, 0) := by decide +kernel
set_option maxRecDepth 100000 in
theorem b57_0 (l0 : Option Nat) (l1 : Int32) (l2 : Int32) (l3 : Int32) (l4 : Int32) (h : zH) : zev 57 0 [some (vR l0), some (vI l1), some (vI l2), some (vI l3), some (vI l4), none, none, none, none] [] h = (zgI h l0 2 0 fun x1 => (if x1 < (l1 + l3) then (zgI h l0 2 0 fun x2 => (zgI h l0 2 2 fun x3 => (if l1 < (x2 + x3) then zev 57 28 [some (vR l0), some (vI l1), some (vI l2), some (vI l3), some (vI l4), none, none, none, none] [vI 1] h else zev 57 28 [some (vR l0), some (vI l1), some (vI l2), some (vI l3), some (vI l4), none, none, none, none] [vI 0] h))) else zev 57 28 [some (vR l0), some (vI l1), some (vI l2), some (vI l3), some (vI l4), none, none, none, none] [vI 0] h)) := by
  refine (zv_an c57_0 rfl).trans ?_
  refine (zv_gI c57_1 zg2_0).trans (zgI_c fun x1 => ?_)
  refine (zv_in c57_4 rfl).trans ?_
  refine (zv_in c57_5 rfl).trans ?_
  refine (zv_iadd c57_6).trans ?_
  refine (zv_icge c57_7).trans (zif_c ?_ ?_)
  · refine (zv_in c57_10 rfl).trans ?_
    refine (zv_an c57_11 rfl).trans ?_
    refine (zv_gI c57_12 zg2_0).trans (zgI_c fun x2 => ?_)
    refine (zv_an c57_15 rfl).trans ?_
    refine (zv_gI c57_16 zg2_2).trans (zgI_c fun x3 => ?_)
    refine (zv_iadd c57_19).trans ?_
    refine (zv_icge c57_20).trans (zif_c ?_ ?_)
    · refine (zv_k (v := 1) c57_23 (by decide)).trans ?_
      refine (zv_goto c57_24).trans ?_
      rfl
    · refine (zv_k (v := 0) c57_27 (by decide)).trans ?_
      rfl
  · refine (zv_k (v := 0) c57_27 (by decide)).trans ?_
    rfl
theorem e57 (l0 : Option Nat) (l1 : Int32) (l2 : Int32) (l3 : Int32) (l4 : Int32) (h : zH) : zcall 57 [vR l0, vI l1, vI l2, vI l3, vI l4] h = (zgI h l0 2 0 fun x1 => (if x1 < (l1 + l3) then (zgI h l0 2 0 fun x2 => (zgI h l0 2 2 fun x3 => (if l1 < (x2 + x3) then zev 57 28 [some (vR l0), some (vI l1), some (vI l2), some (vI l3), some (vI l4), none, none, none, none] [vI 1] h else zev 57 28 [some (vR l0), some (vI l1), some (vI l2), some (vI l3), some (vI l4), none, none, none, none] [vI 0] h))) else zev 57 28 [some (vR l0), some (vI l1), some (vI l2), some (vI l3), some (vI l4), none, none, none, none] [vI 0] h)) := by
  refine Eq.trans ?_ (b57_0 l0 l1 l2 l3 l4 h)
  unfold zcall zent
  rw [zL_57]
  rfl
set_option maxRecDepth 100000 in
theorem b57_28 (l0 : Option Nat) (l1 : Int32) (l2 : Int32) (l3 : Int32) (l4 : Int32) (l5 : Option zV) (l6 : Option zV) (l7 : Option zV) (l8 : Option zV) (s0 : Int32) (h : zH) : zev 57 28 [some (vR l0), some (vI l1), some (vI l2), some (vI l3), some (vI l4), l5, l6, l7, l8] [vI s0] h = (zgI h l0 2 1 fun x1 => (if x1 < (l2 + l4) then (zgI h l0 2 1 fun x2 => (zgI h l0 2 3 fun x3 => (if l2 < (x2 + x3) then zev 57 59 [some (vR l0), some (vI l1), some (vI l2), some (vI l3), some (vI l4), some (vI s0), l6, l7, l8] [vI 1] h else zev 57 59 [some (vR l0), some (vI l1), some (vI l2), some (vI l3), some (vI l4), some (vI s0), l6, l7, l8] [vI 0] h))) else zev 57 59 [some (vR l0), some (vI l1), some (vI l2), some (vI l3), some (vI l4), some (vI s0), l6, l7, l8] [vI 0] h)) := by
  refine (zv_is c57_28 rfl).trans ?_
  refine (zv_an c57_30 rfl).trans ?_
  refine (zv_gI c57_31 zg2_1).trans (zgI_c fun x1 => ?_)
  refine (zv_in c57_34 rfl).trans ?_
  refine (zv_il c57_35 rfl).trans ?_
  refine (zv_iadd c57_37).trans ?_
  refine (zv_icge c57_38).trans (zif_c ?_ ?_)
  · refine (zv_in c57_41 rfl).trans ?_
    refine (zv_an c57_42 rfl).trans ?_
    refine (zv_gI c57_43 zg2_1).trans (zgI_c fun x2 => ?_)
    refine (zv_an c57_46 rfl).trans ?_
    refine (zv_gI c57_47 zg2_3).trans (zgI_c fun x3 => ?_)
    refine (zv_iadd c57_50).trans ?_
    refine (zv_icge c57_51).trans (zif_c ?_ ?_)
    · refine (zv_k (v := 1) c57_54 (by decide)).trans ?_
      refine (zv_goto c57_55).trans ?_
      rfl
    · refine (zv_k (v := 0) c57_58 (by decide)).trans ?_
      rfl
  · refine (zv_k (v := 0) c57_58 (by decide)).trans ?_
    rfl
set_option maxRecDepth 100000 in
theorem b57_59 (l0 : Option Nat) (l1 : Int32) (l2 : Int32) (l3 : Int32) (l4 : Int32) (l5 : Int32) (l6 : Option zV) (l7 : Option zV) (l8 : Option zV) (s0 : Int32) (h : zH) : zev 57 59 [some (vR l0), some (vI l1), some (vI l2), some (vI l3), some (vI l4), some (vI l5), l6, l7, l8] [vI s0] h = (zgI h l0 2 0 fun x1 => (zgI h l0 2 2 fun x2 => (if (x1 + x2) = l1 then zev 57 89 [some (vR l0), some (vI l1), some (vI l2), some (vI l3), some (vI l4), some (vI l5), some (vI s0), l7, l8] [vI 1] h else (zgI h l0 2 0 fun x3 => (if (l1 + l3) = x3 then zev 57 89 [some (vR l0), some (vI l1), some (vI l2), some (vI l3), some (vI l4), some (vI l5), some (vI s0), l7, l8] [vI 1] h else zev 57 89 [some (vR l0), some (vI l1), some (vI l2), some (vI l3), some (vI l4), some (vI l5), some (vI s0), l7, l8] [vI 0] h))))) := by
  refine (zv_is c57_59 rfl).trans ?_
  refine (zv_an c57_61 rfl).trans ?_
  refine (zv_gI c57_62 zg2_0).trans (zgI_c fun x1 => ?_)
  refine (zv_an c57_65 rfl).trans ?_
  refine (zv_gI c57_66 zg2_2).trans (zgI_c fun x2 => ?_)
  refine (zv_iadd c57_69).trans ?_
  refine (zv_in c57_70 rfl).trans ?_
  refine (zv_iceq c57_71).trans (zif_c ?_ ?_)
  · refine (zv_k (v := 1) c57_84 (by decide)).trans ?_
    refine (zv_goto c57_85).trans ?_
    rfl
  · refine (zv_in c57_74 rfl).trans ?_
    refine (zv_in c57_75 rfl).trans ?_
    refine (zv_iadd c57_76).trans ?_
    refine (zv_an c57_77 rfl).trans ?_
    refine (zv_gI c57_78 zg2_0).trans (zgI_c fun x3 => ?_)
    refine (zv_icne c57_81).trans (zif_c ?_ ?_)
    · refine (zv_k (v := 1) c57_84 (by decide)).trans ?_
      refine (zv_goto c57_85).trans ?_
      rfl
    · refine (zv_k (v := 0) c57_88 (by decide)).trans ?_
      rfl
set_option maxRecDepth 100000 in
theorem b57_89 (l0 : Option Nat) (l1 : Int32) (l2 : Int32) (l3 : Int32) (l4 : Int32) (l5 : Int32) (l6 : Int32) (l7 : Option zV) (l8 : Option zV) (s0 : Int32) (h : zH) : zev 57 89 [some (vR l0), some (vI l1), some (vI l2), some (vI l3), some (vI l4), some (vI l5), some (vI l6), l7, l8] [vI s0] h = (zgI h l0 2 1 fun x1 => (zgI h l0 2 3 fun x2 => (if (x1 + x2) = l2 then zev 57 120 [some (vR l0), some (vI l1), some (vI l2), some (vI l3), some (vI l4), some (vI l5), some (vI l6), some (vI s0), l8] [vI 1] h else (zgI h l0 2 1 fun x3 => (if (l2 + l4) = x3 then zev 57 120 [some (vR l0), some (vI l1), some (vI l2), some (vI l3), some (vI l4), some (vI l5), some (vI l6), some (vI s0), l8] [vI 1] h else zev 57 120 [some (vR l0), some (vI l1), some (vI l2), some (vI l3), some (vI l4), some (vI l5), some (vI l6), some (vI s0), l8] [vI 0] h))))) := by
  refine (zv_is c57_89 rfl).trans ?_
  refine (zv_an c57_91 rfl).trans ?_
  refine (zv_gI c57_92 zg2_1).trans (zgI_c fun x1 => ?_)
  refine (zv_an c57_95 rfl).trans ?_
  refine (zv_gI c57_96 zg2_3).trans (zgI_c fun x2 => ?_)
  refine (zv_iadd c57_99).trans ?_
  refine (zv_in c57_100 rfl).trans ?_
  refine (zv_iceq c57_101).trans (zif_c ?_ ?_)
  · refine (zv_k (v := 1) c57_115 (by decide)).trans ?_
    refine (zv_goto c57_116).trans ?_
    rfl
  · refine (zv_in c57_104 rfl).trans ?_
    refine (zv_il c57_105 rfl).trans ?_
    refine (zv_iadd c57_107).trans ?_
    refine (zv_an c57_108 rfl).trans ?_
    refine (zv_gI c57_109 zg2_1).trans (zgI_c fun x3 => ?_)
    refine (zv_icne c57_112).trans (zif_c ?_ ?_)
    · refine (zv_k (v := 1) c57_115 (by decide)).trans ?_
      refine (zv_goto c57_116).trans ?_
      rfl
    · refine (zv_k (v := 0) c57_119 (by decide)).trans ?_
      rfl
set_option maxRecDepth 100000 in
theorem b57_120 (l0 : Option Nat) (l1 : Int32) (l2 : Int32) (l3 : Int32) (l4 : Int32) (l5 : Int32) (l6 : Int32) (l7 : Int32) (l8 : Option zV) (s0 : Int32) (h : zH) : zev 57 120 [some (vR l0), some (vI l1), some (vI l2), some (vI l3), some (vI l4), some (vI l5), some (vI l6), some (vI l7), l8] [vI s0] h = (if l5 = 0 then (if l6 = 0 then zbo 0 (some (some (vI 0), h)) else (if l7 = 0 then zbo 0 (some (some (vI 0), h)) else zbo 1 (some (some (vI 1), h)))) else (if s0 = 0 then (if l6 = 0 then zbo 0 (some (some (vI 0), h)) else (if l7 = 0 then zbo 0 (some (some (vI 0), h)) else zbo 1 (some (some (vI 1), h)))) else zbo 1 (some (some (vI 1), h)))) := by
  refine (zv_is c57_120 rfl).trans ?_
  refine (zv_il c57_122 rfl).trans ?_
  refine (zv_ifeq c57_124).trans (zif_c ?_ ?_)
  · refine (zv_il c57_132 rfl).trans ?_
    refine (zv_ifeq c57_134).trans (zif_c ?_ ?_)
    · refine (zv_k (v := 0) c57_146 (by decide)).trans ?_
      exact zv_iz c57_147 zrt_57
    · refine (zv_il c57_137 rfl).trans ?_
      refine (zv_ifeq c57_139).trans (zif_c ?_ ?_)
      · refine (zv_k (v := 0) c57_146 (by decide)).trans ?_
        exact zv_iz c57_147 zrt_57
      · refine (zv_k (v := 1) c57_142 (by decide)).trans ?_
        refine (zv_goto c57_143).trans ?_
        exact zv_iz c57_147 zrt_57
  · refine (zv_il c57_127 rfl).trans ?_
    refine (zv_ifne c57_129).trans (zif_c ?_ ?_)
    · refine (zv_il c57_132 rfl).trans ?_
      refine (zv_ifeq c57_134).trans (zif_c ?_ ?_)
      · refine (zv_k (v := 0) c57_146 (by decide)).trans ?_
        exact zv_iz c57_147 zrt_57
      · refine (zv_il c57_137 rfl).trans ?_
        refine (zv_ifeq c57_139).trans (zif_c ?_ ?_)
        · refine (zv_k (v := 0) c57_146 (by decide)).trans ?_
          exact zv_iz c57_147 zrt_57
        · refine (zv_k (v := 1) c57_142 (by decide)).trans ?_
          refine (zv_goto c57_143).trans ?_
          exact zv_iz c57_147 zrt_57
    · refine (zv_k (v := 1) c57_142 (by decide)).trans ?_
      refine (zv_goto c57_143).trans ?_
      exact zv_iz c57_147 zrt_57
theorem c58_0 : zcod 58 0 = some (.aload_n 1, 1, 0, 0, 0, 0) := by decide +kernel
theorem c58_1 : zcod 58 1 = some (.getfield 90, 3, 2, 1, 314, 0) := by decide +kernel
theorem c58_4 : zcod 58 4 = some (.iconst 1, 1, 0, 0, 0, 0) := by decide +kernel
theorem c58_5 : zcod 58 5 = some (.isub, 1, 0, 0, 0, 0) := by decide +kernel
theorem c58_6 : zcod 58 6 = some (.istore_n 2, 1, 0, 0, 0, 0) := by decide +kernel
theorem c58_7 : zcod 58 7 = some (.iload_n 2, 1, 0, 0, 0, 0) := by decide +kernel
theorem c58_8 : zcod 58 8 = some (.aload_n 1, 1, 0, 0, 0, 0) := by decide +kernel
theorem c58_9 : zcod 58 9 = some (.getfield 90, 3, 2, 1, 314, 0) := by decide +kernel
theorem c58_12 : zcod 58 12 = some (.aload_n 1, 1, 0, 0, 0, 0) := by decide +kernel
theorem c58_13 : zcod 58 13 = some (.getfield 114, 3, 2, 3, 318, 0) := by decide +kernel
theorem c58_16 : zcod 58 16 = some (.iadd, 1, 0, 0, 0, 0) := by decide +kernel
theorem c58_17 : zcod 58 17 = some (.if_icmp .gt 88, 3, 105, 0, 0, 0) := by decide +kernel
theorem c58_20 : zcod 58 20 = some (.aload_n 1, 1, 0, 0, 0, 0) := by decide +kernel
theorem c58_21 : zcod 58 21 = some (.getfield 78, 3, 2, 0, 311, 0) := by decide +kernel
theorem c58_24 : zcod 58 24 = some (.iconst 1, 1, 0, 0, 0, 0) := by decide +kernel
theorem c58_25 : zcod 58 25 = some (.isub, 1, 0, 0, 0, 0) := by decide +kernel
theorem c58_26 : zcod 58 26 = some (.istore_n 3, 1, 0, 0, 0, 0) := by decide +kernel
theorem c58_27 : zcod 58 27 = some (.iload_n 3, 1, 0, 0, 0, 0) := by decide +kernel
theorem c58_28 : zcod 58 28 = some (.aload_n 1, 1, 0, 0, 0, 0) := by decide +kernel
theorem c58_29 : zcod 58 29 = some (.getfield 78, 3, 2, 0, 311, 0) := by decide +kernel
theorem c58_32 : zcod 58 32 = some (.aload_n 1, 1, 0, 0, 0, 0) := by decide +kernel
theorem c58_33 : zcod 58 33 = some (.getfield 111, 3, 2, 2, 316, 0) := by decide +kernel
theorem c58_36 : zcod 58 36 = some (.iadd, 1, 0, 0, 0, 0) := by decide +kernel
theorem c58_37 : zcod 58 37 = some (.if_icmp .gt 62, 3, 99, 0, 0, 0) := by decide +kernel
theorem c58_40 : zcod 58 40 = some (.iload_n 3, 1, 0, 0, 0, 0) := by decide +kernel
theorem c58_41 : zcod 58 41 = some (.iload_n 2, 1, 0, 0, 0, 0) := by decide +kernel
theorem c58_42 : zcod 58 42 = some (.invokestatic 32, 3, 26, 2, 293, 1) := by decide +kernel
theorem c58_45 : zcod 58 45 = some (.ifCond .eq 17, 3, 62, 0, 0, 0) := by decide +kernel
theorem c58_48 : zcod 58 48 = some (.aload_n 0, 1, 0, 0, 0, 0) := by decide +kernel
theorem c58_49 : zcod 58 49 = some (.getfield 9, 3, 5, 0, 145, 0) := by decide +kernel
theorem c58_52 : zcod 58 52 = some (.iload_n 2, 1, 0, 0, 0, 0) := by decide +kernel
theorem c58_53 : zcod 58 53 = some (.bipush 20, 2, 0, 0, 0, 0) := by decide +kernel
theorem c58_55 : zcod 58 55 = some (.imul, 1, 0, 0, 0, 0) := by decide +kernel
theorem c58_56 : zcod 58 56 = some (.iload_n 3, 1, 0, 0, 0, 0) := by decide +kernel
theorem c58_57 : zcod 58 57 = some (.iadd, 1, 0, 0, 0, 0) := by decide +kernel
theorem c58_58 : zcod 58 58 = some (.iaload, 1, 0, 0, 0, 0) := by decide +kernel
theorem c58_59 : zcod 58 59 = some (.goto 4, 3, 63, 0, 0, 0) := by decide +kernel
theorem c58_62 : zcod 58 62 = some (.iconst (-1), 1, 0, 0, 0, 0) := by decide +kernel
theorem c58_63 : zcod 58 63 = some (.istore 4, 2, 0, 0, 0, 0) := by decide +kernel
theorem c58_65 : zcod 58 65 = some (.iload 4, 2, 0, 0, 0, 0) := by decide +kernel
theorem c58_67 : zcod 58 67 = some (.bipush 100, 2, 0, 0, 0, 0) := by decide +kernel
theorem c58_69 : zcod 58 69 = some (.if_icmp .lt 24, 3, 93, 0, 0, 0) := by decide +kernel
theorem c58_72 : zcod 58 72 = some (.iload 4, 2, 0, 0, 0, 0) := by decide +kernel
theorem c58_74 : zcod 58 74 = some (.sipush 200, 3, 0, 0, 0, 0) := by decide +kernel
theorem c58_77 : zcod 58 77 = some (.if_icmp .ge 16, 3, 93, 0, 0, 0) := by decide +kernel
theorem c58_80 : zcod 58 80 = some (.aload_n 1, 1, 0, 0, 0, 0) := by decide +kernel
theorem c58_81 : zcod 58 81 = some (.iload_n 3, 1, 0, 0, 0, 0) := by decide +kernel
theorem c58_82 : zcod 58 82 = some (.iload_n 2, 1, 0, 0, 0, 0) := by decide +kernel
theorem c58_83 : zcod 58 83 = some (.iconst 1, 1, 0, 0, 0, 0) := by decide +kernel
theorem c58_84 : zcod 58 84 = some (.iconst 1, 1, 0, 0, 0, 0) := by decide +kernel
theorem c58_85 : zcod 58 85 = some (.invokevirtual 71, 3, 57, 4, 528, 0) := by decide +kernel
theorem c58_88 : zcod 58 88 = some (.ifCond .eq 5, 3, 93, 0, 0, 0) := by decide +kernel
theorem c58_91 : zcod 58 91 = some (.iconst 1, 1, 0, 0, 0, 0) := by decide +kernel
theorem c58_92 : zcod 58 92 = some (.ireturn, 1, 0, 0, 0, 0) := by decide +kernel
theorem c58_93 : zcod 58 93 = some (.iinc 3 1, 3, 0, 0, 0, 0) := by decide +kernel
theorem c58_96 : zcod 58 96 = some (.goto (-69), 3, 27, 0, 0, 0) := by decide +kernel
theorem c58_99 : zcod 58 99 = some (.iinc 2 1, 3, 0, 0, 0, 0) := by decide +kernel
theorem c58_102 : zcod 58 102 = some (.goto (-95), 3, 7, 0, 0, 0) := by decide +kernel
theorem c58_105 : zcod 58 105 = some (.iconst 0, 1, 0, 0, 0, 0) := by decide +kernel
theorem c58_106 : zcod 58 106 = some (.ireturn, 1, 0, 0, 0, 0) := by decide +kernel
set_option maxRecDepth 100000 in
theorem b58_0 (l0 : Option Nat) (l1 : Option Nat) (h : zH) : zev 58 0 [some (vR l0), some (vR l1), none, none, none] [] h = (zgI h l1 2 1 fun x1 => zev 58 7 [some (vR l0), some (vR l1), some (vI (x1 - 1)), none, none] [] h) := by
  refine (zv_an c58_0 rfl).trans ?_
  refine (zv_gI c58_1 zg2_1).trans (zgI_c fun x1 => ?_)
  refine (zv_k (v := 1) c58_4 (by decide)).trans ?_
  refine (zv_isub c58_5).trans ?_
  refine (zv_it c58_6 rfl).trans ?_
  rfl
theorem e58 (l0 : Option Nat) (l1 : Option Nat) (h : zH) : zcall 58 [vR l0, vR l1] h = (zgI h l1 2 1 fun x1 => zev 58 7 [some (vR l0), some (vR l1), some (vI (x1 - 1)), none, none] [] h) := by
  refine Eq.trans ?_ (b58_0 l0 l1 h)
  unfold zcall zent
  rw [zL_58]
  rfl
set_option maxRecDepth 100000 in
theorem b58_7 (l0 : Option Nat) (l1 : Option Nat) (l2 : Int32) (l3 : Option zV) (l4 : Option zV) (h : zH) : zev 58 7 [some (vR l0), some (vR l1), some (vI l2), l3, l4] [] h = (zgI h l1 2 1 fun x1 => (zgI h l1 2 3 fun x2 => (if (x1 + x2) < l2 then zbo 0 (some (some (vI 0), h)) else (zgI h l1 2 0 fun x3 => zev 58 27 [some (vR l0), some (vR l1), some (vI l2), some (vI (x3 - 1)), l4] [] h)))) := by
  refine (zv_in c58_7 rfl).trans ?_
  refine (zv_an c58_8 rfl).trans ?_
  refine (zv_gI c58_9 zg2_1).trans (zgI_c fun x1 => ?_)
  refine (zv_an c58_12 rfl).trans ?_
  refine (zv_gI c58_13 zg2_3).trans (zgI_c fun x2 => ?_)
  refine (zv_iadd c58_16).trans ?_
  refine (zv_icgt c58_17).trans (zif_c ?_ ?_)
  · refine (zv_k (v := 0) c58_105 (by decide)).trans ?_
    exact zv_iz c58_106 zrt_58
  · refine (zv_an c58_20 rfl).trans ?_
    refine (zv_gI c58_21 zg2_0).trans (zgI_c fun x3 => ?_)
    refine (zv_k (v := 1) c58_24 (by decide)).trans ?_
    refine (zv_isub c58_25).trans ?_
    refine (zv_it c58_26 rfl).trans ?_
    rfl
set_option maxRecDepth 100000 in
theorem b58_27 (l0 : Option Nat) (l1 : Option Nat) (l2 : Int32) (l3 : Int32) (l4 : Option zV) (h : zH) : zev 58 27 [some (vR l0), some (vR l1), some (vI l2), some (vI l3), l4] [] h = (zgI h l1 2 0 fun x1 => (zgI h l1 2 2 fun x2 => (if (x1 + x2) < l3 then zev 58 7 [some (vR l0), some (vR l1), some (vI (l2 + 1)), some (vI l3), l4] [] h else (zcI 26 [vI l3, vI l2] h fun x4 h3 => (if x4 = 0 then zev 58 63 [some (vR l0), some (vR l1), some (vI l2), some (vI l3), l4] [vI (-1)] h3 else (zgR h3 l0 5 0 fun x5 => (zaI h3 x5 ((l2 * 20) + l3) fun x6 => zev 58 63 [some (vR l0), some (vR l1), some (vI l2), some (vI l3), l4] [vI x6] h3))))))) := by
  refine (zv_in c58_27 rfl).trans ?_
  refine (zv_an c58_28 rfl).trans ?_
  refine (zv_gI c58_29 zg2_0).trans (zgI_c fun x1 => ?_)
  refine (zv_an c58_32 rfl).trans ?_
  refine (zv_gI c58_33 zg2_2).trans (zgI_c fun x2 => ?_)
  refine (zv_iadd c58_36).trans ?_
  refine (zv_icgt c58_37).trans (zif_c ?_ ?_)
  · refine (zv_inc (y := 1) c58_99 rfl (by decide) rfl).trans ?_
    refine (zv_goto c58_102).trans ?_
    rfl
  · refine (zv_in c58_40 rfl).trans ?_
    refine (zv_in c58_41 rfl).trans ?_
    refine (zv_stI c58_42 (by decide) rfl zL_26 (Or.inr zrt_26) rfl rfl).trans (zcI_c fun x4 h3 => ?_)
    refine (zv_ifeq c58_45).trans (zif_c ?_ ?_)
    · refine (zv_k (v := -1) c58_62 (by decide)).trans ?_
      rfl
    · refine (zv_an c58_48 rfl).trans ?_
      refine (zv_gR c58_49 zf5_0).trans (zgR_c fun x5 => ?_)
      refine (zv_in c58_52 rfl).trans ?_
      refine (zv_bi (v := 20) c58_53 (by decide)).trans ?_
      refine (zv_imul c58_55).trans ?_
      refine (zv_in c58_56 rfl).trans ?_
      refine (zv_iadd c58_57).trans ?_
      refine (zv_aI c58_58).trans (zaI_c fun x6 => ?_)
      refine (zv_goto c58_59).trans ?_
      rfl
set_option maxRecDepth 100000 in
theorem b58_63 (l0 : Option Nat) (l1 : Option Nat) (l2 : Int32) (l3 : Int32) (l4 : Option zV) (s0 : Int32) (h : zH) : zev 58 63 [some (vR l0), some (vR l1), some (vI l2), some (vI l3), l4] [vI s0] h = (if s0 < 100 then zev 58 27 [some (vR l0), some (vR l1), some (vI l2), some (vI (l3 + 1)), some (vI s0)] [] h else (if s0 < 200 then (zvr h l1 2 (zcI 57 [vR l1, vI l3, vI l2, vI 1, vI 1] h fun x2 h1 => (if x2 = 0 then zev 58 27 [some (vR l0), some (vR l1), some (vI l2), some (vI (l3 + 1)), some (vI s0)] [] h1 else zbo 1 (some (some (vI 1), h1))))) else zev 58 27 [some (vR l0), some (vR l1), some (vI l2), some (vI (l3 + 1)), some (vI s0)] [] h)) := by
  refine (zv_is c58_63 rfl).trans ?_
  refine (zv_il c58_65 rfl).trans ?_
  refine (zv_bi (v := 100) c58_67 (by decide)).trans ?_
  refine (zv_iclt c58_69).trans (zif_c ?_ ?_)
  · refine (zv_inc (y := 1) c58_93 rfl (by decide) rfl).trans ?_
    refine (zv_goto c58_96).trans ?_
    rfl
  · refine (zv_il c58_72 rfl).trans ?_
    refine (zv_si (v := 200) c58_74 (by decide)).trans ?_
    refine (zv_icge c58_77).trans (zif_c ?_ ?_)
    · refine (zv_an c58_80 rfl).trans ?_
      refine (zv_in c58_81 rfl).trans ?_
      refine (zv_in c58_82 rfl).trans ?_
      refine (zv_k (v := 1) c58_83 (by decide)).trans ?_
      refine (zv_k (v := 1) c58_84 (by decide)).trans ?_
      refine (zv_viI c58_85 zcn_57 rfl zL_57 (Or.inr zrt_57) rfl rfl).trans (zvr_c (zcI_c fun x2 h1 => ?_))
      refine (zv_ifeq c58_88).trans (zif_c ?_ ?_)
      · refine (zv_inc (y := 1) c58_93 rfl (by decide) rfl).trans ?_
        refine (zv_goto c58_96).trans ?_
        rfl
      · refine (zv_k (v := 1) c58_91 (by decide)).trans ?_
        exact zv_iz c58_92 zrt_58
    · refine (zv_inc (y := 1) c58_93 rfl (by decide) rfl).trans ?_
      refine (zv_goto c58_96).trans ?_
      rfl
theorem c59_0 : zcod 59 0 = some (.aload_n 0, 1, 0, 0, 0, 0) := by decide +kernel
theorem c59_1 : zcod 59 1 = some (.getfield 19, 3, 8, 1, 220, 0) := by decide +kernel
theorem c59_4 : zcod 59 4 = some (.getfield 31, 3, 3, 0, 183, 0) := by decide +kernel
theorem c59_7 : zcod 59 7 = some (.iload_n 1, 1, 0, 0, 0, 0) := by decide +kernel
theorem c59_8 : zcod 59 8 = some (.invokevirtual 106, 3, 60, 1, 540, 0) := by decide +kernel
theorem c59_11 : zcod 59 11 = some (.ifCond .ne 7, 3, 18, 0, 0, 0) := by decide +kernel
theorem c59_14 : zcod 59 14 = some (.sipush (-1001), 3, 0, 0, 0, 0) := by decide +kernel
theorem c59_17 : zcod 59 17 = some (.ireturn, 1, 0, 0, 0, 0) := by decide +kernel
theorem c59_18 : zcod 59 18 = some (.aload_n 0, 1, 0, 0, 0, 0) := by decide +kernel
theorem c59_19 : zcod 59 19 = some (.getfield 19, 3, 8, 1, 220, 0) := by decide +kernel
theorem c59_22 : zcod 59 22 = some (.getfield 31, 3, 3, 0, 183, 0) := by decide +kernel
theorem c59_25 : zcod 59 25 = some (.iload_n 1, 1, 0, 0, 0, 0) := by decide +kernel
theorem c59_26 : zcod 59 26 = some (.invokevirtual 110, 3, 61, 1, 544, 0) := by decide +kernel
theorem c59_29 : zcod 59 29 = some (.ifCond .eq 9, 3, 38, 0, 0, 0) := by decide +kernel
theorem c59_32 : zcod 59 32 = some (.sipush (-1003), 3, 0, 0, 0, 0) := by decide +kernel
theorem c59_35 : zcod 59 35 = some (.goto 14, 3, 49, 0, 0, 0) := by decide +kernel
theorem c59_38 : zcod 59 38 = some (.aload_n 0, 1, 0, 0, 0, 0) := by decide +kernel
theorem c59_39 : zcod 59 39 = some (.getfield 19, 3, 8, 1, 220, 0) := by decide +kernel
theorem c59_42 : zcod 59 42 = some (.getfield 31, 3, 3, 0, 183, 0) := by decide +kernel
theorem c59_45 : zcod 59 45 = some (.iload_n 1, 1, 0, 0, 0, 0) := by decide +kernel
theorem c59_46 : zcod 59 46 = some (.invokevirtual 113, 3, 62, 1, 548, 0) := by decide +kernel
theorem c59_49 : zcod 59 49 = some (.ireturn, 1, 0, 0, 0, 0) := by decide +kernel
set_option maxRecDepth 100000 in
theorem b59_0 (l0 : Option Nat) (l1 : Int32) (h : zH) : zev 59 0 [some (vR l0), some (vI l1)] [] h = (zgR h l0 8 1 fun x1 => (zgR h x1 3 0 fun x2 => (zvr h x2 5 (zcI 60 [vR x2, vI l1] h fun x4 h3 => (if x4 = 0 then some (some (vI (-1001)), h3) else (zgR h3 l0 8 1 fun x5 => (zgR h3 x5 3 0 fun x6 => (zvr h3 x6 5 (zcI 61 [vR x6, vI l1] h3 fun x8 h7 => (if x8 = 0 then (zgR h7 l0 8 1 fun x9 => (zgR h7 x9 3 0 fun x10 => (zvr h7 x10 5 (zcI 62 [vR x10, vI l1] h7 fun x12 h11 => some (some (vI x12), h11))))) else some (some (vI (-1003)), h7))))))))))) := by
  refine (zv_an c59_0 rfl).trans ?_
  refine (zv_gR c59_1 zf8_1).trans (zgR_c fun x1 => ?_)
  refine (zv_gR c59_4 zf3_0).trans (zgR_c fun x2 => ?_)
  refine (zv_in c59_7 rfl).trans ?_
  refine (zv_viI c59_8 zcn_60 rfl zL_60 (Or.inr zrt_60) rfl rfl).trans (zvr_c (zcI_c fun x4 h3 => ?_))
  refine (zv_ifne c59_11).trans (zif_c ?_ ?_)
  · refine (zv_si (v := -1001) c59_14 (by decide)).trans ?_
    exact zv_ir c59_17 zrt_59
  · refine (zv_an c59_18 rfl).trans ?_
    refine (zv_gR c59_19 zf8_1).trans (zgR_c fun x5 => ?_)
    refine (zv_gR c59_22 zf3_0).trans (zgR_c fun x6 => ?_)
    refine (zv_in c59_25 rfl).trans ?_
    refine (zv_viI c59_26 zcn_61 rfl zL_61 (Or.inr zrt_61) rfl rfl).trans (zvr_c (zcI_c fun x8 h7 => ?_))
    refine (zv_ifeq c59_29).trans (zif_c ?_ ?_)
    · refine (zv_an c59_38 rfl).trans ?_
      refine (zv_gR c59_39 zf8_1).trans (zgR_c fun x9 => ?_)
      refine (zv_gR c59_42 zf3_0).trans (zgR_c fun x10 => ?_)
      refine (zv_in c59_45 rfl).trans ?_
      refine (zv_viI c59_46 zcn_62 rfl zL_62 (Or.inl zrt_62) rfl rfl).trans (zvr_c (zcI_c fun x12 h11 => ?_))
      exact zv_ir c59_49 zrt_59
    · refine (zv_si (v := -1003) c59_32 (by decide)).trans ?_
      refine (zv_goto c59_35).trans ?_
      exact zv_ir c59_49 zrt_59
theorem e59 (l0 : Option Nat) (l1 : Int32) (h : zH) : zcall 59 [vR l0, vI l1] h = (zgR h l0 8 1 fun x1 => (zgR h x1 3 0 fun x2 => (zvr h x2 5 (zcI 60 [vR x2, vI l1] h fun x4 h3 => (if x4 = 0 then some (some (vI (-1001)), h3) else (zgR h3 l0 8 1 fun x5 => (zgR h3 x5 3 0 fun x6 => (zvr h3 x6 5 (zcI 61 [vR x6, vI l1] h3 fun x8 h7 => (if x8 = 0 then (zgR h7 l0 8 1 fun x9 => (zgR h7 x9 3 0 fun x10 => (zvr h7 x10 5 (zcI 62 [vR x10, vI l1] h7 fun x12 h11 => some (some (vI x12), h11))))) else some (some (vI (-1003)), h7))))))))))) := by
  refine Eq.trans ?_ (b59_0 l0 l1 h)
  unfold zcall zent
  rw [zL_59]
  rfl
theorem c60_0 : zcod 60 0 = some (.iload_n 1, 1, 0, 0, 0, 0) := by decide +kernel
theorem c60_1 : zcod 60 1 = some (.ifCond .lt 15, 3, 16, 0, 0, 0) := by decide +kernel
theorem c60_4 : zcod 60 4 = some (.iload_n 1, 1, 0, 0, 0, 0) := by decide +kernel
theorem c60_5 : zcod 60 5 = some (.aload_n 0, 1, 0, 0, 0, 0) := by decide +kernel
theorem c60_6 : zcod 60 6 = some (.getfield 46, 3, 5, 3, 152, 0) := by decide +kernel
theorem c60_9 : zcod 60 9 = some (.if_icmp .ge 7, 3, 16, 0, 0, 0) := by decide +kernel
theorem c60_12 : zcod 60 12 = some (.iconst 1, 1, 0, 0, 0, 0) := by decide +kernel
theorem c60_13 : zcod 60 13 = some (.goto 4, 3, 17, 0, 0, 0) := by decide +kernel
theorem c60_16 : zcod 60 16 = some (.iconst 0, 1, 0, 0, 0, 0) := by decide +kernel
theorem c60_17 : zcod 60 17 = some (.ireturn, 1, 0, 0, 0, 0) := by decide +kernel
set_option maxRecDepth 100000 in
theorem b60_0 (l0 : Option Nat) (l1 : Int32) (h : zH) : zev 60 0 [some (vR l0), some (vI l1)] [] h = (if l1 < 0 then zbo 0 (some (some (vI 0), h)) else (zgI h l0 5 3 fun x1 => (if l1 < x1 then zbo 1 (some (some (vI 1), h)) else zbo 0 (some (some (vI 0), h))))) := by
  refine (zv_in c60_0 rfl).trans ?_
  refine (zv_iflt c60_1).trans (zif_c ?_ ?_)
  · refine (zv_k (v := 0) c60_16 (by decide)).trans ?_
    exact zv_iz c60_17 zrt_60
  · refine (zv_in c60_4 rfl).trans ?_
    refine (zv_an c60_5 rfl).trans ?_
    refine (zv_gI c60_6 zg5_3).trans (zgI_c fun x1 => ?_)
    refine (zv_icge c60_9).trans (zif_c ?_ ?_)
    · refine (zv_k (v := 1) c60_12 (by decide)).trans ?_
      refine (zv_goto c60_13).trans ?_
      exact zv_iz c60_17 zrt_60
    · refine (zv_k (v := 0) c60_16 (by decide)).trans ?_
      exact zv_iz c60_17 zrt_60
theorem e60 (l0 : Option Nat) (l1 : Int32) (h : zH) : zcall 60 [vR l0, vI l1] h = (if l1 < 0 then zbo 0 (some (some (vI 0), h)) else (zgI h l0 5 3 fun x1 => (if l1 < x1 then zbo 1 (some (some (vI 1), h)) else zbo 0 (some (some (vI 0), h))))) := by
  refine Eq.trans ?_ (b60_0 l0 l1 h)
  unfold zcall zent
  rw [zL_60]
  rfl
theorem c61_0 : zcod 61 0 = some (.iload_n 1, 1, 0, 0, 0, 0) := by decide +kernel
theorem c61_1 : zcod 61 1 = some (.ifCond .lt 25, 3, 26, 0, 0, 0) := by decide +kernel
theorem c61_4 : zcod 61 4 = some (.iload_n 1, 1, 0, 0, 0, 0) := by decide +kernel
theorem c61_5 : zcod 61 5 = some (.aload_n 0, 1, 0, 0, 0, 0) := by decide +kernel
theorem c61_6 : zcod 61 6 = some (.getfield 15, 3, 5, 1, 146, 0) := by decide +kernel
theorem c61_9 : zcod 61 9 = some (.arraylength, 1, 0, 0, 0, 0) := by decide +kernel
theorem c61_10 : zcod 61 10 = some (.if_icmp .ge 16, 3, 26, 0, 0, 0) := by decide +kernel
theorem c61_13 : zcod 61 13 = some (.aload_n 0, 1, 0, 0, 0, 0) := by decide +kernel
theorem c61_14 : zcod 61 14 = some (.getfield 15, 3, 5, 1, 146, 0) := by decide +kernel
theorem c61_17 : zcod 61 17 = some (.iload_n 1, 1, 0, 0, 0, 0) := by decide +kernel
theorem c61_18 : zcod 61 18 = some (.baload, 1, 0, 0, 0, 0) := by decide +kernel
theorem c61_19 : zcod 61 19 = some (.ifCond .eq 7, 3, 26, 0, 0, 0) := by decide +kernel
theorem c61_22 : zcod 61 22 = some (.iconst 1, 1, 0, 0, 0, 0) := by decide +kernel
theorem c61_23 : zcod 61 23 = some (.goto 4, 3, 27, 0, 0, 0) := by decide +kernel
theorem c61_26 : zcod 61 26 = some (.iconst 0, 1, 0, 0, 0, 0) := by decide +kernel
theorem c61_27 : zcod 61 27 = some (.ireturn, 1, 0, 0, 0, 0) := by decide +kernel
set_option maxRecDepth 100000 in
theorem b61_0 (l0 : Option Nat) (l1 : Int32) (h : zH) : zev 61 0 [some (vR l0), some (vI l1)] [] h = (if l1 < 0 then zbo 0 (some (some (vI 0), h)) else (zgR h l0 5 1 fun x1 => (zal h x1 fun x2 => (if l1 < x2 then (zgR h l0 5 1 fun x3 => (zaB h x3 l1 fun x4 => (if x4 = 0 then zbo 0 (some (some (vI 0), h)) else zbo 1 (some (some (vI 1), h))))) else zbo 0 (some (some (vI 0), h)))))) := by
  refine (zv_in c61_0 rfl).trans ?_
  refine (zv_iflt c61_1).trans (zif_c ?_ ?_)
  · refine (zv_k (v := 0) c61_26 (by decide)).trans ?_
    exact zv_iz c61_27 zrt_61
  · refine (zv_in c61_4 rfl).trans ?_
    refine (zv_an c61_5 rfl).trans ?_
    refine (zv_gR c61_6 zf5_1).trans (zgR_c fun x1 => ?_)
    refine (zv_al2 c61_9).trans (zal_c fun x2 => ?_)
    refine (zv_icge c61_10).trans (zif_c ?_ ?_)
    · refine (zv_an c61_13 rfl).trans ?_
      refine (zv_gR c61_14 zf5_1).trans (zgR_c fun x3 => ?_)
      refine (zv_in c61_17 rfl).trans ?_
      refine (zv_aB c61_18).trans (zaB_c fun x4 => ?_)
      refine (zv_ifeq c61_19).trans (zif_c ?_ ?_)
      · refine (zv_k (v := 0) c61_26 (by decide)).trans ?_
        exact zv_iz c61_27 zrt_61
      · refine (zv_k (v := 1) c61_22 (by decide)).trans ?_
        refine (zv_goto c61_23).trans ?_
        exact zv_iz c61_27 zrt_61
    · refine (zv_k (v := 0) c61_26 (by decide)).trans ?_
      exact zv_iz c61_27 zrt_61
theorem e61 (l0 : Option Nat) (l1 : Int32) (h : zH) : zcall 61 [vR l0, vI l1] h = (if l1 < 0 then zbo 0 (some (some (vI 0), h)) else (zgR h l0 5 1 fun x1 => (zal h x1 fun x2 => (if l1 < x2 then (zgR h l0 5 1 fun x3 => (zaB h x3 l1 fun x4 => (if x4 = 0 then zbo 0 (some (some (vI 0), h)) else zbo 1 (some (some (vI 1), h))))) else zbo 0 (some (some (vI 0), h)))))) := by
  refine Eq.trans ?_ (b61_0 l0 l1 h)
  unfold zcall zent
  rw [zL_61]
  rfl
theorem c62_0 : zcod 62 0 = some (.iload_n 1, 1, 0, 0, 0, 0) := by decide +kernel
theorem c62_1 : zcod 62 1 = some (.ifCond .lt 12, 3, 13, 0, 0, 0) := by decide +kernel
theorem c62_4 : zcod 62 4 = some (.iload_n 1, 1, 0, 0, 0, 0) := by decide +kernel
theorem c62_5 : zcod 62 5 = some (.aload_n 0, 1, 0, 0, 0, 0) := by decide +kernel
theorem c62_6 : zcod 62 6 = some (.getfield 15, 3, 5, 1, 146, 0) := by decide +kernel
theorem c62_9 : zcod 62 9 = some (.arraylength, 1, 0, 0, 0, 0) := by decide +kernel
theorem c62_10 : zcod 62 10 = some (.if_icmp .lt 5, 3, 15, 0, 0, 0) := by decide +kernel
theorem c62_13 : zcod 62 13 = some (.iconst 0, 1, 0, 0, 0, 0) := by decide +kernel
theorem c62_14 : zcod 62 14 = some (.ireturn, 1, 0, 0, 0, 0) := by decide +kernel
theorem c62_15 : zcod 62 15 = some (.aload_n 0, 1, 0, 0, 0, 0) := by decide +kernel
theorem c62_16 : zcod 62 16 = some (.getfield 15, 3, 5, 1, 146, 0) := by decide +kernel
theorem c62_19 : zcod 62 19 = some (.iload_n 1, 1, 0, 0, 0, 0) := by decide +kernel
theorem c62_20 : zcod 62 20 = some (.iconst 1, 1, 0, 0, 0, 0) := by decide +kernel
theorem c62_21 : zcod 62 21 = some (.bastore, 1, 0, 0, 0, 0) := by decide +kernel
theorem c62_22 : zcod 62 22 = some (.iconst 0, 1, 0, 0, 0, 0) := by decide +kernel
theorem c62_23 : zcod 62 23 = some (.istore_n 2, 1, 0, 0, 0, 0) := by decide +kernel
theorem c62_24 : zcod 62 24 = some (.iconst 0, 1, 0, 0, 0, 0) := by decide +kernel
theorem c62_25 : zcod 62 25 = some (.istore_n 3, 1, 0, 0, 0, 0) := by decide +kernel
theorem c62_26 : zcod 62 26 = some (.iload_n 3, 1, 0, 0, 0, 0) := by decide +kernel
theorem c62_27 : zcod 62 27 = some (.aload_n 0, 1, 0, 0, 0, 0) := by decide +kernel
theorem c62_28 : zcod 62 28 = some (.getfield 9, 3, 5, 0, 145, 0) := by decide +kernel
theorem c62_31 : zcod 62 31 = some (.arraylength, 1, 0, 0, 0, 0) := by decide +kernel
theorem c62_32 : zcod 62 32 = some (.if_icmp .ge 56, 3, 88, 0, 0, 0) := by decide +kernel
theorem c62_35 : zcod 62 35 = some (.aload_n 0, 1, 0, 0, 0, 0) := by decide +kernel
theorem c62_36 : zcod 62 36 = some (.getfield 9, 3, 5, 0, 145, 0) := by decide +kernel
theorem c62_39 : zcod 62 39 = some (.iload_n 3, 1, 0, 0, 0, 0) := by decide +kernel
theorem c62_40 : zcod 62 40 = some (.iaload, 1, 0, 0, 0, 0) := by decide +kernel
theorem c62_41 : zcod 62 41 = some (.bipush 100, 2, 0, 0, 0, 0) := by decide +kernel
theorem c62_43 : zcod 62 43 = some (.iload_n 1, 1, 0, 0, 0, 0) := by decide +kernel
theorem c62_44 : zcod 62 44 = some (.iadd, 1, 0, 0, 0, 0) := by decide +kernel
theorem c62_45 : zcod 62 45 = some (.if_icmp .ne 37, 3, 82, 0, 0, 0) := by decide +kernel
theorem c62_48 : zcod 62 48 = some (.aload_n 0, 1, 0, 0, 0, 0) := by decide +kernel
theorem c62_49 : zcod 62 49 = some (.getfield 9, 3, 5, 0, 145, 0) := by decide +kernel
theorem c62_52 : zcod 62 52 = some (.iload_n 3, 1, 0, 0, 0, 0) := by decide +kernel
theorem c62_53 : zcod 62 53 = some (.sipush 200, 3, 0, 0, 0, 0) := by decide +kernel
theorem c62_56 : zcod 62 56 = some (.iload_n 1, 1, 0, 0, 0, 0) := by decide +kernel
theorem c62_57 : zcod 62 57 = some (.iadd, 1, 0, 0, 0, 0) := by decide +kernel
theorem c62_58 : zcod 62 58 = some (.iastore, 1, 0, 0, 0, 0) := by decide +kernel
theorem c62_59 : zcod 62 59 = some (.iload_n 2, 1, 0, 0, 0, 0) := by decide +kernel
theorem c62_60 : zcod 62 60 = some (.aload_n 0, 1, 0, 0, 0, 0) := by decide +kernel
theorem c62_61 : zcod 62 61 = some (.iload_n 3, 1, 0, 0, 0, 0) := by decide +kernel
theorem c62_62 : zcod 62 62 = some (.bipush 20, 2, 0, 0, 0, 0) := by decide +kernel
theorem c62_64 : zcod 62 64 = some (.irem, 1, 0, 0, 0, 0) := by decide +kernel
theorem c62_65 : zcod 62 65 = some (.iload_n 3, 1, 0, 0, 0, 0) := by decide +kernel
theorem c62_66 : zcod 62 66 = some (.bipush 20, 2, 0, 0, 0, 0) := by decide +kernel
theorem c62_68 : zcod 62 68 = some (.idiv, 1, 0, 0, 0, 0) := by decide +kernel
theorem c62_69 : zcod 62 69 = some (.invokevirtual 68, 3, 63, 2, 552, 0) := by decide +kernel
theorem c62_72 : zcod 62 72 = some (.ifCond .eq 7, 3, 79, 0, 0, 0) := by decide +kernel
theorem c62_75 : zcod 62 75 = some (.iconst 1, 1, 0, 0, 0, 0) := by decide +kernel
theorem c62_76 : zcod 62 76 = some (.goto 4, 3, 80, 0, 0, 0) := by decide +kernel
theorem c62_79 : zcod 62 79 = some (.iconst 0, 1, 0, 0, 0, 0) := by decide +kernel
theorem c62_80 : zcod 62 80 = some (.iadd, 1, 0, 0, 0, 0) := by decide +kernel
theorem c62_81 : zcod 62 81 = some (.istore_n 2, 1, 0, 0, 0, 0) := by decide +kernel
theorem c62_82 : zcod 62 82 = some (.iinc 3 1, 3, 0, 0, 0, 0) := by decide +kernel
theorem c62_85 : zcod 62 85 = some (.goto (-59), 3, 26, 0, 0, 0) := by decide +kernel
theorem c62_88 : zcod 62 88 = some (.iload_n 2, 1, 0, 0, 0, 0) := by decide +kernel
theorem c62_89 : zcod 62 89 = some (.ireturn, 1, 0, 0, 0, 0) := by decide +kernel
set_option maxRecDepth 100000 in
theorem b62_0 (l0 : Option Nat) (l1 : Int32) (h : zH) : zev 62 0 [some (vR l0), some (vI l1), none, none] [] h = (if l1 < 0 then some (some (vI 0), h) else (zgR h l0 5 1 fun x1 => (zal h x1 fun x2 => (if l1 < x2 then (zgR h l0 5 1 fun x3 => (ztB h x3 l1 1 fun h4 => zev 62 26 [some (vR l0), some (vI l1), some (vI 0), some (vI 0)] [] h4)) else some (some (vI 0), h))))) := by
  refine (zv_in c62_0 rfl).trans ?_
  refine (zv_iflt c62_1).trans (zif_c ?_ ?_)
  · refine (zv_k (v := 0) c62_13 (by decide)).trans ?_
    exact zv_ir c62_14 zrt_62
  · refine (zv_in c62_4 rfl).trans ?_
    refine (zv_an c62_5 rfl).trans ?_
    refine (zv_gR c62_6 zf5_1).trans (zgR_c fun x1 => ?_)
    refine (zv_al2 c62_9).trans (zal_c fun x2 => ?_)
    refine (zv_iclt c62_10).trans (zif_c ?_ ?_)
    · refine (zv_an c62_15 rfl).trans ?_
      refine (zv_gR c62_16 zf5_1).trans (zgR_c fun x3 => ?_)
      refine (zv_in c62_19 rfl).trans ?_
      refine (zv_k (v := 1) c62_20 (by decide)).trans ?_
      refine (zv_tB c62_21).trans (ztB_c fun h4 => ?_)
      refine (zv_k (v := 0) c62_22 (by decide)).trans ?_
      refine (zv_it c62_23 rfl).trans ?_
      refine (zv_k (v := 0) c62_24 (by decide)).trans ?_
      refine (zv_it c62_25 rfl).trans ?_
      rfl
    · refine (zv_k (v := 0) c62_13 (by decide)).trans ?_
      exact zv_ir c62_14 zrt_62
theorem e62 (l0 : Option Nat) (l1 : Int32) (h : zH) : zcall 62 [vR l0, vI l1] h = (if l1 < 0 then some (some (vI 0), h) else (zgR h l0 5 1 fun x1 => (zal h x1 fun x2 => (if l1 < x2 then (zgR h l0 5 1 fun x3 => (ztB h x3 l1 1 fun h4 => zev 62 26 [some (vR l0), some (vI l1), some (vI 0), some (vI 0)] [] h4)) else some (some (vI 0), h))))) := by
  refine Eq.trans ?_ (b62_0 l0 l1 h)
  unfold zcall zent
  rw [zL_62]
  rfl
set_option maxRecDepth 100000 in
theorem b62_26 (l0 : Option Nat) (l1 : Int32) (l2 : Int32) (l3 : Int32) (h : zH) : zev 62 26 [some (vR l0), some (vI l1), some (vI l2), some (vI l3)] [] h = (zgR h l0 5 0 fun x1 => (zal h x1 fun x2 => (if l3 < x2 then (zgR h l0 5 0 fun x3 => (zaI h x3 l3 fun x4 => (if x4 = (100 + l1) then (zgR h l0 5 0 fun x5 => (ztI h x5 l3 (200 + l1) fun h6 => (zdv 20 ((zdv 20 ((zvr h6 l0 5 (zcI 63 [vR l0, vI (l3 - l3 / 20 * 20), vI (l3 / 20)] h6 fun x8 h7 => (if x8 = 0 then zev 62 26 [some (vR l0), some (vI l1), some (vI (l2 + 0)), some (vI (l3 + 1))] [] h7 else zev 62 26 [some (vR l0), some (vI l1), some (vI (l2 + 1)), some (vI (l3 + 1))] [] h7))))))))) else zev 62 26 [some (vR l0), some (vI l1), some (vI l2), some (vI (l3 + 1))] [] h))) else some (some (vI l2), h)))) := by
  refine (zv_in c62_26 rfl).trans ?_
  refine (zv_an c62_27 rfl).trans ?_
  refine (zv_gR c62_28 zf5_0).trans (zgR_c fun x1 => ?_)
  refine (zv_al2 c62_31).trans (zal_c fun x2 => ?_)
  refine (zv_icge c62_32).trans (zif_c ?_ ?_)
  · refine (zv_an c62_35 rfl).trans ?_
    refine (zv_gR c62_36 zf5_0).trans (zgR_c fun x3 => ?_)
    refine (zv_in c62_39 rfl).trans ?_
    refine (zv_aI c62_40).trans (zaI_c fun x4 => ?_)
    refine (zv_bi (v := 100) c62_41 (by decide)).trans ?_
    refine (zv_in c62_43 rfl).trans ?_
    refine (zv_iadd c62_44).trans ?_
    refine (zv_icne c62_45).trans (zif_c ?_ ?_)
    · refine (zv_an c62_48 rfl).trans ?_
      refine (zv_gR c62_49 zf5_0).trans (zgR_c fun x5 => ?_)
      refine (zv_in c62_52 rfl).trans ?_
      refine (zv_si (v := 200) c62_53 (by decide)).trans ?_
      refine (zv_in c62_56 rfl).trans ?_
      refine (zv_iadd c62_57).trans ?_
      refine (zv_tI c62_58).trans (ztI_c fun h6 => ?_)
      refine (zv_in c62_59 rfl).trans ?_
      refine (zv_an c62_60 rfl).trans ?_
      refine (zv_in c62_61 rfl).trans ?_
      refine (zv_bi (v := 20) c62_62 (by decide)).trans ?_
      refine (zv_rem c62_64).trans (zdv_c ?_)
      refine (zv_in c62_65 rfl).trans ?_
      refine (zv_bi (v := 20) c62_66 (by decide)).trans ?_
      refine (zv_div c62_68).trans (zdv_c ?_)
      refine (zv_viI c62_69 zcn_63 rfl zL_63 (Or.inr zrt_63) rfl rfl).trans (zvr_c (zcI_c fun x8 h7 => ?_))
      refine (zv_ifeq c62_72).trans (zif_c ?_ ?_)
      · refine (zv_k (v := 0) c62_79 (by decide)).trans ?_
        refine (zv_iadd c62_80).trans ?_
        refine (zv_it c62_81 rfl).trans ?_
        refine (zv_inc (y := 1) c62_82 rfl (by decide) rfl).trans ?_
        refine (zv_goto c62_85).trans ?_
        rfl
      · refine (zv_k (v := 1) c62_75 (by decide)).trans ?_
        refine (zv_goto c62_76).trans ?_
        refine (zv_iadd c62_80).trans ?_
        refine (zv_it c62_81 rfl).trans ?_
        refine (zv_inc (y := 1) c62_82 rfl (by decide) rfl).trans ?_
        refine (zv_goto c62_85).trans ?_
        rfl
    · refine (zv_inc (y := 1) c62_82 rfl (by decide) rfl).trans ?_
      refine (zv_goto c62_85).trans ?_
      rfl
  · refine (zv_in c62_88 rfl).trans ?_
    exact zv_ir c62_89 zrt_62
theorem c63_0 : zcod 63 0 = some (.aconst_null, 1, 0, 0, 0, 0) := by decide +kernel
theorem c63_1 : zcod 63 1 = some (.astore_n 3, 1, 0, 0, 0, 0) := by decide +kernel
theorem c63_2 : zcod 63 2 = some (.aconst_null, 1, 0, 0, 0, 0) := by decide +kernel
theorem c63_3 : zcod 63 3 = some (.astore 4, 2, 0, 0, 0, 0) := by decide +kernel
theorem c63_5 : zcod 63 5 = some (.iconst 0, 1, 0, 0, 0, 0) := by decide +kernel
theorem c63_6 : zcod 63 6 = some (.istore 5, 2, 0, 0, 0, 0) := by decide +kernel
theorem c63_8 : zcod 63 8 = some (.iload 5, 2, 0, 0, 0, 0) := by decide +kernel
theorem c63_10 : zcod 63 10 = some (.aload_n 0, 1, 0, 0, 0, 0) := by decide +kernel
theorem c63_11 : zcod 63 11 = some (.getfield 22, 3, 5, 2, 147, 0) := by decide +kernel
theorem c63_14 : zcod 63 14 = some (.invokevirtual 36, 3, 14, 0, 300, 0) := by decide +kernel
theorem c63_17 : zcod 63 17 = some (.if_icmp .ge 63, 3, 80, 0, 0, 0) := by decide +kernel
theorem c63_20 : zcod 63 20 = some (.aload 4, 2, 0, 0, 0, 0) := by decide +kernel
theorem c63_22 : zcod 63 22 = some (.ifnonnull 58, 3, 80, 0, 0, 0) := by decide +kernel
theorem c63_25 : zcod 63 25 = some (.aload_n 0, 1, 0, 0, 0, 0) := by decide +kernel
theorem c63_26 : zcod 63 26 = some (.getfield 22, 3, 5, 2, 147, 0) := by decide +kernel
theorem c63_29 : zcod 63 29 = some (.iload 5, 2, 0, 0, 0, 0) := by decide +kernel
theorem c63_31 : zcod 63 31 = some (.invokevirtual 40, 3, 51, 1, 503, 0) := by decide +kernel
theorem c63_34 : zcod 63 34 = some (.checkcast 44, 3, 2, 0, 301, 0) := by decide +kernel
theorem c63_37 : zcod 63 37 = some (.astore 6, 2, 0, 0, 0, 0) := by decide +kernel
theorem c63_39 : zcod 63 39 = some (.aload 6, 2, 0, 0, 0, 0) := by decide +kernel
theorem c63_41 : zcod 63 41 = some (.iload_n 1, 1, 0, 0, 0, 0) := by decide +kernel
theorem c63_42 : zcod 63 42 = some (.iload_n 2, 1, 0, 0, 0, 0) := by decide +kernel
theorem c63_43 : zcod 63 43 = some (.iconst 1, 1, 0, 0, 0, 0) := by decide +kernel
theorem c63_44 : zcod 63 44 = some (.iconst 1, 1, 0, 0, 0, 0) := by decide +kernel
theorem c63_45 : zcod 63 45 = some (.invokevirtual 71, 3, 57, 4, 528, 0) := by decide +kernel
theorem c63_48 : zcod 63 48 = some (.ifCond .eq 26, 3, 74, 0, 0, 0) := by decide +kernel
theorem c63_51 : zcod 63 51 = some (.aload_n 3, 1, 0, 0, 0, 0) := by decide +kernel
theorem c63_52 : zcod 63 52 = some (.ifnonnull 7, 3, 59, 0, 0, 0) := by decide +kernel
theorem c63_55 : zcod 63 55 = some (.aconst_null, 1, 0, 0, 0, 0) := by decide +kernel
theorem c63_56 : zcod 63 56 = some (.goto 5, 3, 61, 0, 0, 0) := by decide +kernel
theorem c63_59 : zcod 63 59 = some (.aload 6, 2, 0, 0, 0, 0) := by decide +kernel
theorem c63_61 : zcod 63 61 = some (.astore 4, 2, 0, 0, 0, 0) := by decide +kernel
theorem c63_63 : zcod 63 63 = some (.aload_n 3, 1, 0, 0, 0, 0) := by decide +kernel
theorem c63_64 : zcod 63 64 = some (.ifnonnull 8, 3, 72, 0, 0, 0) := by decide +kernel
theorem c63_67 : zcod 63 67 = some (.aload 6, 2, 0, 0, 0, 0) := by decide +kernel
theorem c63_69 : zcod 63 69 = some (.goto 4, 3, 73, 0, 0, 0) := by decide +kernel
theorem c63_72 : zcod 63 72 = some (.aload_n 3, 1, 0, 0, 0, 0) := by decide +kernel
theorem c63_73 : zcod 63 73 = some (.astore_n 3, 1, 0, 0, 0, 0) := by decide +kernel
theorem c63_74 : zcod 63 74 = some (.iinc 5 1, 3, 0, 0, 0, 0) := by decide +kernel
theorem c63_77 : zcod 63 77 = some (.goto (-69), 3, 8, 0, 0, 0) := by decide +kernel
theorem c63_80 : zcod 63 80 = some (.aload_n 3, 1, 0, 0, 0, 0) := by decide +kernel
theorem c63_81 : zcod 63 81 = some (.ifnonnull 5, 3, 86, 0, 0, 0) := by decide +kernel
theorem c63_84 : zcod 63 84 = some (.iconst 0, 1, 0, 0, 0, 0) := by decide +kernel
theorem c63_85 : zcod 63 85 = some (.ireturn, 1, 0, 0, 0, 0) := by decide +kernel
theorem c63_86 : zcod 63 86 = some (.aload 4, 2, 0, 0, 0, 0) := by decide +kernel
theorem c63_88 : zcod 63 88 = some (.ifnonnull 16, 3, 104, 0, 0, 0) := by decide +kernel
theorem c63_91 : zcod 63 91 = some (.aload_n 3, 1, 0, 0, 0, 0) := by decide +kernel
theorem c63_92 : zcod 63 92 = some (.dup, 1, 0, 0, 0, 0) := by decide +kernel
theorem c63_93 : zcod 63 93 = some (.getfield 75, 3, 2, 5, 322, 0) := by decide +kernel
theorem c63_96 : zcod 63 96 = some (.iconst 2, 1, 0, 0, 0, 0) := by decide +kernel
theorem c63_97 : zcod 63 97 = some (.iadd, 1, 0, 0, 0, 0) := by decide +kernel
theorem c63_98 : zcod 63 98 = some (.putfield 75, 3, 2, 5, 322, 0) := by decide +kernel
theorem c63_101 : zcod 63 101 = some (.goto 24, 3, 125, 0, 0, 0) := by decide +kernel
theorem c63_104 : zcod 63 104 = some (.aload_n 3, 1, 0, 0, 0, 0) := by decide +kernel
theorem c63_105 : zcod 63 105 = some (.dup, 1, 0, 0, 0, 0) := by decide +kernel
theorem c63_106 : zcod 63 106 = some (.getfield 75, 3, 2, 5, 322, 0) := by decide +kernel
theorem c63_109 : zcod 63 109 = some (.iconst 1, 1, 0, 0, 0, 0) := by decide +kernel
theorem c63_110 : zcod 63 110 = some (.iadd, 1, 0, 0, 0, 0) := by decide +kernel
theorem c63_111 : zcod 63 111 = some (.putfield 75, 3, 2, 5, 322, 0) := by decide +kernel
theorem c63_114 : zcod 63 114 = some (.aload 4, 2, 0, 0, 0, 0) := by decide +kernel
theorem c63_116 : zcod 63 116 = some (.dup, 1, 0, 0, 0, 0) := by decide +kernel
theorem c63_117 : zcod 63 117 = some (.getfield 75, 3, 2, 5, 322, 0) := by decide +kernel
theorem c63_120 : zcod 63 120 = some (.iconst 1, 1, 0, 0, 0, 0) := by decide +kernel
theorem c63_121 : zcod 63 121 = some (.iadd, 1, 0, 0, 0, 0) := by decide +kernel
theorem c63_122 : zcod 63 122 = some (.putfield 75, 3, 2, 5, 322, 0) := by decide +kernel
theorem c63_125 : zcod 63 125 = some (.iconst 1, 1, 0, 0, 0, 0) := by decide +kernel
theorem c63_126 : zcod 63 126 = some (.ireturn, 1, 0, 0, 0, 0) := by decide +kernel
set_option maxRecDepth 100000 in
theorem b63_0 (l0 : Option Nat) (l1 : Int32) (l2 : Int32) (h : zH) : zev 63 0 [some (vR l0), some (vI l1), some (vI l2), none, none, none, none] [] h = zev 63 8 [some (vR l0), some (vI l1), some (vI l2), some (vR none), some (vR none), some (vI 0), none] [] h := by
  refine (zv_null c63_0).trans ?_
  refine (zv_at c63_1 rfl).trans ?_
  refine (zv_null c63_2).trans ?_
  refine (zv_as c63_3 rfl).trans ?_
  refine (zv_k (v := 0) c63_5 (by decide)).trans ?_
  refine (zv_is c63_6 rfl).trans ?_
  rfl
theorem e63 (l0 : Option Nat) (l1 : Int32) (l2 : Int32) (h : zH) : zcall 63 [vR l0, vI l1, vI l2] h = zev 63 8 [some (vR l0), some (vI l1), some (vI l2), some (vR none), some (vR none), some (vI 0), none] [] h := by
  refine Eq.trans ?_ (b63_0 l0 l1 l2 h)
  unfold zcall zent
  rw [zL_63]
  rfl
set_option maxRecDepth 100000 in
theorem b63_8 (l0 : Option Nat) (l1 : Int32) (l2 : Int32) (l3 : Option Nat) (l4 : Option Nat) (l5 : Int32) (l6 : Option zV) (h : zH) : zev 63 8 [some (vR l0), some (vI l1), some (vI l2), some (vR l3), some (vR l4), some (vI l5), l6] [] h = (zgR h l0 5 2 fun x1 => (zvr h x1 0 (zcI 14 [vR x1] h fun x3 h2 => (if l5 < x3 then (zul l4 ((zgR h2 l0 5 2 fun x4 => (zvr h2 x4 0 (zcR 51 [vR x4, vI l5] h2 fun x6 h5 => (zca h5 2 x6 ((zvr h5 x6 2 (zcI 57 [vR x6, vI l1, vI l2, vI 1, vI 1] h5 fun x8 h7 => (if x8 = 0 then zev 63 8 [some (vR l0), some (vI l1), some (vI l2), some (vR l3), some (vR l4), some (vI (l5 + 1)), some (vR x6)] [] h7 else (zul l3 ((zul l3 (zev 63 8 [some (vR l0), some (vI l1), some (vI l2), some (vR x6), some (vR none), some (vI (l5 + 1)), some (vR x6)] [] h7) (zev 63 8 [some (vR l0), some (vI l1), some (vI l2), some (vR l3), some (vR none), some (vI (l5 + 1)), some (vR x6)] [] h7))) ((zul l3 (zev 63 8 [some (vR l0), some (vI l1), some (vI l2), some (vR x6), some (vR x6), some (vI (l5 + 1)), some (vR x6)] [] h7) (zev 63 8 [some (vR l0), some (vI l1), some (vI l2), some (vR l3), some (vR x6), some (vI (l5 + 1)), some (vR x6)] [] h7))))))))))))) (zev 63 80 [some (vR l0), some (vI l1), some (vI l2), some (vR l3), some (vR l4), some (vI l5), l6] [] h2)) else zev 63 80 [some (vR l0), some (vI l1), some (vI l2), some (vR l3), some (vR l4), some (vI l5), l6] [] h2)))) := by
  refine (zv_il c63_8 rfl).trans ?_
  refine (zv_an c63_10 rfl).trans ?_
  refine (zv_gR c63_11 zf5_2).trans (zgR_c fun x1 => ?_)
  refine (zv_viI c63_14 zcn_14 rfl zL_14 (Or.inl zrt_14) rfl rfl).trans (zvr_c (zcI_c fun x3 h2 => ?_))
  refine (zv_icge c63_17).trans (zif_c ?_ ?_)
  · refine (zv_al c63_20 rfl).trans ?_
    refine (zv_nn c63_22).trans (zul_c ?_ ?_)
    · refine (zv_an c63_25 rfl).trans ?_
      refine (zv_gR c63_26 zf5_2).trans (zgR_c fun x4 => ?_)
      refine (zv_il c63_29 rfl).trans ?_
      refine (zv_viR c63_31 zcn_51 rfl zL_51 zrt_51 rfl rfl).trans (zvr_c (zcR_c fun x6 h5 => ?_))
      refine (zv_ca c63_34).trans (zca_c ?_)
      refine (zv_as c63_37 rfl).trans ?_
      refine (zv_al c63_39 rfl).trans ?_
      refine (zv_in c63_41 rfl).trans ?_
      refine (zv_in c63_42 rfl).trans ?_
      refine (zv_k (v := 1) c63_43 (by decide)).trans ?_
      refine (zv_k (v := 1) c63_44 (by decide)).trans ?_
      refine (zv_viI c63_45 zcn_57 rfl zL_57 (Or.inr zrt_57) rfl rfl).trans (zvr_c (zcI_c fun x8 h7 => ?_))
      refine (zv_ifeq c63_48).trans (zif_c ?_ ?_)
      · refine (zv_inc (y := 1) c63_74 rfl (by decide) rfl).trans ?_
        refine (zv_goto c63_77).trans ?_
        rfl
      · refine (zv_an c63_51 rfl).trans ?_
        refine (zv_nn c63_52).trans (zul_c ?_ ?_)
        · refine (zv_null c63_55).trans ?_
          refine (zv_goto c63_56).trans ?_
          refine (zv_as c63_61 rfl).trans ?_
          refine (zv_an c63_63 rfl).trans ?_
          refine (zv_nn c63_64).trans (zul_c ?_ ?_)
          · refine (zv_al c63_67 rfl).trans ?_
            refine (zv_goto c63_69).trans ?_
            refine (zv_at c63_73 rfl).trans ?_
            refine (zv_inc (y := 1) c63_74 rfl (by decide) rfl).trans ?_
            refine (zv_goto c63_77).trans ?_
            rfl
          · refine (zv_an c63_72 rfl).trans ?_
            refine (zv_at c63_73 rfl).trans ?_
            refine (zv_inc (y := 1) c63_74 rfl (by decide) rfl).trans ?_
            refine (zv_goto c63_77).trans ?_
            rfl
        · refine (zv_al c63_59 rfl).trans ?_
          refine (zv_as c63_61 rfl).trans ?_
          refine (zv_an c63_63 rfl).trans ?_
          refine (zv_nn c63_64).trans (zul_c ?_ ?_)
          · refine (zv_al c63_67 rfl).trans ?_
            refine (zv_goto c63_69).trans ?_
            refine (zv_at c63_73 rfl).trans ?_
            refine (zv_inc (y := 1) c63_74 rfl (by decide) rfl).trans ?_
            refine (zv_goto c63_77).trans ?_
            rfl
          · refine (zv_an c63_72 rfl).trans ?_
            refine (zv_at c63_73 rfl).trans ?_
            refine (zv_inc (y := 1) c63_74 rfl (by decide) rfl).trans ?_
            refine (zv_goto c63_77).trans ?_
            rfl
    · rfl
  · rfl
set_option maxRecDepth 100000 in
theorem b63_80 (l0 : Option Nat) (l1 : Int32) (l2 : Int32) (l3 : Option Nat) (l4 : Option Nat) (l5 : Int32) (l6 : Option zV) (h : zH) : zev 63 80 [some (vR l0), some (vI l1), some (vI l2), some (vR l3), some (vR l4), some (vI l5), l6] [] h = (zul l3 (zbo 0 (some (some (vI 0), h))) ((zul l4 ((zgI h l3 2 5 fun x1 => (zpI h l3 2 5 (x1 + 2) fun h2 => zbo 1 (some (some (vI 1), h2))))) ((zgI h l3 2 5 fun x3 => (zpI h l3 2 5 (x3 + 1) fun h4 => (zgI h4 l4 2 5 fun x5 => (zpI h4 l4 2 5 (x5 + 1) fun h6 => zbo 1 (some (some (vI 1), h6)))))))))) := by
  refine (zv_an c63_80 rfl).trans ?_
  refine (zv_nn c63_81).trans (zul_c ?_ ?_)
  · refine (zv_k (v := 0) c63_84 (by decide)).trans ?_
    exact zv_iz c63_85 zrt_63
  · refine (zv_al c63_86 rfl).trans ?_
    refine (zv_nn c63_88).trans (zul_c ?_ ?_)
    · refine (zv_an c63_91 rfl).trans ?_
      refine (zv_dup c63_92 rfl).trans ?_
      refine (zv_gI c63_93 zg2_5).trans (zgI_c fun x1 => ?_)
      refine (zv_k (v := 2) c63_96 (by decide)).trans ?_
      refine (zv_iadd c63_97).trans ?_
      refine (zv_pI c63_98 zf2_5).trans (zpI_c fun h2 => ?_)
      refine (zv_goto c63_101).trans ?_
      refine (zv_k (v := 1) c63_125 (by decide)).trans ?_
      exact zv_iz c63_126 zrt_63
    · refine (zv_an c63_104 rfl).trans ?_
      refine (zv_dup c63_105 rfl).trans ?_
      refine (zv_gI c63_106 zg2_5).trans (zgI_c fun x3 => ?_)
      refine (zv_k (v := 1) c63_109 (by decide)).trans ?_
      refine (zv_iadd c63_110).trans ?_
      refine (zv_pI c63_111 zf2_5).trans (zpI_c fun h4 => ?_)
      refine (zv_al c63_114 rfl).trans ?_
      refine (zv_dup c63_116 rfl).trans ?_
      refine (zv_gI c63_117 zg2_5).trans (zgI_c fun x5 => ?_)
      refine (zv_k (v := 1) c63_120 (by decide)).trans ?_
      refine (zv_iadd c63_121).trans ?_
      refine (zv_pI c63_122 zf2_5).trans (zpI_c fun h6 => ?_)
      refine (zv_k (v := 1) c63_125 (by decide)).trans ?_
      exact zv_iz c63_126 zrt_63
theorem c64_0 : zcod 64 0 = some (.iload_n 1, 1, 0, 0, 0, 0) := by decide +kernel
theorem c64_1 : zcod 64 1 = some (.iload_n 2, 1, 0, 0, 0, 0) := by decide +kernel
theorem c64_2 : zcod 64 2 = some (.invokestatic 54, 3, 26, 2, 493, 0) := by decide +kernel
theorem c64_5 : zcod 64 5 = some (.ifCond .ne 7, 3, 12, 0, 0, 0) := by decide +kernel
theorem c64_8 : zcod 64 8 = some (.sipush (-1002), 3, 0, 0, 0, 0) := by decide +kernel
theorem c64_11 : zcod 64 11 = some (.ireturn, 1, 0, 0, 0, 0) := by decide +kernel
theorem c64_12 : zcod 64 12 = some (.aload_n 0, 1, 0, 0, 0, 0) := by decide +kernel
theorem c64_13 : zcod 64 13 = some (.getfield 19, 3, 8, 1, 220, 0) := by decide +kernel
theorem c64_16 : zcod 64 16 = some (.getfield 31, 3, 3, 0, 183, 0) := by decide +kernel
theorem c64_19 : zcod 64 19 = some (.getfield 117, 3, 5, 4, 154, 0) := by decide +kernel
theorem c64_22 : zcod 64 22 = some (.istore_n 3, 1, 0, 0, 0, 0) := by decide +kernel
theorem c64_23 : zcod 64 23 = some (.aload_n 0, 1, 0, 0, 0, 0) := by decide +kernel
theorem c64_24 : zcod 64 24 = some (.getfield 19, 3, 8, 1, 220, 0) := by decide +kernel
theorem c64_27 : zcod 64 27 = some (.getfield 31, 3, 3, 0, 183, 0) := by decide +kernel
theorem c64_30 : zcod 64 30 = some (.iload_n 2, 1, 0, 0, 0, 0) := by decide +kernel
theorem c64_31 : zcod 64 31 = some (.bipush 20, 2, 0, 0, 0, 0) := by decide +kernel
theorem c64_33 : zcod 64 33 = some (.imul, 1, 0, 0, 0, 0) := by decide +kernel
theorem c64_34 : zcod 64 34 = some (.iload_n 1, 1, 0, 0, 0, 0) := by decide +kernel
theorem c64_35 : zcod 64 35 = some (.iadd, 1, 0, 0, 0, 0) := by decide +kernel
theorem c64_36 : zcod 64 36 = some (.putfield 117, 3, 5, 4, 154, 0) := by decide +kernel
theorem c64_39 : zcod 64 39 = some (.iload_n 3, 1, 0, 0, 0, 0) := by decide +kernel
theorem c64_40 : zcod 64 40 = some (.ireturn, 1, 0, 0, 0, 0) := by decide +kernel
set_option maxRecDepth 100000 in
theorem b64_0 (l0 : Option Nat) (l1 : Int32) (l2 : Int32) (h : zH) : zev 64 0 [some (vR l0), some (vI l1), some (vI l2), none] [] h = (zcI 26 [vI l1, vI l2] h fun x2 h1 => (if x2 = 0 then some (some (vI (-1002)), h1) else (zgR h1 l0 8 1 fun x3 => (zgR h1 x3 3 0 fun x4 => (zgI h1 x4 5 4 fun x5 => (zgR h1 l0 8 1 fun x6 => (zgR h1 x6 3 0 fun x7 => (zpI h1 x7 5 4 ((l2 * 20) + l1) fun h8 => some (some (vI x5), h8))))))))) := by
  refine (zv_in c64_0 rfl).trans ?_
  refine (zv_in c64_1 rfl).trans ?_
  refine (zv_stI c64_2 (by decide) rfl zL_26 (Or.inr zrt_26) rfl rfl).trans (zcI_c fun x2 h1 => ?_)
  refine (zv_ifne c64_5).trans (zif_c ?_ ?_)
  · refine (zv_si (v := -1002) c64_8 (by decide)).trans ?_
    exact zv_ir c64_11 zrt_64
  · refine (zv_an c64_12 rfl).trans ?_
    refine (zv_gR c64_13 zf8_1).trans (zgR_c fun x3 => ?_)
    refine (zv_gR c64_16 zf3_0).trans (zgR_c fun x4 => ?_)
    refine (zv_gI c64_19 zg5_4).trans (zgI_c fun x5 => ?_)
    refine (zv_it c64_22 rfl).trans ?_
    refine (zv_an c64_23 rfl).trans ?_
    refine (zv_gR c64_24 zf8_1).trans (zgR_c fun x6 => ?_)
    refine (zv_gR c64_27 zf3_0).trans (zgR_c fun x7 => ?_)
    refine (zv_in c64_30 rfl).trans ?_
    refine (zv_bi (v := 20) c64_31 (by decide)).trans ?_
    refine (zv_imul c64_33).trans ?_
    refine (zv_in c64_34 rfl).trans ?_
    refine (zv_iadd c64_35).trans ?_
    refine (zv_pI c64_36 zf5_4).trans (zpI_c fun h8 => ?_)
    refine (zv_in c64_39 rfl).trans ?_
    exact zv_ir c64_40 zrt_64
theorem e64 (l0 : Option Nat) (l1 : Int32) (l2 : Int32) (h : zH) : zcall 64 [vR l0, vI l1, vI l2] h = (zcI 26 [vI l1, vI l2] h fun x2 h1 => (if x2 = 0 then some (some (vI (-1002)), h1) else (zgR h1 l0 8 1 fun x3 => (zgR h1 x3 3 0 fun x4 => (zgI h1 x4 5 4 fun x5 => (zgR h1 l0 8 1 fun x6 => (zgR h1 x6 3 0 fun x7 => (zpI h1 x7 5 4 ((l2 * 20) + l1) fun h8 => some (some (vI x5), h8))))))))) := by
  refine Eq.trans ?_ (b64_0 l0 l1 l2 h)
  unfold zcall zent
  rw [zL_64]
  rfl
theorem c65_0 : zcod 65 0 = some (.iload_n 1, 1, 0, 0, 0, 0) := by decide +kernel
theorem c65_1 : zcod 65 1 = some (.ifCond .lt 9, 3, 10, 0, 0, 0) := by decide +kernel
theorem c65_4 : zcod 65 4 = some (.iload_n 1, 1, 0, 0, 0, 0) := by decide +kernel
theorem c65_5 : zcod 65 5 = some (.ldc 120, 2, 0, 0, 564, 1000000) := by decide +kernel
theorem c65_7 : zcod 65 7 = some (.if_icmp .le 7, 3, 14, 0, 0, 0) := by decide +kernel
theorem c65_10 : zcod 65 10 = some (.sipush (-1002), 3, 0, 0, 0, 0) := by decide +kernel
theorem c65_13 : zcod 65 13 = some (.ireturn, 1, 0, 0, 0, 0) := by decide +kernel
theorem c65_14 : zcod 65 14 = some (.aload_n 0, 1, 0, 0, 0, 0) := by decide +kernel
theorem c65_15 : zcod 65 15 = some (.getfield 19, 3, 8, 1, 220, 0) := by decide +kernel
theorem c65_18 : zcod 65 18 = some (.getfield 121, 3, 3, 1, 185, 0) := by decide +kernel
theorem c65_21 : zcod 65 21 = some (.iload_n 1, 1, 0, 0, 0, 0) := by decide +kernel
theorem c65_22 : zcod 65 22 = some (.invokevirtual 125, 3, 66, 1, 565, 0) := by decide +kernel
theorem c65_25 : zcod 65 25 = some (.ireturn, 1, 0, 0, 0, 0) := by decide +kernel
set_option maxRecDepth 100000 in
theorem b65_0 (l0 : Option Nat) (l1 : Int32) (h : zH) : zev 65 0 [some (vR l0), some (vI l1)] [] h = (if l1 < 0 then some (some (vI (-1002)), h) else (if 1000000 < l1 then some (some (vI (-1002)), h) else (zgR h l0 8 1 fun x1 => (zgR h x1 3 1 fun x2 => (zvr h x2 4 (zcI 66 [vR x2, vI l1] h fun x4 h3 => some (some (vI x4), h3))))))) := by
  refine (zv_in c65_0 rfl).trans ?_
  refine (zv_iflt c65_1).trans (zif_c ?_ ?_)
  · refine (zv_si (v := -1002) c65_10 (by decide)).trans ?_
    exact zv_ir c65_13 zrt_65
  · refine (zv_in c65_4 rfl).trans ?_
    refine (zv_ldc (v := 1000000) c65_5 (by decide)).trans ?_
    refine (zv_icle c65_7).trans (zif_c ?_ ?_)
    · refine (zv_si (v := -1002) c65_10 (by decide)).trans ?_
      exact zv_ir c65_13 zrt_65
    · refine (zv_an c65_14 rfl).trans ?_
      refine (zv_gR c65_15 zf8_1).trans (zgR_c fun x1 => ?_)
      refine (zv_gR c65_18 zf3_1).trans (zgR_c fun x2 => ?_)
      refine (zv_in c65_21 rfl).trans ?_
      refine (zv_viI c65_22 zcn_66 rfl zL_66 (Or.inl zrt_66) rfl rfl).trans (zvr_c (zcI_c fun x4 h3 => ?_))
      exact zv_ir c65_25 zrt_65
theorem e65 (l0 : Option Nat) (l1 : Int32) (h : zH) : zcall 65 [vR l0, vI l1] h = (if l1 < 0 then some (some (vI (-1002)), h) else (if 1000000 < l1 then some (some (vI (-1002)), h) else (zgR h l0 8 1 fun x1 => (zgR h x1 3 1 fun x2 => (zvr h x2 4 (zcI 66 [vR x2, vI l1] h fun x4 h3 => some (some (vI x4), h3))))))) := by
  refine Eq.trans ?_ (b65_0 l0 l1 h)
  unfold zcall zent
  rw [zL_65]
  rfl
theorem c66_0 : zcod 66 0 = some (.aload_n 0, 1, 0, 0, 0, 0) := by decide +kernel
theorem c66_1 : zcod 66 1 = some (.getfield 15, 3, 4, 1, 174, 0) := by decide +kernel
theorem c66_4 : zcod 66 4 = some (.aload_n 0, 1, 0, 0, 0, 0) := by decide +kernel
theorem c66_5 : zcod 66 5 = some (.getfield 9, 3, 4, 0, 173, 0) := by decide +kernel
theorem c66_8 : zcod 66 8 = some (.arraylength, 1, 0, 0, 0, 0) := by decide +kernel
theorem c66_9 : zcod 66 9 = some (.if_icmp .lt 7, 3, 16, 0, 0, 0) := by decide +kernel
theorem c66_12 : zcod 66 12 = some (.sipush (-1004), 3, 0, 0, 0, 0) := by decide +kernel
theorem c66_15 : zcod 66 15 = some (.ireturn, 1, 0, 0, 0, 0) := by decide +kernel
theorem c66_16 : zcod 66 16 = some (.aload_n 0, 1, 0, 0, 0, 0) := by decide +kernel
theorem c66_17 : zcod 66 17 = some (.getfield 15, 3, 4, 1, 174, 0) := by decide +kernel
theorem c66_20 : zcod 66 20 = some (.istore_n 2, 1, 0, 0, 0, 0) := by decide +kernel
theorem c66_21 : zcod 66 21 = some (.aload_n 0, 1, 0, 0, 0, 0) := by decide +kernel
theorem c66_22 : zcod 66 22 = some (.getfield 9, 3, 4, 0, 173, 0) := by decide +kernel
theorem c66_25 : zcod 66 25 = some (.iload_n 2, 1, 0, 0, 0, 0) := by decide +kernel
theorem c66_26 : zcod 66 26 = some (.iload_n 1, 1, 0, 0, 0, 0) := by decide +kernel
theorem c66_27 : zcod 66 27 = some (.iastore, 1, 0, 0, 0, 0) := by decide +kernel
theorem c66_28 : zcod 66 28 = some (.aload_n 0, 1, 0, 0, 0, 0) := by decide +kernel
theorem c66_29 : zcod 66 29 = some (.dup, 1, 0, 0, 0, 0) := by decide +kernel
theorem c66_30 : zcod 66 30 = some (.getfield 15, 3, 4, 1, 174, 0) := by decide +kernel
theorem c66_33 : zcod 66 33 = some (.iconst 1, 1, 0, 0, 0, 0) := by decide +kernel
theorem c66_34 : zcod 66 34 = some (.iadd, 1, 0, 0, 0, 0) := by decide +kernel
theorem c66_35 : zcod 66 35 = some (.putfield 15, 3, 4, 1, 174, 0) := by decide +kernel
theorem c66_38 : zcod 66 38 = some (.iload_n 2, 1, 0, 0, 0, 0) := by decide +kernel
theorem c66_39 : zcod 66 39 = some (.ireturn, 1, 0, 0, 0, 0) := by decide +kernel
set_option maxRecDepth 100000 in
theorem b66_0 (l0 : Option Nat) (l1 : Int32) (h : zH) : zev 66 0 [some (vR l0), some (vI l1), none] [] h = (zgI h l0 4 1 fun x1 => (zgR h l0 4 0 fun x2 => (zal h x2 fun x3 => (if x1 < x3 then (zgI h l0 4 1 fun x4 => (zgR h l0 4 0 fun x5 => (ztI h x5 x4 l1 fun h6 => (zgI h6 l0 4 1 fun x7 => (zpI h6 l0 4 1 (x7 + 1) fun h8 => some (some (vI x4), h8)))))) else some (some (vI (-1004)), h))))) := by
  refine (zv_an c66_0 rfl).trans ?_
  refine (zv_gI c66_1 zg4_1).trans (zgI_c fun x1 => ?_)
  refine (zv_an c66_4 rfl).trans ?_
  refine (zv_gR c66_5 zf4_0).trans (zgR_c fun x2 => ?_)
  refine (zv_al2 c66_8).trans (zal_c fun x3 => ?_)
  refine (zv_iclt c66_9).trans (zif_c ?_ ?_)
  · refine (zv_an c66_16 rfl).trans ?_
    refine (zv_gI c66_17 zg4_1).trans (zgI_c fun x4 => ?_)
    refine (zv_it c66_20 rfl).trans ?_
    refine (zv_an c66_21 rfl).trans ?_
    refine (zv_gR c66_22 zf4_0).trans (zgR_c fun x5 => ?_)
    refine (zv_in c66_25 rfl).trans ?_
    refine (zv_in c66_26 rfl).trans ?_
    refine (zv_tI c66_27).trans (ztI_c fun h6 => ?_)
    refine (zv_an c66_28 rfl).trans ?_
    refine (zv_dup c66_29 rfl).trans ?_
    refine (zv_gI c66_30 zg4_1).trans (zgI_c fun x7 => ?_)
    refine (zv_k (v := 1) c66_33 (by decide)).trans ?_
    refine (zv_iadd c66_34).trans ?_
    refine (zv_pI c66_35 zf4_1).trans (zpI_c fun h8 => ?_)
    refine (zv_in c66_38 rfl).trans ?_
    exact zv_ir c66_39 zrt_66
  · refine (zv_si (v := -1004) c66_12 (by decide)).trans ?_
    exact zv_ir c66_15 zrt_66
theorem e66 (l0 : Option Nat) (l1 : Int32) (h : zH) : zcall 66 [vR l0, vI l1] h = (zgI h l0 4 1 fun x1 => (zgR h l0 4 0 fun x2 => (zal h x2 fun x3 => (if x1 < x3 then (zgI h l0 4 1 fun x4 => (zgR h l0 4 0 fun x5 => (ztI h x5 x4 l1 fun h6 => (zgI h6 l0 4 1 fun x7 => (zpI h6 l0 4 1 (x7 + 1) fun h8 => some (some (vI x4), h8)))))) else some (some (vI (-1004)), h))))) := by
  refine Eq.trans ?_ (b66_0 l0 l1 h)
  unfold zcall zent
  rw [zL_66]
  rfl
theorem c67_0 : zcod 67 0 = some (.aload_n 0, 1, 0, 0, 0, 0) := by decide +kernel
theorem c67_1 : zcod 67 1 = some (.getfield 19, 3, 8, 1, 220, 0) := by decide +kernel
theorem c67_4 : zcod 67 4 = some (.getfield 121, 3, 3, 1, 185, 0) := by decide +kernel
theorem c67_7 : zcod 67 7 = some (.iload_n 1, 1, 0, 0, 0, 0) := by decide +kernel
theorem c67_8 : zcod 67 8 = some (.invokevirtual 130, 3, 68, 1, 573, 0) := by decide +kernel
theorem c67_11 : zcod 67 11 = some (.ifCond .ne 7, 3, 18, 0, 0, 0) := by decide +kernel
theorem c67_14 : zcod 67 14 = some (.sipush (-1001), 3, 0, 0, 0, 0) := by decide +kernel
theorem c67_17 : zcod 67 17 = some (.ireturn, 1, 0, 0, 0, 0) := by decide +kernel
theorem c67_18 : zcod 67 18 = some (.iload_n 2, 1, 0, 0, 0, 0) := by decide +kernel
theorem c67_19 : zcod 67 19 = some (.ldc 133, 2, 0, 0, 577, (-1000000)) := by decide +kernel
theorem c67_21 : zcod 67 21 = some (.if_icmp .lt 9, 3, 30, 0, 0, 0) := by decide +kernel
theorem c67_24 : zcod 67 24 = some (.iload_n 2, 1, 0, 0, 0, 0) := by decide +kernel
theorem c67_25 : zcod 67 25 = some (.ldc 120, 2, 0, 0, 564, 1000000) := by decide +kernel
theorem c67_27 : zcod 67 27 = some (.if_icmp .le 7, 3, 34, 0, 0, 0) := by decide +kernel
theorem c67_30 : zcod 67 30 = some (.sipush (-1002), 3, 0, 0, 0, 0) := by decide +kernel
theorem c67_33 : zcod 67 33 = some (.ireturn, 1, 0, 0, 0, 0) := by decide +kernel
theorem c67_34 : zcod 67 34 = some (.aload_n 0, 1, 0, 0, 0, 0) := by decide +kernel
theorem c67_35 : zcod 67 35 = some (.getfield 19, 3, 8, 1, 220, 0) := by decide +kernel
theorem c67_38 : zcod 67 38 = some (.getfield 121, 3, 3, 1, 185, 0) := by decide +kernel
theorem c67_41 : zcod 67 41 = some (.iload_n 1, 1, 0, 0, 0, 0) := by decide +kernel
theorem c67_42 : zcod 67 42 = some (.invokevirtual 134, 3, 69, 1, 578, 0) := by decide +kernel
theorem c67_45 : zcod 67 45 = some (.iload_n 2, 1, 0, 0, 0, 0) := by decide +kernel
theorem c67_46 : zcod 67 46 = some (.iadd, 1, 0, 0, 0, 0) := by decide +kernel
theorem c67_47 : zcod 67 47 = some (.istore_n 3, 1, 0, 0, 0, 0) := by decide +kernel
theorem c67_48 : zcod 67 48 = some (.iload_n 3, 1, 0, 0, 0, 0) := by decide +kernel
theorem c67_49 : zcod 67 49 = some (.ifCond .lt 9, 3, 58, 0, 0, 0) := by decide +kernel
theorem c67_52 : zcod 67 52 = some (.iload_n 3, 1, 0, 0, 0, 0) := by decide +kernel
theorem c67_53 : zcod 67 53 = some (.ldc 120, 2, 0, 0, 564, 1000000) := by decide +kernel
theorem c67_55 : zcod 67 55 = some (.if_icmp .le 7, 3, 62, 0, 0, 0) := by decide +kernel
theorem c67_58 : zcod 67 58 = some (.sipush (-1002), 3, 0, 0, 0, 0) := by decide +kernel
theorem c67_61 : zcod 67 61 = some (.ireturn, 1, 0, 0, 0, 0) := by decide +kernel
theorem c67_62 : zcod 67 62 = some (.aload_n 0, 1, 0, 0, 0, 0) := by decide +kernel
theorem c67_63 : zcod 67 63 = some (.getfield 19, 3, 8, 1, 220, 0) := by decide +kernel
theorem c67_66 : zcod 67 66 = some (.getfield 121, 3, 3, 1, 185, 0) := by decide +kernel
theorem c67_69 : zcod 67 69 = some (.iload_n 1, 1, 0, 0, 0, 0) := by decide +kernel
theorem c67_70 : zcod 67 70 = some (.iload_n 3, 1, 0, 0, 0, 0) := by decide +kernel
theorem c67_71 : zcod 67 71 = some (.invokevirtual 137, 3, 70, 2, 583, 0) := by decide +kernel
theorem c67_74 : zcod 67 74 = some (.iload_n 3, 1, 0, 0, 0, 0) := by decide +kernel
theorem c67_75 : zcod 67 75 = some (.ireturn, 1, 0, 0, 0, 0) := by decide +kernel
set_option maxRecDepth 100000 in
theorem b67_0 (l0 : Option Nat) (l1 : Int32) (l2 : Int32) (h : zH) : zev 67 0 [some (vR l0), some (vI l1), some (vI l2), none] [] h = (zgR h l0 8 1 fun x1 => (zgR h x1 3 1 fun x2 => (zvr h x2 4 (zcI 68 [vR x2, vI l1] h fun x4 h3 => (if x4 = 0 then some (some (vI (-1001)), h3) else (if l2 < (-1000000) then some (some (vI (-1002)), h3) else (if 1000000 < l2 then some (some (vI (-1002)), h3) else (zgR h3 l0 8 1 fun x5 => (zgR h3 x5 3 1 fun x6 => (zvr h3 x6 4 (zcI 69 [vR x6, vI l1] h3 fun x8 h7 => (if (x8 + l2) < 0 then some (some (vI (-1002)), h7) else (if 1000000 < (x8 + l2) then some (some (vI (-1002)), h7) else (zgR h7 l0 8 1 fun x9 => (zgR h7 x9 3 1 fun x10 => (zvr h7 x10 4 (zcV 70 [vR x10, vI l1, vI (x8 + l2)] h7 fun h11 => some (some (vI (x8 + l2)), h11)))))))))))))))))) := by
  refine (zv_an c67_0 rfl).trans ?_
  refine (zv_gR c67_1 zf8_1).trans (zgR_c fun x1 => ?_)
  refine (zv_gR c67_4 zf3_1).trans (zgR_c fun x2 => ?_)
  refine (zv_in c67_7 rfl).trans ?_
  refine (zv_viI c67_8 zcn_68 rfl zL_68 (Or.inr zrt_68) rfl rfl).trans (zvr_c (zcI_c fun x4 h3 => ?_))
  refine (zv_ifne c67_11).trans (zif_c ?_ ?_)
  · refine (zv_si (v := -1001) c67_14 (by decide)).trans ?_
    exact zv_ir c67_17 zrt_67
  · refine (zv_in c67_18 rfl).trans ?_
    refine (zv_ldc (v := -1000000) c67_19 (by decide)).trans ?_
    refine (zv_iclt c67_21).trans (zif_c ?_ ?_)
    · refine (zv_si (v := -1002) c67_30 (by decide)).trans ?_
      exact zv_ir c67_33 zrt_67
    · refine (zv_in c67_24 rfl).trans ?_
      refine (zv_ldc (v := 1000000) c67_25 (by decide)).trans ?_
      refine (zv_icle c67_27).trans (zif_c ?_ ?_)
      · refine (zv_si (v := -1002) c67_30 (by decide)).trans ?_
        exact zv_ir c67_33 zrt_67
      · refine (zv_an c67_34 rfl).trans ?_
        refine (zv_gR c67_35 zf8_1).trans (zgR_c fun x5 => ?_)
        refine (zv_gR c67_38 zf3_1).trans (zgR_c fun x6 => ?_)
        refine (zv_in c67_41 rfl).trans ?_
        refine (zv_viI c67_42 zcn_69 rfl zL_69 (Or.inl zrt_69) rfl rfl).trans (zvr_c (zcI_c fun x8 h7 => ?_))
        refine (zv_in c67_45 rfl).trans ?_
        refine (zv_iadd c67_46).trans ?_
        refine (zv_it c67_47 rfl).trans ?_
        refine (zv_in c67_48 rfl).trans ?_
        refine (zv_iflt c67_49).trans (zif_c ?_ ?_)
        · refine (zv_si (v := -1002) c67_58 (by decide)).trans ?_
          exact zv_ir c67_61 zrt_67
        · refine (zv_in c67_52 rfl).trans ?_
          refine (zv_ldc (v := 1000000) c67_53 (by decide)).trans ?_
          refine (zv_icle c67_55).trans (zif_c ?_ ?_)
          · refine (zv_si (v := -1002) c67_58 (by decide)).trans ?_
            exact zv_ir c67_61 zrt_67
          · refine (zv_an c67_62 rfl).trans ?_
            refine (zv_gR c67_63 zf8_1).trans (zgR_c fun x9 => ?_)
            refine (zv_gR c67_66 zf3_1).trans (zgR_c fun x10 => ?_)
            refine (zv_in c67_69 rfl).trans ?_
            refine (zv_in c67_70 rfl).trans ?_
            refine (zv_viV c67_71 zcn_70 rfl zL_70 zrt_70 rfl rfl).trans (zvr_c (zcV_c fun h11 => ?_))
            refine (zv_in c67_74 rfl).trans ?_
            exact zv_ir c67_75 zrt_67
theorem e67 (l0 : Option Nat) (l1 : Int32) (l2 : Int32) (h : zH) : zcall 67 [vR l0, vI l1, vI l2] h = (zgR h l0 8 1 fun x1 => (zgR h x1 3 1 fun x2 => (zvr h x2 4 (zcI 68 [vR x2, vI l1] h fun x4 h3 => (if x4 = 0 then some (some (vI (-1001)), h3) else (if l2 < (-1000000) then some (some (vI (-1002)), h3) else (if 1000000 < l2 then some (some (vI (-1002)), h3) else (zgR h3 l0 8 1 fun x5 => (zgR h3 x5 3 1 fun x6 => (zvr h3 x6 4 (zcI 69 [vR x6, vI l1] h3 fun x8 h7 => (if (x8 + l2) < 0 then some (some (vI (-1002)), h7) else (if 1000000 < (x8 + l2) then some (some (vI (-1002)), h7) else (zgR h7 l0 8 1 fun x9 => (zgR h7 x9 3 1 fun x10 => (zvr h7 x10 4 (zcV 70 [vR x10, vI l1, vI (x8 + l2)] h7 fun h11 => some (some (vI (x8 + l2)), h11)))))))))))))))))) := by
  refine Eq.trans ?_ (b67_0 l0 l1 l2 h)
  unfold zcall zent
  rw [zL_67]
  rfl
theorem c68_0 : zcod 68 0 = some (.iload_n 1, 1, 0, 0, 0, 0) := by decide +kernel
theorem c68_1 : zcod 68 1 = some (.ifCond .lt 24, 3, 25, 0, 0, 0) := by decide +kernel
theorem c68_4 : zcod 68 4 = some (.iload_n 1, 1, 0, 0, 0, 0) := by decide +kernel
theorem c68_5 : zcod 68 5 = some (.aload_n 0, 1, 0, 0, 0, 0) := by decide +kernel
theorem c68_6 : zcod 68 6 = some (.getfield 15, 3, 4, 1, 174, 0) := by decide +kernel
theorem c68_9 : zcod 68 9 = some (.if_icmp .ge 16, 3, 25, 0, 0, 0) := by decide +kernel
theorem c68_12 : zcod 68 12 = some (.iload_n 1, 1, 0, 0, 0, 0) := by decide +kernel
theorem c68_13 : zcod 68 13 = some (.aload_n 0, 1, 0, 0, 0, 0) := by decide +kernel
theorem c68_14 : zcod 68 14 = some (.getfield 9, 3, 4, 0, 173, 0) := by decide +kernel
theorem c68_17 : zcod 68 17 = some (.arraylength, 1, 0, 0, 0, 0) := by decide +kernel
theorem c68_18 : zcod 68 18 = some (.if_icmp .ge 7, 3, 25, 0, 0, 0) := by decide +kernel
theorem c68_21 : zcod 68 21 = some (.iconst 1, 1, 0, 0, 0, 0) := by decide +kernel
theorem c68_22 : zcod 68 22 = some (.goto 4, 3, 26, 0, 0, 0) := by decide +kernel
theorem c68_25 : zcod 68 25 = some (.iconst 0, 1, 0, 0, 0, 0) := by decide +kernel
theorem c68_26 : zcod 68 26 = some (.ireturn, 1, 0, 0, 0, 0) := by decide +kernel
set_option maxRecDepth 100000 in
theorem b68_0 (l0 : Option Nat) (l1 : Int32) (h : zH) : zev 68 0 [some (vR l0), some (vI l1)] [] h = (if l1 < 0 then zbo 0 (some (some (vI 0), h)) else (zgI h l0 4 1 fun x1 => (if l1 < x1 then (zgR h l0 4 0 fun x2 => (zal h x2 fun x3 => (if l1 < x3 then zbo 1 (some (some (vI 1), h)) else zbo 0 (some (some (vI 0), h))))) else zbo 0 (some (some (vI 0), h))))) := by
  refine (zv_in c68_0 rfl).trans ?_
  refine (zv_iflt c68_1).trans (zif_c ?_ ?_)
  · refine (zv_k (v := 0) c68_25 (by decide)).trans ?_
    exact zv_iz c68_26 zrt_68
  · refine (zv_in c68_4 rfl).trans ?_
    refine (zv_an c68_5 rfl).trans ?_
    refine (zv_gI c68_6 zg4_1).trans (zgI_c fun x1 => ?_)
    refine (zv_icge c68_9).trans (zif_c ?_ ?_)
    · refine (zv_in c68_12 rfl).trans ?_
      refine (zv_an c68_13 rfl).trans ?_
      refine (zv_gR c68_14 zf4_0).trans (zgR_c fun x2 => ?_)
      refine (zv_al2 c68_17).trans (zal_c fun x3 => ?_)
      refine (zv_icge c68_18).trans (zif_c ?_ ?_)
      · refine (zv_k (v := 1) c68_21 (by decide)).trans ?_
        refine (zv_goto c68_22).trans ?_
        exact zv_iz c68_26 zrt_68
      · refine (zv_k (v := 0) c68_25 (by decide)).trans ?_
        exact zv_iz c68_26 zrt_68
    · refine (zv_k (v := 0) c68_25 (by decide)).trans ?_
      exact zv_iz c68_26 zrt_68
theorem e68 (l0 : Option Nat) (l1 : Int32) (h : zH) : zcall 68 [vR l0, vI l1] h = (if l1 < 0 then zbo 0 (some (some (vI 0), h)) else (zgI h l0 4 1 fun x1 => (if l1 < x1 then (zgR h l0 4 0 fun x2 => (zal h x2 fun x3 => (if l1 < x3 then zbo 1 (some (some (vI 1), h)) else zbo 0 (some (some (vI 0), h))))) else zbo 0 (some (some (vI 0), h))))) := by
  refine Eq.trans ?_ (b68_0 l0 l1 h)
  unfold zcall zent
  rw [zL_68]
  rfl
theorem c69_0 : zcod 69 0 = some (.aload_n 0, 1, 0, 0, 0, 0) := by decide +kernel
theorem c69_1 : zcod 69 1 = some (.iload_n 1, 1, 0, 0, 0, 0) := by decide +kernel
theorem c69_2 : zcod 69 2 = some (.invokevirtual 19, 3, 68, 1, 582, 0) := by decide +kernel
theorem c69_5 : zcod 69 5 = some (.ifCond .eq 12, 3, 17, 0, 0, 0) := by decide +kernel
theorem c69_8 : zcod 69 8 = some (.aload_n 0, 1, 0, 0, 0, 0) := by decide +kernel
theorem c69_9 : zcod 69 9 = some (.getfield 9, 3, 4, 0, 173, 0) := by decide +kernel
theorem c69_12 : zcod 69 12 = some (.iload_n 1, 1, 0, 0, 0, 0) := by decide +kernel
theorem c69_13 : zcod 69 13 = some (.iaload, 1, 0, 0, 0, 0) := by decide +kernel
theorem c69_14 : zcod 69 14 = some (.goto 4, 3, 18, 0, 0, 0) := by decide +kernel
theorem c69_17 : zcod 69 17 = some (.iconst 0, 1, 0, 0, 0, 0) := by decide +kernel
theorem c69_18 : zcod 69 18 = some (.ireturn, 1, 0, 0, 0, 0) := by decide +kernel
set_option maxRecDepth 100000 in
theorem b69_0 (l0 : Option Nat) (l1 : Int32) (h : zH) : zev 69 0 [some (vR l0), some (vI l1)] [] h = (zvr h l0 4 (zcI 68 [vR l0, vI l1] h fun x2 h1 => (if x2 = 0 then some (some (vI 0), h1) else (zgR h1 l0 4 0 fun x3 => (zaI h1 x3 l1 fun x4 => some (some (vI x4), h1)))))) := by
  refine (zv_an c69_0 rfl).trans ?_
  refine (zv_in c69_1 rfl).trans ?_
  refine (zv_viI c69_2 zcn_68 rfl zL_68 (Or.inr zrt_68) rfl rfl).trans (zvr_c (zcI_c fun x2 h1 => ?_))
  refine (zv_ifeq c69_5).trans (zif_c ?_ ?_)
  · refine (zv_k (v := 0) c69_17 (by decide)).trans ?_
    exact zv_ir c69_18 zrt_69
  · refine (zv_an c69_8 rfl).trans ?_
    refine (zv_gR c69_9 zf4_0).trans (zgR_c fun x3 => ?_)
    refine (zv_in c69_12 rfl).trans ?_
    refine (zv_aI c69_13).trans (zaI_c fun x4 => ?_)
    refine (zv_goto c69_14).trans ?_
    exact zv_ir c69_18 zrt_69
theorem e69 (l0 : Option Nat) (l1 : Int32) (h : zH) : zcall 69 [vR l0, vI l1] h = (zvr h l0 4 (zcI 68 [vR l0, vI l1] h fun x2 h1 => (if x2 = 0 then some (some (vI 0), h1) else (zgR h1 l0 4 0 fun x3 => (zaI h1 x3 l1 fun x4 => some (some (vI x4), h1)))))) := by
  refine Eq.trans ?_ (b69_0 l0 l1 h)
  unfold zcall zent
  rw [zL_69]
  rfl
theorem c70_0 : zcod 70 0 = some (.aload_n 0, 1, 0, 0, 0, 0) := by decide +kernel
theorem c70_1 : zcod 70 1 = some (.iload_n 1, 1, 0, 0, 0, 0) := by decide +kernel
theorem c70_2 : zcod 70 2 = some (.invokevirtual 19, 3, 68, 1, 582, 0) := by decide +kernel
theorem c70_5 : zcod 70 5 = some (.ifCond .eq 10, 3, 15, 0, 0, 0) := by decide +kernel
theorem c70_8 : zcod 70 8 = some (.aload_n 0, 1, 0, 0, 0, 0) := by decide +kernel
theorem c70_9 : zcod 70 9 = some (.getfield 9, 3, 4, 0, 173, 0) := by decide +kernel
theorem c70_12 : zcod 70 12 = some (.iload_n 1, 1, 0, 0, 0, 0) := by decide +kernel
theorem c70_13 : zcod 70 13 = some (.iload_n 2, 1, 0, 0, 0, 0) := by decide +kernel
theorem c70_14 : zcod 70 14 = some (.iastore, 1, 0, 0, 0, 0) := by decide +kernel
theorem c70_15 : zcod 70 15 = some (.return_, 1, 0, 0, 0, 0) := by decide +kernel
set_option maxRecDepth 100000 in
theorem b70_0 (l0 : Option Nat) (l1 : Int32) (l2 : Int32) (h : zH) : zev 70 0 [some (vR l0), some (vI l1), some (vI l2)] [] h = (zvr h l0 4 (zcI 68 [vR l0, vI l1] h fun x2 h1 => (if x2 = 0 then some (none, h1) else (zgR h1 l0 4 0 fun x3 => (ztI h1 x3 l1 l2 fun h4 => some (none, h4)))))) := by
  refine (zv_an c70_0 rfl).trans ?_
  refine (zv_in c70_1 rfl).trans ?_
  refine (zv_viI c70_2 zcn_68 rfl zL_68 (Or.inr zrt_68) rfl rfl).trans (zvr_c (zcI_c fun x2 h1 => ?_))
  refine (zv_ifeq c70_5).trans (zif_c ?_ ?_)
  · exact zv_vr c70_15 zrt_70
  · refine (zv_an c70_8 rfl).trans ?_
    refine (zv_gR c70_9 zf4_0).trans (zgR_c fun x3 => ?_)
    refine (zv_in c70_12 rfl).trans ?_
    refine (zv_in c70_13 rfl).trans ?_
    refine (zv_tI c70_14).trans (ztI_c fun h4 => ?_)
    exact zv_vr c70_15 zrt_70
theorem e70 (l0 : Option Nat) (l1 : Int32) (l2 : Int32) (h : zH) : zcall 70 [vR l0, vI l1, vI l2] h = (zvr h l0 4 (zcI 68 [vR l0, vI l1] h fun x2 h1 => (if x2 = 0 then some (none, h1) else (zgR h1 l0 4 0 fun x3 => (ztI h1 x3 l1 l2 fun h4 => some (none, h4)))))) := by
  refine Eq.trans ?_ (b70_0 l0 l1 l2 h)
  unfold zcall zent
  rw [zL_70]
  rfl
theorem c71_0 : zcod 71 0 = some (.aload_n 0, 1, 0, 0, 0, 0) := by decide +kernel
theorem c71_1 : zcod 71 1 = some (.getfield 19, 3, 8, 1, 220, 0) := by decide +kernel
theorem c71_4 : zcod 71 4 = some (.getfield 31, 3, 3, 0, 183, 0) := by decide +kernel
theorem c71_7 : zcod 71 7 = some (.iload_n 1, 1, 0, 0, 0, 0) := by decide +kernel
theorem c71_8 : zcod 71 8 = some (.invokevirtual 62, 3, 50, 1, 499, 0) := by decide +kernel
theorem c71_11 : zcod 71 11 = some (.astore 4, 2, 0, 0, 0, 0) := by decide +kernel
theorem c71_13 : zcod 71 13 = some (.aload 4, 2, 0, 0, 0, 0) := by decide +kernel
theorem c71_15 : zcod 71 15 = some (.ifnull 17, 3, 32, 0, 0, 0) := by decide +kernel
theorem c71_18 : zcod 71 18 = some (.aload_n 0, 1, 0, 0, 0, 0) := by decide +kernel
theorem c71_19 : zcod 71 19 = some (.getfield 19, 3, 8, 1, 220, 0) := by decide +kernel
theorem c71_22 : zcod 71 22 = some (.getfield 121, 3, 3, 1, 185, 0) := by decide +kernel
theorem c71_25 : zcod 71 25 = some (.iload_n 2, 1, 0, 0, 0, 0) := by decide +kernel
theorem c71_26 : zcod 71 26 = some (.invokevirtual 130, 3, 68, 1, 573, 0) := by decide +kernel
theorem c71_29 : zcod 71 29 = some (.ifCond .ne 7, 3, 36, 0, 0, 0) := by decide +kernel
theorem c71_32 : zcod 71 32 = some (.sipush (-1001), 3, 0, 0, 0, 0) := by decide +kernel
theorem c71_35 : zcod 71 35 = some (.ireturn, 1, 0, 0, 0, 0) := by decide +kernel
theorem c71_36 : zcod 71 36 = some (.iload_n 3, 1, 0, 0, 0, 0) := by decide +kernel
theorem c71_37 : zcod 71 37 = some (.iconst 1, 1, 0, 0, 0, 0) := by decide +kernel
theorem c71_38 : zcod 71 38 = some (.if_icmp .lt 9, 3, 47, 0, 0, 0) := by decide +kernel
theorem c71_41 : zcod 71 41 = some (.iload_n 3, 1, 0, 0, 0, 0) := by decide +kernel
theorem c71_42 : zcod 71 42 = some (.ldc 120, 2, 0, 0, 564, 1000000) := by decide +kernel
theorem c71_44 : zcod 71 44 = some (.if_icmp .le 7, 3, 51, 0, 0, 0) := by decide +kernel
theorem c71_47 : zcod 71 47 = some (.sipush (-1002), 3, 0, 0, 0, 0) := by decide +kernel
theorem c71_50 : zcod 71 50 = some (.ireturn, 1, 0, 0, 0, 0) := by decide +kernel
theorem c71_51 : zcod 71 51 = some (.aload 4, 2, 0, 0, 0, 0) := by decide +kernel
theorem c71_53 : zcod 71 53 = some (.getfield 74, 3, 2, 4, 320, 0) := by decide +kernel
theorem c71_56 : zcod 71 56 = some (.ifCond .ne 12, 3, 68, 0, 0, 0) := by decide +kernel
theorem c71_59 : zcod 71 59 = some (.aload 4, 2, 0, 0, 0, 0) := by decide +kernel
theorem c71_61 : zcod 71 61 = some (.getfield 71, 3, 2, 7, 327, 0) := by decide +kernel
theorem c71_64 : zcod 71 64 = some (.iconst (-1), 1, 0, 0, 0, 0) := by decide +kernel
theorem c71_65 : zcod 71 65 = some (.if_icmp .eq 7, 3, 72, 0, 0, 0) := by decide +kernel
theorem c71_68 : zcod 71 68 = some (.sipush (-1003), 3, 0, 0, 0, 0) := by decide +kernel
theorem c71_71 : zcod 71 71 = some (.ireturn, 1, 0, 0, 0, 0) := by decide +kernel
theorem c71_72 : zcod 71 72 = some (.aload 4, 2, 0, 0, 0, 0) := by decide +kernel
theorem c71_74 : zcod 71 74 = some (.iload_n 2, 1, 0, 0, 0, 0) := by decide +kernel
theorem c71_75 : zcod 71 75 = some (.iload_n 3, 1, 0, 0, 0, 0) := by decide +kernel
theorem c71_76 : zcod 71 76 = some (.invokevirtual 141, 3, 72, 2, 591, 0) := by decide +kernel
theorem c71_79 : zcod 71 79 = some (.aload 4, 2, 0, 0, 0, 0) := by decide +kernel
theorem c71_81 : zcod 71 81 = some (.getfield 144, 3, 2, 6, 325, 0) := by decide +kernel
theorem c71_84 : zcod 71 84 = some (.invokevirtual 45, 3, 14, 0, 484, 0) := by decide +kernel
theorem c71_87 : zcod 71 87 = some (.ireturn, 1, 0, 0, 0, 0) := by decide +kernel
set_option maxRecDepth 100000 in
theorem b71_0 (l0 : Option Nat) (l1 : Int32) (l2 : Int32) (l3 : Int32) (h : zH) : zev 71 0 [some (vR l0), some (vI l1), some (vI l2), some (vI l3), none] [] h = (zgR h l0 8 1 fun x1 => (zgR h x1 3 0 fun x2 => (zvr h x2 5 (zcR 50 [vR x2, vI l1] h fun x4 h3 => (zul x4 (some (some (vI (-1001)), h3)) ((zgR h3 l0 8 1 fun x5 => (zgR h3 x5 3 1 fun x6 => (zvr h3 x6 4 (zcI 68 [vR x6, vI l2] h3 fun x8 h7 => (if x8 = 0 then some (some (vI (-1001)), h7) else (if l3 < 1 then some (some (vI (-1002)), h7) else (if 1000000 < l3 then some (some (vI (-1002)), h7) else (zgI h7 x4 2 4 fun x9 => (if x9 = 0 then (zgI h7 x4 2 7 fun x10 => (if x10 = (-1) then (zvr h7 x4 2 (zcV 72 [vR x4, vI l2, vI l3] h7 fun h11 => (zgR h11 x4 2 6 fun x12 => (zvr h11 x12 0 (zcI 14 [vR x12] h11 fun x14 h13 => some (some (vI x14), h13)))))) else some (some (vI (-1003)), h7))) else some (some (vI (-1003)), h7)))))))))))))))) := by
  refine (zv_an c71_0 rfl).trans ?_
  refine (zv_gR c71_1 zf8_1).trans (zgR_c fun x1 => ?_)
  refine (zv_gR c71_4 zf3_0).trans (zgR_c fun x2 => ?_)
  refine (zv_in c71_7 rfl).trans ?_
  refine (zv_viR c71_8 zcn_50 rfl zL_50 zrt_50 rfl rfl).trans (zvr_c (zcR_c fun x4 h3 => ?_))
  refine (zv_as c71_11 rfl).trans ?_
  refine (zv_al c71_13 rfl).trans ?_
  refine (zv_nu c71_15).trans (zul_c ?_ ?_)
  · refine (zv_si (v := -1001) c71_32 (by decide)).trans ?_
    exact zv_ir c71_35 zrt_71
  · refine (zv_an c71_18 rfl).trans ?_
    refine (zv_gR c71_19 zf8_1).trans (zgR_c fun x5 => ?_)
    refine (zv_gR c71_22 zf3_1).trans (zgR_c fun x6 => ?_)
    refine (zv_in c71_25 rfl).trans ?_
    refine (zv_viI c71_26 zcn_68 rfl zL_68 (Or.inr zrt_68) rfl rfl).trans (zvr_c (zcI_c fun x8 h7 => ?_))
    refine (zv_ifne c71_29).trans (zif_c ?_ ?_)
    · refine (zv_si (v := -1001) c71_32 (by decide)).trans ?_
      exact zv_ir c71_35 zrt_71
    · refine (zv_in c71_36 rfl).trans ?_
      refine (zv_k (v := 1) c71_37 (by decide)).trans ?_
      refine (zv_iclt c71_38).trans (zif_c ?_ ?_)
      · refine (zv_si (v := -1002) c71_47 (by decide)).trans ?_
        exact zv_ir c71_50 zrt_71
      · refine (zv_in c71_41 rfl).trans ?_
        refine (zv_ldc (v := 1000000) c71_42 (by decide)).trans ?_
        refine (zv_icle c71_44).trans (zif_c ?_ ?_)
        · refine (zv_si (v := -1002) c71_47 (by decide)).trans ?_
          exact zv_ir c71_50 zrt_71
        · refine (zv_al c71_51 rfl).trans ?_
          refine (zv_gI c71_53 zg2_4).trans (zgI_c fun x9 => ?_)
          refine (zv_ifne c71_56).trans (zif_c ?_ ?_)
          · refine (zv_al c71_59 rfl).trans ?_
            refine (zv_gI c71_61 zg2_7).trans (zgI_c fun x10 => ?_)
            refine (zv_k (v := -1) c71_64 (by decide)).trans ?_
            refine (zv_iceq c71_65).trans (zif_c ?_ ?_)
            · refine (zv_al c71_72 rfl).trans ?_
              refine (zv_in c71_74 rfl).trans ?_
              refine (zv_in c71_75 rfl).trans ?_
              refine (zv_viV c71_76 zcn_72 rfl zL_72 zrt_72 rfl rfl).trans (zvr_c (zcV_c fun h11 => ?_))
              refine (zv_al c71_79 rfl).trans ?_
              refine (zv_gR c71_81 zf2_6).trans (zgR_c fun x12 => ?_)
              refine (zv_viI c71_84 zcn_14 rfl zL_14 (Or.inl zrt_14) rfl rfl).trans (zvr_c (zcI_c fun x14 h13 => ?_))
              exact zv_ir c71_87 zrt_71
            · refine (zv_si (v := -1003) c71_68 (by decide)).trans ?_
              exact zv_ir c71_71 zrt_71
          · refine (zv_si (v := -1003) c71_68 (by decide)).trans ?_
            exact zv_ir c71_71 zrt_71
theorem e71 (l0 : Option Nat) (l1 : Int32) (l2 : Int32) (l3 : Int32) (h : zH) : zcall 71 [vR l0, vI l1, vI l2, vI l3] h = (zgR h l0 8 1 fun x1 => (zgR h x1 3 0 fun x2 => (zvr h x2 5 (zcR 50 [vR x2, vI l1] h fun x4 h3 => (zul x4 (some (some (vI (-1001)), h3)) ((zgR h3 l0 8 1 fun x5 => (zgR h3 x5 3 1 fun x6 => (zvr h3 x6 4 (zcI 68 [vR x6, vI l2] h3 fun x8 h7 => (if x8 = 0 then some (some (vI (-1001)), h7) else (if l3 < 1 then some (some (vI (-1002)), h7) else (if 1000000 < l3 then some (some (vI (-1002)), h7) else (zgI h7 x4 2 4 fun x9 => (if x9 = 0 then (zgI h7 x4 2 7 fun x10 => (if x10 = (-1) then (zvr h7 x4 2 (zcV 72 [vR x4, vI l2, vI l3] h7 fun h11 => (zgR h11 x4 2 6 fun x12 => (zvr h11 x12 0 (zcI 14 [vR x12] h11 fun x14 h13 => some (some (vI x14), h13)))))) else some (some (vI (-1003)), h7))) else some (some (vI (-1003)), h7)))))))))))))))) := by
  refine Eq.trans ?_ (b71_0 l0 l1 l2 l3 h)
  unfold zcall zent
  rw [zL_71]
  rfl
theorem c72_0 : zcod 72 0 = some (.aload_n 0, 1, 0, 0, 0, 0) := by decide +kernel
theorem c72_1 : zcod 72 1 = some (.getfield 12, 3, 2, 6, 323, 0) := by decide +kernel
theorem c72_4 : zcod 72 4 = some (.invokevirtual 47, 3, 14, 0, 595, 0) := by decide +kernel
theorem c72_7 : zcod 72 7 = some (.iconst 1, 1, 0, 0, 0, 0) := by decide +kernel
theorem c72_8 : zcod 72 8 = some (.isub, 1, 0, 0, 0, 0) := by decide +kernel
theorem c72_9 : zcod 72 9 = some (.istore_n 3, 1, 0, 0, 0, 0) := by decide +kernel
theorem c72_10 : zcod 72 10 = some (.iload_n 3, 1, 0, 0, 0, 0) := by decide +kernel
theorem c72_11 : zcod 72 11 = some (.ifCond .lt 36, 3, 47, 0, 0, 0) := by decide +kernel
theorem c72_14 : zcod 72 14 = some (.aload_n 0, 1, 0, 0, 0, 0) := by decide +kernel
theorem c72_15 : zcod 72 15 = some (.getfield 12, 3, 2, 6, 323, 0) := by decide +kernel
theorem c72_18 : zcod 72 18 = some (.iload_n 3, 1, 0, 0, 0, 0) := by decide +kernel
theorem c72_19 : zcod 72 19 = some (.invokevirtual 51, 3, 51, 1, 596, 0) := by decide +kernel
theorem c72_22 : zcod 72 22 = some (.checkcast 55, 3, 1, 0, 597, 0) := by decide +kernel
theorem c72_25 : zcod 72 25 = some (.getfield 57, 3, 1, 0, 606, 0) := by decide +kernel
theorem c72_28 : zcod 72 28 = some (.iload_n 1, 1, 0, 0, 0, 0) := by decide +kernel
theorem c72_29 : zcod 72 29 = some (.if_icmp .ne 12, 3, 41, 0, 0, 0) := by decide +kernel
theorem c72_32 : zcod 72 32 = some (.aload_n 0, 1, 0, 0, 0, 0) := by decide +kernel
theorem c72_33 : zcod 72 33 = some (.getfield 12, 3, 2, 6, 323, 0) := by decide +kernel
theorem c72_36 : zcod 72 36 = some (.iload_n 3, 1, 0, 0, 0, 0) := by decide +kernel
theorem c72_37 : zcod 72 37 = some (.invokevirtual 60, 3, 43, 1, 598, 0) := by decide +kernel
theorem c72_40 : zcod 72 40 = some (.pop, 1, 0, 0, 0, 0) := by decide +kernel
theorem c72_41 : zcod 72 41 = some (.iinc 3 (-1), 3, 0, 0, 0, 0) := by decide +kernel
theorem c72_44 : zcod 72 44 = some (.goto (-34), 3, 10, 0, 0, 0) := by decide +kernel
theorem c72_47 : zcod 72 47 = some (.aload_n 0, 1, 0, 0, 0, 0) := by decide +kernel
theorem c72_48 : zcod 72 48 = some (.getfield 12, 3, 2, 6, 323, 0) := by decide +kernel
theorem c72_51 : zcod 72 51 = some (.new 55, 3, 1, 0, 597, 0) := by decide +kernel
theorem c72_54 : zcod 72 54 = some (.dup, 1, 0, 0, 0, 0) := by decide +kernel
theorem c72_55 : zcod 72 55 = some (.iload_n 1, 1, 0, 0, 0, 0) := by decide +kernel
theorem c72_56 : zcod 72 56 = some (.iload_n 2, 1, 0, 0, 0, 0) := by decide +kernel
theorem c72_57 : zcod 72 57 = some (.invokespecial 63, 3, 73, 2, 600, 0) := by decide +kernel
theorem c72_60 : zcod 72 60 = some (.invokevirtual 66, 3, 29, 1, 614, 0) := by decide +kernel
theorem c72_63 : zcod 72 63 = some (.pop, 1, 0, 0, 0, 0) := by decide +kernel
theorem c72_64 : zcod 72 64 = some (.return_, 1, 0, 0, 0, 0) := by decide +kernel
set_option maxRecDepth 100000 in
theorem b72_0 (l0 : Option Nat) (l1 : Int32) (l2 : Int32) (h : zH) : zev 72 0 [some (vR l0), some (vI l1), some (vI l2), none] [] h = (zgR h l0 2 6 fun x1 => (zvr h x1 0 (zcI 14 [vR x1] h fun x3 h2 => zev 72 10 [some (vR l0), some (vI l1), some (vI l2), some (vI (x3 - 1))] [] h2))) := by
  refine (zv_an c72_0 rfl).trans ?_
  refine (zv_gR c72_1 zf2_6).trans (zgR_c fun x1 => ?_)
  refine (zv_viI c72_4 zcn_14 rfl zL_14 (Or.inl zrt_14) rfl rfl).trans (zvr_c (zcI_c fun x3 h2 => ?_))
  refine (zv_k (v := 1) c72_7 (by decide)).trans ?_
  refine (zv_isub c72_8).trans ?_
  refine (zv_it c72_9 rfl).trans ?_
  rfl
theorem e72 (l0 : Option Nat) (l1 : Int32) (l2 : Int32) (h : zH) : zcall 72 [vR l0, vI l1, vI l2] h = (zgR h l0 2 6 fun x1 => (zvr h x1 0 (zcI 14 [vR x1] h fun x3 h2 => zev 72 10 [some (vR l0), some (vI l1), some (vI l2), some (vI (x3 - 1))] [] h2))) := by
  refine Eq.trans ?_ (b72_0 l0 l1 l2 h)
  unfold zcall zent
  rw [zL_72]
  rfl
set_option maxRecDepth 100000 in
theorem b72_10 (l0 : Option Nat) (l1 : Int32) (l2 : Int32) (l3 : Int32) (h : zH) : zev 72 10 [some (vR l0), some (vI l1), some (vI l2), some (vI l3)] [] h = (if l3 < 0 then (zgR h l0 2 6 fun x1 => (zno h 1 fun x2 h3 => (zul x2 none (zcV 73 [vR x2, vI l1, vI l2] h3 fun h4 => (zvr h4 x1 0 (zcI 29 [vR x1, vR x2] h4 fun x6 h5 => some (none, h5))))))) else (zgR h l0 2 6 fun x7 => (zvr h x7 0 (zcR 51 [vR x7, vI l3] h fun x9 h8 => (zca h8 1 x9 ((zgI h8 x9 1 0 fun x10 => (if x10 = l1 then (zgR h8 l0 2 6 fun x11 => (zvr h8 x11 0 (zcR 43 [vR x11, vI l3] h8 fun x13 h12 => zev 72 10 [some (vR l0), some (vI l1), some (vI l2), some (vI (l3 + (-1)))] [] h12))) else zev 72 10 [some (vR l0), some (vI l1), some (vI l2), some (vI (l3 + (-1)))] [] h8)))))))) := by
  refine (zv_in c72_10 rfl).trans ?_
  refine (zv_iflt c72_11).trans (zif_c ?_ ?_)
  · refine (zv_an c72_47 rfl).trans ?_
    refine (zv_gR c72_48 zf2_6).trans (zgR_c fun x1 => ?_)
    refine (zv_new c72_51).trans (zno_c fun x2 h3 => ?_)
    refine (zv_dup c72_54 rfl).trans ?_
    refine (zv_in c72_55 rfl).trans ?_
    refine (zv_in c72_56 rfl).trans ?_
    refine (zv_spV c72_57 (by decide) rfl zL_73 zrt_73 rfl rfl).trans (zul_c rfl (zcV_c fun h4 => ?_))
    refine (zv_viI c72_60 zcn_29 rfl zL_29 (Or.inr zrt_29) rfl rfl).trans (zvr_c (zcI_c fun x6 h5 => ?_))
    refine (zv_pop c72_63 rfl).trans ?_
    exact zv_vr c72_64 zrt_72
  · refine (zv_an c72_14 rfl).trans ?_
    refine (zv_gR c72_15 zf2_6).trans (zgR_c fun x7 => ?_)
    refine (zv_in c72_18 rfl).trans ?_
    refine (zv_viR c72_19 zcn_51 rfl zL_51 zrt_51 rfl rfl).trans (zvr_c (zcR_c fun x9 h8 => ?_))
    refine (zv_ca c72_22).trans (zca_c ?_)
    refine (zv_gI c72_25 zg1_0).trans (zgI_c fun x10 => ?_)
    refine (zv_in c72_28 rfl).trans ?_
    refine (zv_icne c72_29).trans (zif_c ?_ ?_)
    · refine (zv_an c72_32 rfl).trans ?_
      refine (zv_gR c72_33 zf2_6).trans (zgR_c fun x11 => ?_)
      refine (zv_in c72_36 rfl).trans ?_
      refine (zv_viR c72_37 zcn_43 rfl zL_43 zrt_43 rfl rfl).trans (zvr_c (zcR_c fun x13 h12 => ?_))
      refine (zv_pop c72_40 rfl).trans ?_
      refine (zv_inc (y := -1) c72_41 rfl (by decide) rfl).trans ?_
      refine (zv_goto c72_44).trans ?_
      rfl
    · refine (zv_inc (y := -1) c72_41 rfl (by decide) rfl).trans ?_
      refine (zv_goto c72_44).trans ?_
      rfl
theorem c73_0 : zcod 73 0 = some (.aload_n 0, 1, 0, 0, 0, 0) := by decide +kernel
theorem c73_1 : zcod 73 1 = some (.invokespecial 1, 3, 1, 0, 603, 0) := by decide +kernel
theorem c73_4 : zcod 73 4 = some (.aload_n 0, 1, 0, 0, 0, 0) := by decide +kernel
theorem c73_5 : zcod 73 5 = some (.iload_n 1, 1, 0, 0, 0, 0) := by decide +kernel
theorem c73_6 : zcod 73 6 = some (.putfield 7, 3, 1, 0, 604, 0) := by decide +kernel
theorem c73_9 : zcod 73 9 = some (.aload_n 0, 1, 0, 0, 0, 0) := by decide +kernel
theorem c73_10 : zcod 73 10 = some (.iload_n 2, 1, 0, 0, 0, 0) := by decide +kernel
theorem c73_11 : zcod 73 11 = some (.putfield 13, 3, 1, 1, 607, 0) := by decide +kernel
theorem c73_14 : zcod 73 14 = some (.return_, 1, 0, 0, 0, 0) := by decide +kernel
set_option maxRecDepth 100000 in
theorem b73_0 (l0 : Option Nat) (l1 : Int32) (l2 : Int32) (h : zH) : zev 73 0 [some (vR l0), some (vI l1), some (vI l2)] [] h = (zul l0 none ((zpI h l0 1 0 l1 fun h1 => (zpI h1 l0 1 1 l2 fun h2 => some (none, h2))))) := by
  refine (zv_an c73_0 rfl).trans ?_
  refine (zv_ob c73_1 (zle rfl)).trans (zul_c rfl ?_)
  refine (zv_an c73_4 rfl).trans ?_
  refine (zv_in c73_5 rfl).trans ?_
  refine (zv_pI c73_6 zf1_0).trans (zpI_c fun h1 => ?_)
  refine (zv_an c73_9 rfl).trans ?_
  refine (zv_in c73_10 rfl).trans ?_
  refine (zv_pI c73_11 zf1_1).trans (zpI_c fun h2 => ?_)
  exact zv_vr c73_14 zrt_73
theorem e73 (l0 : Option Nat) (l1 : Int32) (l2 : Int32) (h : zH) : zcall 73 [vR l0, vI l1, vI l2] h = (zul l0 none ((zpI h l0 1 0 l1 fun h1 => (zpI h1 l0 1 1 l2 fun h2 => some (none, h2))))) := by
  refine Eq.trans ?_ (b73_0 l0 l1 l2 h)
  unfold zcall zent
  rw [zL_73]
  rfl
theorem c74_0 : zcod 74 0 = some (.aload_n 0, 1, 0, 0, 0, 0) := by decide +kernel
theorem c74_1 : zcod 74 1 = some (.getfield 19, 3, 8, 1, 220, 0) := by decide +kernel
theorem c74_4 : zcod 74 4 = some (.getfield 31, 3, 3, 0, 183, 0) := by decide +kernel
theorem c74_7 : zcod 74 7 = some (.iload_n 1, 1, 0, 0, 0, 0) := by decide +kernel
theorem c74_8 : zcod 74 8 = some (.invokevirtual 62, 3, 50, 1, 499, 0) := by decide +kernel
theorem c74_11 : zcod 74 11 = some (.astore_n 2, 1, 0, 0, 0, 0) := by decide +kernel
theorem c74_12 : zcod 74 12 = some (.aload_n 2, 1, 0, 0, 0, 0) := by decide +kernel
theorem c74_13 : zcod 74 13 = some (.ifnonnull 7, 3, 20, 0, 0, 0) := by decide +kernel
theorem c74_16 : zcod 74 16 = some (.sipush (-1001), 3, 0, 0, 0, 0) := by decide +kernel
theorem c74_19 : zcod 74 19 = some (.ireturn, 1, 0, 0, 0, 0) := by decide +kernel
theorem c74_20 : zcod 74 20 = some (.aload_n 2, 1, 0, 0, 0, 0) := by decide +kernel
theorem c74_21 : zcod 74 21 = some (.getfield 144, 3, 2, 6, 325, 0) := by decide +kernel
theorem c74_24 : zcod 74 24 = some (.invokevirtual 147, 3, 75, 0, 619, 0) := by decide +kernel
theorem c74_27 : zcod 74 27 = some (.ifCond .eq 9, 3, 36, 0, 0, 0) := by decide +kernel
theorem c74_30 : zcod 74 30 = some (.sipush (-1003), 3, 0, 0, 0, 0) := by decide +kernel
theorem c74_33 : zcod 74 33 = some (.goto 11, 3, 44, 0, 0, 0) := by decide +kernel
theorem c74_36 : zcod 74 36 = some (.aload_n 0, 1, 0, 0, 0, 0) := by decide +kernel
theorem c74_37 : zcod 74 37 = some (.getfield 19, 3, 8, 1, 220, 0) := by decide +kernel
theorem c74_40 : zcod 74 40 = some (.aload_n 2, 1, 0, 0, 0, 0) := by decide +kernel
theorem c74_41 : zcod 74 41 = some (.invokevirtual 151, 3, 76, 1, 623, 0) := by decide +kernel
theorem c74_44 : zcod 74 44 = some (.ireturn, 1, 0, 0, 0, 0) := by decide +kernel
set_option maxRecDepth 100000 in
theorem b74_0 (l0 : Option Nat) (l1 : Int32) (h : zH) : zev 74 0 [some (vR l0), some (vI l1), none] [] h = (zgR h l0 8 1 fun x1 => (zgR h x1 3 0 fun x2 => (zvr h x2 5 (zcR 50 [vR x2, vI l1] h fun x4 h3 => (zul x4 (some (some (vI (-1001)), h3)) ((zgR h3 x4 2 6 fun x5 => (zvr h3 x5 0 (zcI 75 [vR x5] h3 fun x7 h6 => (if x7 = 0 then (zgR h6 l0 8 1 fun x8 => (zvr h6 x8 3 (zcI 76 [vR x8, vR x4] h6 fun x10 h9 => some (some (vI x10), h9)))) else some (some (vI (-1003)), h6))))))))))) := by
  refine (zv_an c74_0 rfl).trans ?_
  refine (zv_gR c74_1 zf8_1).trans (zgR_c fun x1 => ?_)
  refine (zv_gR c74_4 zf3_0).trans (zgR_c fun x2 => ?_)
  refine (zv_in c74_7 rfl).trans ?_
  refine (zv_viR c74_8 zcn_50 rfl zL_50 zrt_50 rfl rfl).trans (zvr_c (zcR_c fun x4 h3 => ?_))
  refine (zv_at c74_11 rfl).trans ?_
  refine (zv_an c74_12 rfl).trans ?_
  refine (zv_nn c74_13).trans (zul_c ?_ ?_)
  · refine (zv_si (v := -1001) c74_16 (by decide)).trans ?_
    exact zv_ir c74_19 zrt_74
  · refine (zv_an c74_20 rfl).trans ?_
    refine (zv_gR c74_21 zf2_6).trans (zgR_c fun x5 => ?_)
    refine (zv_viI c74_24 zcn_75 rfl zL_75 (Or.inr zrt_75) rfl rfl).trans (zvr_c (zcI_c fun x7 h6 => ?_))
    refine (zv_ifeq c74_27).trans (zif_c ?_ ?_)
    · refine (zv_an c74_36 rfl).trans ?_
      refine (zv_gR c74_37 zf8_1).trans (zgR_c fun x8 => ?_)
      refine (zv_an c74_40 rfl).trans ?_
      refine (zv_viI c74_41 zcn_76 rfl zL_76 (Or.inl zrt_76) rfl rfl).trans (zvr_c (zcI_c fun x10 h9 => ?_))
      exact zv_ir c74_44 zrt_74
    · refine (zv_si (v := -1003) c74_30 (by decide)).trans ?_
      refine (zv_goto c74_33).trans ?_
      exact zv_ir c74_44 zrt_74
theorem e74 (l0 : Option Nat) (l1 : Int32) (h : zH) : zcall 74 [vR l0, vI l1] h = (zgR h l0 8 1 fun x1 => (zgR h x1 3 0 fun x2 => (zvr h x2 5 (zcR 50 [vR x2, vI l1] h fun x4 h3 => (zul x4 (some (some (vI (-1001)), h3)) ((zgR h3 x4 2 6 fun x5 => (zvr h3 x5 0 (zcI 75 [vR x5] h3 fun x7 h6 => (if x7 = 0 then (zgR h6 l0 8 1 fun x8 => (zvr h6 x8 3 (zcI 76 [vR x8, vR x4] h6 fun x10 h9 => some (some (vI x10), h9)))) else some (some (vI (-1003)), h6))))))))))) := by
  refine Eq.trans ?_ (b74_0 l0 l1 h)
  unfold zcall zent
  rw [zL_74]
  rfl
theorem c75_0 : zcod 75 0 = some (.aload_n 0, 1, 0, 0, 0, 0) := by decide +kernel
theorem c75_1 : zcod 75 1 = some (.getfield 48, 3, 0, 2, 130, 0) := by decide +kernel
theorem c75_4 : zcod 75 4 = some (.ifCond .ne 7, 3, 11, 0, 0, 0) := by decide +kernel
theorem c75_7 : zcod 75 7 = some (.iconst 1, 1, 0, 0, 0, 0) := by decide +kernel
theorem c75_8 : zcod 75 8 = some (.goto 4, 3, 12, 0, 0, 0) := by decide +kernel
theorem c75_11 : zcod 75 11 = some (.iconst 0, 1, 0, 0, 0, 0) := by decide +kernel
theorem c75_12 : zcod 75 12 = some (.ireturn, 1, 0, 0, 0, 0) := by decide +kernel
set_option maxRecDepth 100000 in
theorem b75_0 (l0 : Option Nat) (h : zH) : zev 75 0 [some (vR l0)] [] h = (zgI h l0 0 2 fun x1 => (if x1 = 0 then zbo 1 (some (some (vI 1), h)) else zbo 0 (some (some (vI 0), h)))) := by
  refine (zv_an c75_0 rfl).trans ?_
  refine (zv_gI c75_1 zg0_2).trans (zgI_c fun x1 => ?_)
  refine (zv_ifne c75_4).trans (zif_c ?_ ?_)
  · refine (zv_k (v := 1) c75_7 (by decide)).trans ?_
    refine (zv_goto c75_8).trans ?_
    exact zv_iz c75_12 zrt_75
  · refine (zv_k (v := 0) c75_11 (by decide)).trans ?_
    exact zv_iz c75_12 zrt_75
theorem e75 (l0 : Option Nat) (h : zH) : zcall 75 [vR l0] h = (zgI h l0 0 2 fun x1 => (if x1 = 0 then zbo 1 (some (some (vI 1), h)) else zbo 0 (some (some (vI 0), h)))) := by
  refine Eq.trans ?_ (b75_0 l0 h)
  unfold zcall zent
  rw [zL_75]
  rfl
theorem c76_0 : zcod 76 0 = some (.aload_n 0, 1, 0, 0, 0, 0) := by decide +kernel
theorem c76_1 : zcod 76 1 = some (.aload_n 1, 1, 0, 0, 0, 0) := by decide +kernel
theorem c76_2 : zcod 76 2 = some (.invokevirtual 44, 3, 77, 1, 627, 0) := by decide +kernel
theorem c76_5 : zcod 76 5 = some (.astore_n 2, 1, 0, 0, 0, 0) := by decide +kernel
theorem c76_6 : zcod 76 6 = some (.aload_n 1, 1, 0, 0, 0, 0) := by decide +kernel
theorem c76_7 : zcod 76 7 = some (.getfield 48, 3, 2, 6, 324, 0) := by decide +kernel
theorem c76_10 : zcod 76 10 = some (.invokevirtual 52, 3, 78, 0, 635, 0) := by decide +kernel
theorem c76_13 : zcod 76 13 = some (.aload_n 2, 1, 0, 0, 0, 0) := by decide +kernel
theorem c76_14 : zcod 76 14 = some (.ifnonnull 5, 3, 19, 0, 0, 0) := by decide +kernel
theorem c76_17 : zcod 76 17 = some (.iconst (-1), 1, 0, 0, 0, 0) := by decide +kernel
theorem c76_18 : zcod 76 18 = some (.ireturn, 1, 0, 0, 0, 0) := by decide +kernel
theorem c76_19 : zcod 76 19 = some (.aload_n 2, 1, 0, 0, 0, 0) := by decide +kernel
theorem c76_20 : zcod 76 20 = some (.getfield 57, 3, 1, 1, 608, 0) := by decide +kernel
theorem c76_23 : zcod 76 23 = some (.iconst 4, 1, 0, 0, 0, 0) := by decide +kernel
theorem c76_24 : zcod 76 24 = some (.idiv, 1, 0, 0, 0, 0) := by decide +kernel
theorem c76_25 : zcod 76 25 = some (.istore_n 3, 1, 0, 0, 0, 0) := by decide +kernel
theorem c76_26 : zcod 76 26 = some (.aload_n 0, 1, 0, 0, 0, 0) := by decide +kernel
theorem c76_27 : zcod 76 27 = some (.getfield 21, 3, 3, 1, 184, 0) := by decide +kernel
theorem c76_30 : zcod 76 30 = some (.aload_n 2, 1, 0, 0, 0, 0) := by decide +kernel
theorem c76_31 : zcod 76 31 = some (.getfield 62, 3, 1, 0, 605, 0) := by decide +kernel
theorem c76_34 : zcod 76 34 = some (.iload_n 3, 1, 0, 0, 0, 0) := by decide +kernel
theorem c76_35 : zcod 76 35 = some (.invokevirtual 65, 3, 79, 2, 639, 0) := by decide +kernel
theorem c76_38 : zcod 76 38 = some (.pop, 1, 0, 0, 0, 0) := by decide +kernel
theorem c76_39 : zcod 76 39 = some (.aload_n 0, 1, 0, 0, 0, 0) := by decide +kernel
theorem c76_40 : zcod 76 40 = some (.dup, 1, 0, 0, 0, 0) := by decide +kernel
theorem c76_41 : zcod 76 41 = some (.getfield 69, 3, 3, 6, 194, 0) := by decide +kernel
theorem c76_44 : zcod 76 44 = some (.iload_n 3, 1, 0, 0, 0, 0) := by decide +kernel
theorem c76_45 : zcod 76 45 = some (.iadd, 1, 0, 0, 0, 0) := by decide +kernel
theorem c76_46 : zcod 76 46 = some (.putfield 69, 3, 3, 6, 194, 0) := by decide +kernel
theorem c76_49 : zcod 76 49 = some (.aload_n 1, 1, 0, 0, 0, 0) := by decide +kernel
theorem c76_50 : zcod 76 50 = some (.aload_n 2, 1, 0, 0, 0, 0) := by decide +kernel
theorem c76_51 : zcod 76 51 = some (.getfield 57, 3, 1, 1, 608, 0) := by decide +kernel
theorem c76_54 : zcod 76 54 = some (.iload_n 3, 1, 0, 0, 0, 0) := by decide +kernel
theorem c76_55 : zcod 76 55 = some (.isub, 1, 0, 0, 0, 0) := by decide +kernel
theorem c76_56 : zcod 76 56 = some (.aload_n 0, 1, 0, 0, 0, 0) := by decide +kernel
theorem c76_57 : zcod 76 57 = some (.getfield 37, 3, 3, 2, 186, 0) := by decide +kernel
theorem c76_60 : zcod 76 60 = some (.bipush 100, 2, 0, 0, 0, 0) := by decide +kernel
theorem c76_62 : zcod 76 62 = some (.iadd, 1, 0, 0, 0, 0) := by decide +kernel
theorem c76_63 : zcod 76 63 = some (.invokevirtual 72, 3, 80, 2, 645, 0) := by decide +kernel
theorem c76_66 : zcod 76 66 = some (.aload_n 0, 1, 0, 0, 0, 0) := by decide +kernel
theorem c76_67 : zcod 76 67 = some (.aload_n 1, 1, 0, 0, 0, 0) := by decide +kernel
theorem c76_68 : zcod 76 68 = some (.aload_n 2, 1, 0, 0, 0, 0) := by decide +kernel
theorem c76_69 : zcod 76 69 = some (.getfield 62, 3, 1, 0, 605, 0) := by decide +kernel
theorem c76_72 : zcod 76 72 = some (.invokevirtual 75, 3, 81, 2, 649, 0) := by decide +kernel
theorem c76_75 : zcod 76 75 = some (.aload_n 2, 1, 0, 0, 0, 0) := by decide +kernel
theorem c76_76 : zcod 76 76 = some (.getfield 62, 3, 1, 0, 605, 0) := by decide +kernel
theorem c76_79 : zcod 76 79 = some (.ireturn, 1, 0, 0, 0, 0) := by decide +kernel
set_option maxRecDepth 100000 in
theorem b76_0 (l0 : Option Nat) (l1 : Option Nat) (h : zH) : zev 76 0 [some (vR l0), some (vR l1), none, none] [] h = (zvr h l0 3 (zcR 77 [vR l0, vR l1] h fun x2 h1 => (zgR h1 l1 2 6 fun x3 => (zvr h1 x3 0 (zcV 78 [vR x3] h1 fun h4 => (zul x2 (some (some (vI (-1)), h4)) ((zgI h4 x2 1 1 fun x5 => (zdv 4 ((zgR h4 l0 3 1 fun x6 => (zgI h4 x2 1 0 fun x7 => (zvr h4 x6 4 (zcI 79 [vR x6, vI x7, vI (x5 / 4)] h4 fun x9 h8 => (zgI h8 l0 3 6 fun x10 => (zpI h8 l0 3 6 (x10 + (x5 / 4)) fun h11 => (zgI h11 x2 1 1 fun x12 => (zgI h11 l0 3 2 fun x13 => (zvr h11 l1 2 (zcV 80 [vR l1, vI (x12 - (x5 / 4)), vI (x13 + 100)] h11 fun h14 => (zgI h14 x2 1 0 fun x15 => (zvr h14 l0 3 (zcV 81 [vR l0, vR l1, vI x15] h14 fun h16 => (zgI h16 x2 1 0 fun x17 => some (some (vI x17), h16))))))))))))))))))))))))) := by
  refine (zv_an c76_0 rfl).trans ?_
  refine (zv_an c76_1 rfl).trans ?_
  refine (zv_viR c76_2 zcn_77 rfl zL_77 zrt_77 rfl rfl).trans (zvr_c (zcR_c fun x2 h1 => ?_))
  refine (zv_at c76_5 rfl).trans ?_
  refine (zv_an c76_6 rfl).trans ?_
  refine (zv_gR c76_7 zf2_6).trans (zgR_c fun x3 => ?_)
  refine (zv_viV c76_10 zcn_78 rfl zL_78 zrt_78 rfl rfl).trans (zvr_c (zcV_c fun h4 => ?_))
  refine (zv_an c76_13 rfl).trans ?_
  refine (zv_nn c76_14).trans (zul_c ?_ ?_)
  · refine (zv_k (v := -1) c76_17 (by decide)).trans ?_
    exact zv_ir c76_18 zrt_76
  · refine (zv_an c76_19 rfl).trans ?_
    refine (zv_gI c76_20 zg1_1).trans (zgI_c fun x5 => ?_)
    refine (zv_k (v := 4) c76_23 (by decide)).trans ?_
    refine (zv_div c76_24).trans (zdv_c ?_)
    refine (zv_it c76_25 rfl).trans ?_
    refine (zv_an c76_26 rfl).trans ?_
    refine (zv_gR c76_27 zf3_1).trans (zgR_c fun x6 => ?_)
    refine (zv_an c76_30 rfl).trans ?_
    refine (zv_gI c76_31 zg1_0).trans (zgI_c fun x7 => ?_)
    refine (zv_in c76_34 rfl).trans ?_
    refine (zv_viI c76_35 zcn_79 rfl zL_79 (Or.inr zrt_79) rfl rfl).trans (zvr_c (zcI_c fun x9 h8 => ?_))
    refine (zv_pop c76_38 rfl).trans ?_
    refine (zv_an c76_39 rfl).trans ?_
    refine (zv_dup c76_40 rfl).trans ?_
    refine (zv_gI c76_41 zg3_6).trans (zgI_c fun x10 => ?_)
    refine (zv_in c76_44 rfl).trans ?_
    refine (zv_iadd c76_45).trans ?_
    refine (zv_pI c76_46 zf3_6).trans (zpI_c fun h11 => ?_)
    refine (zv_an c76_49 rfl).trans ?_
    refine (zv_an c76_50 rfl).trans ?_
    refine (zv_gI c76_51 zg1_1).trans (zgI_c fun x12 => ?_)
    refine (zv_in c76_54 rfl).trans ?_
    refine (zv_isub c76_55).trans ?_
    refine (zv_an c76_56 rfl).trans ?_
    refine (zv_gI c76_57 zg3_2).trans (zgI_c fun x13 => ?_)
    refine (zv_bi (v := 100) c76_60 (by decide)).trans ?_
    refine (zv_iadd c76_62).trans ?_
    refine (zv_viV c76_63 zcn_80 rfl zL_80 zrt_80 rfl rfl).trans (zvr_c (zcV_c fun h14 => ?_))
    refine (zv_an c76_66 rfl).trans ?_
    refine (zv_an c76_67 rfl).trans ?_
    refine (zv_an c76_68 rfl).trans ?_
    refine (zv_gI c76_69 zg1_0).trans (zgI_c fun x15 => ?_)
    refine (zv_viV c76_72 zcn_81 rfl zL_81 zrt_81 rfl rfl).trans (zvr_c (zcV_c fun h16 => ?_))
    refine (zv_an c76_75 rfl).trans ?_
    refine (zv_gI c76_76 zg1_0).trans (zgI_c fun x17 => ?_)
    exact zv_ir c76_79 zrt_76
theorem e76 (l0 : Option Nat) (l1 : Option Nat) (h : zH) : zcall 76 [vR l0, vR l1] h = (zvr h l0 3 (zcR 77 [vR l0, vR l1] h fun x2 h1 => (zgR h1 l1 2 6 fun x3 => (zvr h1 x3 0 (zcV 78 [vR x3] h1 fun h4 => (zul x2 (some (some (vI (-1)), h4)) ((zgI h4 x2 1 1 fun x5 => (zdv 4 ((zgR h4 l0 3 1 fun x6 => (zgI h4 x2 1 0 fun x7 => (zvr h4 x6 4 (zcI 79 [vR x6, vI x7, vI (x5 / 4)] h4 fun x9 h8 => (zgI h8 l0 3 6 fun x10 => (zpI h8 l0 3 6 (x10 + (x5 / 4)) fun h11 => (zgI h11 x2 1 1 fun x12 => (zgI h11 l0 3 2 fun x13 => (zvr h11 l1 2 (zcV 80 [vR l1, vI (x12 - (x5 / 4)), vI (x13 + 100)] h11 fun h14 => (zgI h14 x2 1 0 fun x15 => (zvr h14 l0 3 (zcV 81 [vR l0, vR l1, vI x15] h14 fun h16 => (zgI h16 x2 1 0 fun x17 => some (some (vI x17), h16))))))))))))))))))))))))) := by
  refine Eq.trans ?_ (b76_0 l0 l1 h)
  unfold zcall zent
  rw [zL_76]
  rfl
theorem c77_0 : zcod 77 0 = some (.aconst_null, 1, 0, 0, 0, 0) := by decide +kernel
theorem c77_1 : zcod 77 1 = some (.astore_n 2, 1, 0, 0, 0, 0) := by decide +kernel
theorem c77_2 : zcod 77 2 = some (.iconst 0, 1, 0, 0, 0, 0) := by decide +kernel
theorem c77_3 : zcod 77 3 = some (.istore_n 3, 1, 0, 0, 0, 0) := by decide +kernel
theorem c77_4 : zcod 77 4 = some (.iload_n 3, 1, 0, 0, 0, 0) := by decide +kernel
theorem c77_5 : zcod 77 5 = some (.aload_n 1, 1, 0, 0, 0, 0) := by decide +kernel
theorem c77_6 : zcod 77 6 = some (.getfield 48, 3, 2, 6, 324, 0) := by decide +kernel
theorem c77_9 : zcod 77 9 = some (.invokevirtual 79, 3, 14, 0, 631, 0) := by decide +kernel
theorem c77_12 : zcod 77 12 = some (.if_icmp .ge 75, 3, 87, 0, 0, 0) := by decide +kernel
theorem c77_15 : zcod 77 15 = some (.aload_n 1, 1, 0, 0, 0, 0) := by decide +kernel
theorem c77_16 : zcod 77 16 = some (.getfield 48, 3, 2, 6, 324, 0) := by decide +kernel
theorem c77_19 : zcod 77 19 = some (.iload_n 3, 1, 0, 0, 0, 0) := by decide +kernel
theorem c77_20 : zcod 77 20 = some (.invokevirtual 83, 3, 51, 1, 632, 0) := by decide +kernel
theorem c77_23 : zcod 77 23 = some (.checkcast 58, 3, 1, 0, 633, 0) := by decide +kernel
theorem c77_26 : zcod 77 26 = some (.astore 4, 2, 0, 0, 0, 0) := by decide +kernel
theorem c77_28 : zcod 77 28 = some (.aload_n 0, 1, 0, 0, 0, 0) := by decide +kernel
theorem c77_29 : zcod 77 29 = some (.getfield 21, 3, 3, 1, 184, 0) := by decide +kernel
theorem c77_32 : zcod 77 32 = some (.aload 4, 2, 0, 0, 0, 0) := by decide +kernel
theorem c77_34 : zcod 77 34 = some (.getfield 62, 3, 1, 0, 605, 0) := by decide +kernel
theorem c77_37 : zcod 77 37 = some (.invokevirtual 87, 3, 69, 1, 634, 0) := by decide +kernel
theorem c77_40 : zcod 77 40 = some (.aload 4, 2, 0, 0, 0, 0) := by decide +kernel
theorem c77_42 : zcod 77 42 = some (.getfield 57, 3, 1, 1, 608, 0) := by decide +kernel
theorem c77_45 : zcod 77 45 = some (.iconst 4, 1, 0, 0, 0, 0) := by decide +kernel
theorem c77_46 : zcod 77 46 = some (.idiv, 1, 0, 0, 0, 0) := by decide +kernel
theorem c77_47 : zcod 77 47 = some (.if_icmp .lt 7, 3, 54, 0, 0, 0) := by decide +kernel
theorem c77_50 : zcod 77 50 = some (.iconst 1, 1, 0, 0, 0, 0) := by decide +kernel
theorem c77_51 : zcod 77 51 = some (.goto 4, 3, 55, 0, 0, 0) := by decide +kernel
theorem c77_54 : zcod 77 54 = some (.iconst 0, 1, 0, 0, 0, 0) := by decide +kernel
theorem c77_55 : zcod 77 55 = some (.istore 5, 2, 0, 0, 0, 0) := by decide +kernel
theorem c77_57 : zcod 77 57 = some (.iload 5, 2, 0, 0, 0, 0) := by decide +kernel
theorem c77_59 : zcod 77 59 = some (.ifCond .eq 22, 3, 81, 0, 0, 0) := by decide +kernel
theorem c77_62 : zcod 77 62 = some (.aload_n 2, 1, 0, 0, 0, 0) := by decide +kernel
theorem c77_63 : zcod 77 63 = some (.ifnull 15, 3, 78, 0, 0, 0) := by decide +kernel
theorem c77_66 : zcod 77 66 = some (.aload 4, 2, 0, 0, 0, 0) := by decide +kernel
theorem c77_68 : zcod 77 68 = some (.getfield 57, 3, 1, 1, 608, 0) := by decide +kernel
theorem c77_71 : zcod 77 71 = some (.aload_n 2, 1, 0, 0, 0, 0) := by decide +kernel
theorem c77_72 : zcod 77 72 = some (.getfield 57, 3, 1, 1, 608, 0) := by decide +kernel
theorem c77_75 : zcod 77 75 = some (.if_icmp .le 6, 3, 81, 0, 0, 0) := by decide +kernel
theorem c77_78 : zcod 77 78 = some (.aload 4, 2, 0, 0, 0, 0) := by decide +kernel
theorem c77_80 : zcod 77 80 = some (.astore_n 2, 1, 0, 0, 0, 0) := by decide +kernel
theorem c77_81 : zcod 77 81 = some (.iinc 3 1, 3, 0, 0, 0, 0) := by decide +kernel
theorem c77_84 : zcod 77 84 = some (.goto (-80), 3, 4, 0, 0, 0) := by decide +kernel
theorem c77_87 : zcod 77 87 = some (.aload_n 2, 1, 0, 0, 0, 0) := by decide +kernel
theorem c77_88 : zcod 77 88 = some (.areturn, 1, 0, 0, 0, 0) := by decide +kernel
set_option maxRecDepth 100000 in
theorem b77_0 (l0 : Option Nat) (l1 : Option Nat) (h : zH) : zev 77 0 [some (vR l0), some (vR l1), none, none, none, none] [] h = zev 77 4 [some (vR l0), some (vR l1), some (vR none), some (vI 0), none, none] [] h := by
  refine (zv_null c77_0).trans ?_
  refine (zv_at c77_1 rfl).trans ?_
  refine (zv_k (v := 0) c77_2 (by decide)).trans ?_
  refine (zv_it c77_3 rfl).trans ?_
  rfl
theorem e77 (l0 : Option Nat) (l1 : Option Nat) (h : zH) : zcall 77 [vR l0, vR l1] h = zev 77 4 [some (vR l0), some (vR l1), some (vR none), some (vI 0), none, none] [] h := by
  refine Eq.trans ?_ (b77_0 l0 l1 h)
  unfold zcall zent
  rw [zL_77]
  rfl
set_option maxRecDepth 100000 in
theorem b77_4 (l0 : Option Nat) (l1 : Option Nat) (l2 : Option Nat) (l3 : Int32) (l4 : Option zV) (l5 : Option zV) (h : zH) : zev 77 4 [some (vR l0), some (vR l1), some (vR l2), some (vI l3), l4, l5] [] h = (zgR h l1 2 6 fun x1 => (zvr h x1 0 (zcI 14 [vR x1] h fun x3 h2 => (if l3 < x3 then (zgR h2 l1 2 6 fun x4 => (zvr h2 x4 0 (zcR 51 [vR x4, vI l3] h2 fun x6 h5 => (zca h5 1 x6 ((zgR h5 l0 3 1 fun x7 => (zgI h5 x6 1 0 fun x8 => (zvr h5 x7 4 (zcI 69 [vR x7, vI x8] h5 fun x10 h9 => (zgI h9 x6 1 1 fun x11 => (zdv 4 ((if x10 < (x11 / 4) then zev 77 55 [some (vR l0), some (vR l1), some (vR l2), some (vI l3), some (vR x6), l5] [vI 0] h9 else zev 77 55 [some (vR l0), some (vR l1), some (vR l2), some (vI l3), some (vR x6), l5] [vI 1] h9))))))))))))) else some (some (vR l2), h2))))) := by
  refine (zv_in c77_4 rfl).trans ?_
  refine (zv_an c77_5 rfl).trans ?_
  refine (zv_gR c77_6 zf2_6).trans (zgR_c fun x1 => ?_)
  refine (zv_viI c77_9 zcn_14 rfl zL_14 (Or.inl zrt_14) rfl rfl).trans (zvr_c (zcI_c fun x3 h2 => ?_))
  refine (zv_icge c77_12).trans (zif_c ?_ ?_)
  · refine (zv_an c77_15 rfl).trans ?_
    refine (zv_gR c77_16 zf2_6).trans (zgR_c fun x4 => ?_)
    refine (zv_in c77_19 rfl).trans ?_
    refine (zv_viR c77_20 zcn_51 rfl zL_51 zrt_51 rfl rfl).trans (zvr_c (zcR_c fun x6 h5 => ?_))
    refine (zv_ca c77_23).trans (zca_c ?_)
    refine (zv_as c77_26 rfl).trans ?_
    refine (zv_an c77_28 rfl).trans ?_
    refine (zv_gR c77_29 zf3_1).trans (zgR_c fun x7 => ?_)
    refine (zv_al c77_32 rfl).trans ?_
    refine (zv_gI c77_34 zg1_0).trans (zgI_c fun x8 => ?_)
    refine (zv_viI c77_37 zcn_69 rfl zL_69 (Or.inl zrt_69) rfl rfl).trans (zvr_c (zcI_c fun x10 h9 => ?_))
    refine (zv_al c77_40 rfl).trans ?_
    refine (zv_gI c77_42 zg1_1).trans (zgI_c fun x11 => ?_)
    refine (zv_k (v := 4) c77_45 (by decide)).trans ?_
    refine (zv_div c77_46).trans (zdv_c ?_)
    refine (zv_iclt c77_47).trans (zif_c ?_ ?_)
    · refine (zv_k (v := 0) c77_54 (by decide)).trans ?_
      rfl
    · refine (zv_k (v := 1) c77_50 (by decide)).trans ?_
      refine (zv_goto c77_51).trans ?_
      rfl
  · refine (zv_an c77_87 rfl).trans ?_
    exact zv_ar c77_88 zrt_77
set_option maxRecDepth 100000 in
theorem b77_55 (l0 : Option Nat) (l1 : Option Nat) (l2 : Option Nat) (l3 : Int32) (l4 : Option Nat) (l5 : Option zV) (s0 : Int32) (h : zH) : zev 77 55 [some (vR l0), some (vR l1), some (vR l2), some (vI l3), some (vR l4), l5] [vI s0] h = (if s0 = 0 then zev 77 4 [some (vR l0), some (vR l1), some (vR l2), some (vI (l3 + 1)), some (vR l4), some (vI s0)] [] h else (zul l2 (zev 77 4 [some (vR l0), some (vR l1), some (vR l4), some (vI (l3 + 1)), some (vR l4), some (vI s0)] [] h) ((zgI h l4 1 1 fun x1 => (zgI h l2 1 1 fun x2 => (if x2 < x1 then zev 77 4 [some (vR l0), some (vR l1), some (vR l4), some (vI (l3 + 1)), some (vR l4), some (vI s0)] [] h else zev 77 4 [some (vR l0), some (vR l1), some (vR l2), some (vI (l3 + 1)), some (vR l4), some (vI s0)] [] h)))))) := by
  refine (zv_is c77_55 rfl).trans ?_
  refine (zv_il c77_57 rfl).trans ?_
  refine (zv_ifeq c77_59).trans (zif_c ?_ ?_)
  · refine (zv_inc (y := 1) c77_81 rfl (by decide) rfl).trans ?_
    refine (zv_goto c77_84).trans ?_
    rfl
  · refine (zv_an c77_62 rfl).trans ?_
    refine (zv_nu c77_63).trans (zul_c ?_ ?_)
    · refine (zv_al c77_78 rfl).trans ?_
      refine (zv_at c77_80 rfl).trans ?_
      refine (zv_inc (y := 1) c77_81 rfl (by decide) rfl).trans ?_
      refine (zv_goto c77_84).trans ?_
      rfl
    · refine (zv_al c77_66 rfl).trans ?_
      refine (zv_gI c77_68 zg1_1).trans (zgI_c fun x1 => ?_)
      refine (zv_an c77_71 rfl).trans ?_
      refine (zv_gI c77_72 zg1_1).trans (zgI_c fun x2 => ?_)
      refine (zv_icle c77_75).trans (zif_c ?_ ?_)
      · refine (zv_al c77_78 rfl).trans ?_
        refine (zv_at c77_80 rfl).trans ?_
        refine (zv_inc (y := 1) c77_81 rfl (by decide) rfl).trans ?_
        refine (zv_goto c77_84).trans ?_
        rfl
      · refine (zv_inc (y := 1) c77_81 rfl (by decide) rfl).trans ?_
        refine (zv_goto c77_84).trans ?_
        rfl
theorem c78_0 : zcod 78 0 = some (.aload_n 0, 1, 0, 0, 0, 0) := by decide +kernel
theorem c78_1 : zcod 78 1 = some (.dup, 1, 0, 0, 0, 0) := by decide +kernel
theorem c78_2 : zcod 78 2 = some (.getfield 63, 3, 0, 0, 132, 1) := by decide +kernel
theorem c78_5 : zcod 78 5 = some (.iconst 1, 1, 0, 0, 0, 0) := by decide +kernel
theorem c78_6 : zcod 78 6 = some (.iadd, 1, 0, 0, 0, 0) := by decide +kernel
theorem c78_7 : zcod 78 7 = some (.putfield 63, 3, 0, 0, 132, 1) := by decide +kernel
theorem c78_10 : zcod 78 10 = some (.aload_n 0, 1, 0, 0, 0, 0) := by decide +kernel
theorem c78_11 : zcod 78 11 = some (.getfield 9, 3, 0, 1, 129, 0) := by decide +kernel
theorem c78_14 : zcod 78 14 = some (.astore_n 1, 1, 0, 0, 0, 0) := by decide +kernel
theorem c78_15 : zcod 78 15 = some (.aload_n 0, 1, 0, 0, 0, 0) := by decide +kernel
theorem c78_16 : zcod 78 16 = some (.getfield 48, 3, 0, 2, 130, 0) := by decide +kernel
theorem c78_19 : zcod 78 19 = some (.istore_n 2, 1, 0, 0, 0, 0) := by decide +kernel
theorem c78_20 : zcod 78 20 = some (.aload_n 0, 1, 0, 0, 0, 0) := by decide +kernel
theorem c78_21 : zcod 78 21 = some (.iconst 0, 1, 0, 0, 0, 0) := by decide +kernel
theorem c78_22 : zcod 78 22 = some (.dup_x1, 1, 0, 0, 0, 0) := by decide +kernel
theorem c78_23 : zcod 78 23 = some (.putfield 48, 3, 0, 2, 130, 0) := by decide +kernel
theorem c78_26 : zcod 78 26 = some (.istore_n 3, 1, 0, 0, 0, 0) := by decide +kernel
theorem c78_27 : zcod 78 27 = some (.iload_n 3, 1, 0, 0, 0, 0) := by decide +kernel
theorem c78_28 : zcod 78 28 = some (.iload_n 2, 1, 0, 0, 0, 0) := by decide +kernel
theorem c78_29 : zcod 78 29 = some (.if_icmp .ge 13, 3, 42, 0, 0, 0) := by decide +kernel
theorem c78_32 : zcod 78 32 = some (.aload_n 1, 1, 0, 0, 0, 0) := by decide +kernel
theorem c78_33 : zcod 78 33 = some (.iload_n 3, 1, 0, 0, 0, 0) := by decide +kernel
theorem c78_34 : zcod 78 34 = some (.aconst_null, 1, 0, 0, 0, 0) := by decide +kernel
theorem c78_35 : zcod 78 35 = some (.aastore, 1, 0, 0, 0, 0) := by decide +kernel
theorem c78_36 : zcod 78 36 = some (.iinc 3 1, 3, 0, 0, 0, 0) := by decide +kernel
theorem c78_39 : zcod 78 39 = some (.goto (-12), 3, 27, 0, 0, 0) := by decide +kernel
theorem c78_42 : zcod 78 42 = some (.return_, 1, 0, 0, 0, 0) := by decide +kernel
set_option maxRecDepth 100000 in
theorem b78_0 (l0 : Option Nat) (h : zH) : zev 78 0 [some (vR l0), none, none, none] [] h = (zgI h l0 0 0 fun x1 => (zpI h l0 0 0 (x1 + 1) fun h2 => (zgR h2 l0 0 1 fun x3 => (zgI h2 l0 0 2 fun x4 => (zpI h2 l0 0 2 0 fun h5 => zev 78 27 [some (vR l0), some (vR x3), some (vI x4), some (vI 0)] [] h5))))) := by
  refine (zv_an c78_0 rfl).trans ?_
  refine (zv_dup c78_1 rfl).trans ?_
  refine (zv_gI c78_2 zg0_0).trans (zgI_c fun x1 => ?_)
  refine (zv_k (v := 1) c78_5 (by decide)).trans ?_
  refine (zv_iadd c78_6).trans ?_
  refine (zv_pI c78_7 zf0_0).trans (zpI_c fun h2 => ?_)
  refine (zv_an c78_10 rfl).trans ?_
  refine (zv_gR c78_11 zf0_1).trans (zgR_c fun x3 => ?_)
  refine (zv_at c78_14 rfl).trans ?_
  refine (zv_an c78_15 rfl).trans ?_
  refine (zv_gI c78_16 zg0_2).trans (zgI_c fun x4 => ?_)
  refine (zv_it c78_19 rfl).trans ?_
  refine (zv_an c78_20 rfl).trans ?_
  refine (zv_k (v := 0) c78_21 (by decide)).trans ?_
  refine (zv_dx1 c78_22 rfl rfl).trans ?_
  refine (zv_pI c78_23 zf0_2).trans (zpI_c fun h5 => ?_)
  refine (zv_it c78_26 rfl).trans ?_
  rfl
theorem e78 (l0 : Option Nat) (h : zH) : zcall 78 [vR l0] h = (zgI h l0 0 0 fun x1 => (zpI h l0 0 0 (x1 + 1) fun h2 => (zgR h2 l0 0 1 fun x3 => (zgI h2 l0 0 2 fun x4 => (zpI h2 l0 0 2 0 fun h5 => zev 78 27 [some (vR l0), some (vR x3), some (vI x4), some (vI 0)] [] h5))))) := by
  refine Eq.trans ?_ (b78_0 l0 h)
  unfold zcall zent
  rw [zL_78]
  rfl
set_option maxRecDepth 100000 in
theorem b78_27 (l0 : Option Nat) (l1 : Option Nat) (l2 : Int32) (l3 : Int32) (h : zH) : zev 78 27 [some (vR l0), some (vR l1), some (vI l2), some (vI l3)] [] h = (if l3 < l2 then (ztR h l1 l3 none fun h1 => zev 78 27 [some (vR l0), some (vR l1), some (vI l2), some (vI (l3 + 1))] [] h1) else some (none, h)) := by
  refine (zv_in c78_27 rfl).trans ?_
  refine (zv_in c78_28 rfl).trans ?_
  refine (zv_icge c78_29).trans (zif_c ?_ ?_)
  · refine (zv_an c78_32 rfl).trans ?_
    refine (zv_in c78_33 rfl).trans ?_
    refine (zv_null c78_34).trans ?_
    refine (zv_tR c78_35).trans (ztR_c fun h1 => ?_)
    refine (zv_inc (y := 1) c78_36 rfl (by decide) rfl).trans ?_
    refine (zv_goto c78_39).trans ?_
    rfl
  · exact zv_vr c78_42 zrt_78
theorem c79_0 : zcod 79 0 = some (.aload_n 0, 1, 0, 0, 0, 0) := by decide +kernel
theorem c79_1 : zcod 79 1 = some (.iload_n 1, 1, 0, 0, 0, 0) := by decide +kernel
theorem c79_2 : zcod 79 2 = some (.invokevirtual 23, 3, 69, 1, 643, 0) := by decide +kernel
theorem c79_5 : zcod 79 5 = some (.iload_n 2, 1, 0, 0, 0, 0) := by decide +kernel
theorem c79_6 : zcod 79 6 = some (.if_icmp .ge 5, 3, 11, 0, 0, 0) := by decide +kernel
theorem c79_9 : zcod 79 9 = some (.iconst 0, 1, 0, 0, 0, 0) := by decide +kernel
theorem c79_10 : zcod 79 10 = some (.ireturn, 1, 0, 0, 0, 0) := by decide +kernel
theorem c79_11 : zcod 79 11 = some (.aload_n 0, 1, 0, 0, 0, 0) := by decide +kernel
theorem c79_12 : zcod 79 12 = some (.iload_n 1, 1, 0, 0, 0, 0) := by decide +kernel
theorem c79_13 : zcod 79 13 = some (.aload_n 0, 1, 0, 0, 0, 0) := by decide +kernel
theorem c79_14 : zcod 79 14 = some (.iload_n 1, 1, 0, 0, 0, 0) := by decide +kernel
theorem c79_15 : zcod 79 15 = some (.invokevirtual 23, 3, 69, 1, 643, 0) := by decide +kernel
theorem c79_18 : zcod 79 18 = some (.iload_n 2, 1, 0, 0, 0, 0) := by decide +kernel
theorem c79_19 : zcod 79 19 = some (.isub, 1, 0, 0, 0, 0) := by decide +kernel
theorem c79_20 : zcod 79 20 = some (.invokevirtual 27, 3, 70, 2, 644, 0) := by decide +kernel
theorem c79_23 : zcod 79 23 = some (.iconst 1, 1, 0, 0, 0, 0) := by decide +kernel
theorem c79_24 : zcod 79 24 = some (.ireturn, 1, 0, 0, 0, 0) := by decide +kernel
set_option maxRecDepth 100000 in
theorem b79_0 (l0 : Option Nat) (l1 : Int32) (l2 : Int32) (h : zH) : zev 79 0 [some (vR l0), some (vI l1), some (vI l2)] [] h = (zvr h l0 4 (zcI 69 [vR l0, vI l1] h fun x2 h1 => (if x2 < l2 then zbo 0 (some (some (vI 0), h1)) else (zvr h1 l0 4 (zcI 69 [vR l0, vI l1] h1 fun x4 h3 => (zvr h3 l0 4 (zcV 70 [vR l0, vI l1, vI (x4 - l2)] h3 fun h5 => zbo 1 (some (some (vI 1), h5))))))))) := by
  refine (zv_an c79_0 rfl).trans ?_
  refine (zv_in c79_1 rfl).trans ?_
  refine (zv_viI c79_2 zcn_69 rfl zL_69 (Or.inl zrt_69) rfl rfl).trans (zvr_c (zcI_c fun x2 h1 => ?_))
  refine (zv_in c79_5 rfl).trans ?_
  refine (zv_icge c79_6).trans (zif_c ?_ ?_)
  · refine (zv_k (v := 0) c79_9 (by decide)).trans ?_
    exact zv_iz c79_10 zrt_79
  · refine (zv_an c79_11 rfl).trans ?_
    refine (zv_in c79_12 rfl).trans ?_
    refine (zv_an c79_13 rfl).trans ?_
    refine (zv_in c79_14 rfl).trans ?_
    refine (zv_viI c79_15 zcn_69 rfl zL_69 (Or.inl zrt_69) rfl rfl).trans (zvr_c (zcI_c fun x4 h3 => ?_))
    refine (zv_in c79_18 rfl).trans ?_
    refine (zv_isub c79_19).trans ?_
    refine (zv_viV c79_20 zcn_70 rfl zL_70 zrt_70 rfl rfl).trans (zvr_c (zcV_c fun h5 => ?_))
    refine (zv_k (v := 1) c79_23 (by decide)).trans ?_
    exact zv_iz c79_24 zrt_79
theorem e79 (l0 : Option Nat) (l1 : Int32) (l2 : Int32) (h : zH) : zcall 79 [vR l0, vI l1, vI l2] h = (zvr h l0 4 (zcI 69 [vR l0, vI l1] h fun x2 h1 => (if x2 < l2 then zbo 0 (some (some (vI 0), h1)) else (zvr h1 l0 4 (zcI 69 [vR l0, vI l1] h1 fun x4 h3 => (zvr h3 l0 4 (zcV 70 [vR l0, vI l1, vI (x4 - l2)] h3 fun h5 => zbo 1 (some (some (vI 1), h5))))))))) := by
  refine Eq.trans ?_ (b79_0 l0 l1 l2 h)
  unfold zcall zent
  rw [zL_79]
  rfl
theorem c80_0 : zcod 80 0 = some (.aload_n 0, 1, 0, 0, 0, 0) := by decide +kernel
theorem c80_1 : zcod 80 1 = some (.iload_n 1, 1, 0, 0, 0, 0) := by decide +kernel
theorem c80_2 : zcod 80 2 = some (.putfield 85, 3, 2, 11, 338, 0) := by decide +kernel
theorem c80_5 : zcod 80 5 = some (.aload_n 0, 1, 0, 0, 0, 0) := by decide +kernel
theorem c80_6 : zcod 80 6 = some (.iload_n 1, 1, 0, 0, 0, 0) := by decide +kernel
theorem c80_7 : zcod 80 7 = some (.iconst 3, 1, 0, 0, 0, 0) := by decide +kernel
theorem c80_8 : zcod 80 8 = some (.idiv, 1, 0, 0, 0, 0) := by decide +kernel
theorem c80_9 : zcod 80 9 = some (.putfield 88, 3, 2, 13, 343, 0) := by decide +kernel
theorem c80_12 : zcod 80 12 = some (.aload_n 0, 1, 0, 0, 0, 0) := by decide +kernel
theorem c80_13 : zcod 80 13 = some (.iconst 3, 1, 0, 0, 0, 0) := by decide +kernel
theorem c80_14 : zcod 80 14 = some (.putfield 91, 3, 2, 12, 342, 0) := by decide +kernel
theorem c80_17 : zcod 80 17 = some (.aload_n 0, 1, 0, 0, 0, 0) := by decide +kernel
theorem c80_18 : zcod 80 18 = some (.iload_n 2, 1, 0, 0, 0, 0) := by decide +kernel
theorem c80_19 : zcod 80 19 = some (.putfield 94, 3, 2, 14, 346, 0) := by decide +kernel
theorem c80_22 : zcod 80 22 = some (.return_, 1, 0, 0, 0, 0) := by decide +kernel
set_option maxRecDepth 100000 in
theorem b80_0 (l0 : Option Nat) (l1 : Int32) (l2 : Int32) (h : zH) : zev 80 0 [some (vR l0), some (vI l1), some (vI l2)] [] h = (zpI h l0 2 11 l1 fun h1 => (zdv 3 ((zpI h1 l0 2 13 (l1 / 3) fun h2 => (zpI h2 l0 2 12 3 fun h3 => (zpI h3 l0 2 14 l2 fun h4 => some (none, h4))))))) := by
  refine (zv_an c80_0 rfl).trans ?_
  refine (zv_in c80_1 rfl).trans ?_
  refine (zv_pI c80_2 zf2_11).trans (zpI_c fun h1 => ?_)
  refine (zv_an c80_5 rfl).trans ?_
  refine (zv_in c80_6 rfl).trans ?_
  refine (zv_k (v := 3) c80_7 (by decide)).trans ?_
  refine (zv_div c80_8).trans (zdv_c ?_)
  refine (zv_pI c80_9 zf2_13).trans (zpI_c fun h2 => ?_)
  refine (zv_an c80_12 rfl).trans ?_
  refine (zv_k (v := 3) c80_13 (by decide)).trans ?_
  refine (zv_pI c80_14 zf2_12).trans (zpI_c fun h3 => ?_)
  refine (zv_an c80_17 rfl).trans ?_
  refine (zv_in c80_18 rfl).trans ?_
  refine (zv_pI c80_19 zf2_14).trans (zpI_c fun h4 => ?_)
  exact zv_vr c80_22 zrt_80
theorem e80 (l0 : Option Nat) (l1 : Int32) (l2 : Int32) (h : zH) : zcall 80 [vR l0, vI l1, vI l2] h = (zpI h l0 2 11 l1 fun h1 => (zdv 3 ((zpI h1 l0 2 13 (l1 / 3) fun h2 => (zpI h2 l0 2 12 3 fun h3 => (zpI h3 l0 2 14 l2 fun h4 => some (none, h4))))))) := by
  refine Eq.trans ?_ (b80_0 l0 l1 l2 h)
  unfold zcall zent
  rw [zL_80]
  rfl
theorem c81_0 : zcod 81 0 = some (.iload_n 2, 1, 0, 0, 0, 0) := by decide +kernel
theorem c81_1 : zcod 81 1 = some (.iconst (-1), 1, 0, 0, 0, 0) := by decide +kernel
theorem c81_2 : zcod 81 2 = some (.if_icmp .ne 7, 3, 9, 0, 0, 0) := by decide +kernel
theorem c81_5 : zcod 81 5 = some (.aload_n 1, 1, 0, 0, 0, 0) := by decide +kernel
theorem c81_6 : zcod 81 6 = some (.invokevirtual 25, 3, 82, 0, 653, 0) := by decide +kernel
theorem c81_9 : zcod 81 9 = some (.aload_n 0, 1, 0, 0, 0, 0) := by decide +kernel
theorem c81_10 : zcod 81 10 = some (.getfield 30, 3, 3, 8, 198, 0) := by decide +kernel
theorem c81_13 : zcod 81 13 = some (.sipush 1024, 3, 0, 0, 0, 0) := by decide +kernel
theorem c81_16 : zcod 81 16 = some (.if_icmp .ge 7, 3, 23, 0, 0, 0) := by decide +kernel
theorem c81_19 : zcod 81 19 = some (.aload_n 1, 1, 0, 0, 0, 0) := by decide +kernel
theorem c81_20 : zcod 81 20 = some (.invokevirtual 34, 3, 83, 0, 657, 0) := by decide +kernel
theorem c81_23 : zcod 81 23 = some (.aload_n 1, 1, 0, 0, 0, 0) := by decide +kernel
theorem c81_24 : zcod 81 24 = some (.iload_n 2, 1, 0, 0, 0, 0) := by decide +kernel
theorem c81_25 : zcod 81 25 = some (.aload_n 0, 1, 0, 0, 0, 0) := by decide +kernel
theorem c81_26 : zcod 81 26 = some (.getfield 37, 3, 3, 2, 186, 0) := by decide +kernel
theorem c81_29 : zcod 81 29 = some (.invokevirtual 40, 3, 85, 2, 680, 0) := by decide +kernel
theorem c81_32 : zcod 81 32 = some (.aload_n 0, 1, 0, 0, 0, 0) := by decide +kernel
theorem c81_33 : zcod 81 33 = some (.dup, 1, 0, 0, 0, 0) := by decide +kernel
theorem c81_34 : zcod 81 34 = some (.getfield 30, 3, 3, 8, 198, 0) := by decide +kernel
theorem c81_37 : zcod 81 37 = some (.iconst 1, 1, 0, 0, 0, 0) := by decide +kernel
theorem c81_38 : zcod 81 38 = some (.iadd, 1, 0, 0, 0, 0) := by decide +kernel
theorem c81_39 : zcod 81 39 = some (.putfield 30, 3, 3, 8, 198, 0) := by decide +kernel
theorem c81_42 : zcod 81 42 = some (.return_, 1, 0, 0, 0, 0) := by decide +kernel
set_option maxRecDepth 100000 in
theorem b81_0 (l0 : Option Nat) (l1 : Option Nat) (l2 : Int32) (h : zH) : zev 81 0 [some (vR l0), some (vR l1), some (vI l2)] [] h = (if l2 = (-1) then (zvr h l1 2 (zcV 82 [vR l1] h fun h1 => zev 81 9 [some (vR l0), some (vR l1), some (vI l2)] [] h1)) else zev 81 9 [some (vR l0), some (vR l1), some (vI l2)] [] h) := by
  refine (zv_in c81_0 rfl).trans ?_
  refine (zv_k (v := -1) c81_1 (by decide)).trans ?_
  refine (zv_icne c81_2).trans (zif_c ?_ ?_)
  · refine (zv_an c81_5 rfl).trans ?_
    refine (zv_viV c81_6 zcn_82 rfl zL_82 zrt_82 rfl rfl).trans (zvr_c (zcV_c fun h1 => ?_))
    rfl
  · rfl
theorem e81 (l0 : Option Nat) (l1 : Option Nat) (l2 : Int32) (h : zH) : zcall 81 [vR l0, vR l1, vI l2] h = (if l2 = (-1) then (zvr h l1 2 (zcV 82 [vR l1] h fun h1 => zev 81 9 [some (vR l0), some (vR l1), some (vI l2)] [] h1)) else zev 81 9 [some (vR l0), some (vR l1), some (vI l2)] [] h) := by
  refine Eq.trans ?_ (b81_0 l0 l1 l2 h)
  unfold zcall zent
  rw [zL_81]
  rfl
set_option maxRecDepth 100000 in
theorem b81_9 (l0 : Option Nat) (l1 : Option Nat) (l2 : Int32) (h : zH) : zev 81 9 [some (vR l0), some (vR l1), some (vI l2)] [] h = (zgI h l0 3 8 fun x1 => (if x1 < 1024 then (zvr h l1 2 (zcV 83 [vR l1] h fun h2 => (zgI h2 l0 3 2 fun x3 => (zvr h2 l1 2 (zcV 85 [vR l1, vI l2, vI x3] h2 fun h4 => (zgI h4 l0 3 8 fun x5 => (zpI h4 l0 3 8 (x5 + 1) fun h6 => some (none, h6)))))))) else (zgI h l0 3 2 fun x7 => (zvr h l1 2 (zcV 85 [vR l1, vI l2, vI x7] h fun h8 => (zgI h8 l0 3 8 fun x9 => (zpI h8 l0 3 8 (x9 + 1) fun h10 => some (none, h10)))))))) := by
  refine (zv_an c81_9 rfl).trans ?_
  refine (zv_gI c81_10 zg3_8).trans (zgI_c fun x1 => ?_)
  refine (zv_si (v := 1024) c81_13 (by decide)).trans ?_
  refine (zv_icge c81_16).trans (zif_c ?_ ?_)
  · refine (zv_an c81_19 rfl).trans ?_
    refine (zv_viV c81_20 zcn_83 rfl zL_83 zrt_83 rfl rfl).trans (zvr_c (zcV_c fun h2 => ?_))
    refine (zv_an c81_23 rfl).trans ?_
    refine (zv_in c81_24 rfl).trans ?_
    refine (zv_an c81_25 rfl).trans ?_
    refine (zv_gI c81_26 zg3_2).trans (zgI_c fun x3 => ?_)
    refine (zv_viV c81_29 zcn_85 rfl zL_85 zrt_85 rfl rfl).trans (zvr_c (zcV_c fun h4 => ?_))
    refine (zv_an c81_32 rfl).trans ?_
    refine (zv_dup c81_33 rfl).trans ?_
    refine (zv_gI c81_34 zg3_8).trans (zgI_c fun x5 => ?_)
    refine (zv_k (v := 1) c81_37 (by decide)).trans ?_
    refine (zv_iadd c81_38).trans ?_
    refine (zv_pI c81_39 zf3_8).trans (zpI_c fun h6 => ?_)
    exact zv_vr c81_42 zrt_81
  · refine (zv_an c81_23 rfl).trans ?_
    refine (zv_in c81_24 rfl).trans ?_
    refine (zv_an c81_25 rfl).trans ?_
    refine (zv_gI c81_26 zg3_2).trans (zgI_c fun x7 => ?_)
    refine (zv_viV c81_29 zcn_85 rfl zL_85 zrt_85 rfl rfl).trans (zvr_c (zcV_c fun h8 => ?_))
    refine (zv_an c81_32 rfl).trans ?_
    refine (zv_dup c81_33 rfl).trans ?_
    refine (zv_gI c81_34 zg3_8).trans (zgI_c fun x9 => ?_)
    refine (zv_k (v := 1) c81_37 (by decide)).trans ?_
    refine (zv_iadd c81_38).trans ?_
    refine (zv_pI c81_39 zf3_8).trans (zpI_c fun h10 => ?_)
    exact zv_vr c81_42 zrt_81
theorem c82_0 : zcod 82 0 = some (.aload_n 0, 1, 0, 0, 0, 0) := by decide +kernel
theorem c82_1 : zcod 82 1 = some (.iconst 0, 1, 0, 0, 0, 0) := by decide +kernel
theorem c82_2 : zcod 82 2 = some (.putfield 85, 3, 2, 11, 338, 0) := by decide +kernel
theorem c82_5 : zcod 82 5 = some (.aload_n 0, 1, 0, 0, 0, 0) := by decide +kernel
theorem c82_6 : zcod 82 6 = some (.iconst 0, 1, 0, 0, 0, 0) := by decide +kernel
theorem c82_7 : zcod 82 7 = some (.putfield 91, 3, 2, 12, 342, 0) := by decide +kernel
theorem c82_10 : zcod 82 10 = some (.aload_n 0, 1, 0, 0, 0, 0) := by decide +kernel
theorem c82_11 : zcod 82 11 = some (.iconst 0, 1, 0, 0, 0, 0) := by decide +kernel
theorem c82_12 : zcod 82 12 = some (.putfield 100, 3, 2, 15, 349, 0) := by decide +kernel
theorem c82_15 : zcod 82 15 = some (.aload_n 0, 1, 0, 0, 0, 0) := by decide +kernel
theorem c82_16 : zcod 82 16 = some (.iconst (-1), 1, 0, 0, 0, 0) := by decide +kernel
theorem c82_17 : zcod 82 17 = some (.putfield 25, 3, 2, 16, 350, 0) := by decide +kernel
theorem c82_20 : zcod 82 20 = some (.return_, 1, 0, 0, 0, 0) := by decide +kernel
set_option maxRecDepth 100000 in
theorem b82_0 (l0 : Option Nat) (h : zH) : zev 82 0 [some (vR l0)] [] h = (zpI h l0 2 11 0 fun h1 => (zpI h1 l0 2 12 0 fun h2 => (zpI h2 l0 2 15 0 fun h3 => (zpI h3 l0 2 16 (-1) fun h4 => some (none, h4))))) := by
  refine (zv_an c82_0 rfl).trans ?_
  refine (zv_k (v := 0) c82_1 (by decide)).trans ?_
  refine (zv_pI c82_2 zf2_11).trans (zpI_c fun h1 => ?_)
  refine (zv_an c82_5 rfl).trans ?_
  refine (zv_k (v := 0) c82_6 (by decide)).trans ?_
  refine (zv_pI c82_7 zf2_12).trans (zpI_c fun h2 => ?_)
  refine (zv_an c82_10 rfl).trans ?_
  refine (zv_k (v := 0) c82_11 (by decide)).trans ?_
  refine (zv_pI c82_12 zf2_15).trans (zpI_c fun h3 => ?_)
  refine (zv_an c82_15 rfl).trans ?_
  refine (zv_k (v := -1) c82_16 (by decide)).trans ?_
  refine (zv_pI c82_17 zf2_16).trans (zpI_c fun h4 => ?_)
  exact zv_vr c82_20 zrt_82
theorem e82 (l0 : Option Nat) (h : zH) : zcall 82 [vR l0] h = (zpI h l0 2 11 0 fun h1 => (zpI h1 l0 2 12 0 fun h2 => (zpI h2 l0 2 15 0 fun h3 => (zpI h3 l0 2 16 (-1) fun h4 => some (none, h4))))) := by
  refine Eq.trans ?_ (b82_0 l0 h)
  unfold zcall zent
  rw [zL_82]
  rfl
theorem c83_0 : zcod 83 0 = some (.aload_n 0, 1, 0, 0, 0, 0) := by decide +kernel
theorem c83_1 : zcod 83 1 = some (.new 70, 3, 7, 0, 661, 0) := by decide +kernel
theorem c83_4 : zcod 83 4 = some (.dup, 1, 0, 0, 0, 0) := by decide +kernel
theorem c83_5 : zcod 83 5 = some (.aload_n 0, 1, 0, 0, 0, 0) := by decide +kernel
theorem c83_6 : zcod 83 6 = some (.getfield 18, 3, 2, 7, 326, 0) := by decide +kernel
theorem c83_9 : zcod 83 9 = some (.aload_n 0, 1, 0, 0, 0, 0) := by decide +kernel
theorem c83_10 : zcod 83 10 = some (.getfield 22, 3, 2, 8, 330, 0) := by decide +kernel
theorem c83_13 : zcod 83 13 = some (.aload_n 0, 1, 0, 0, 0, 0) := by decide +kernel
theorem c83_14 : zcod 83 14 = some (.getfield 72, 3, 2, 9, 332, 0) := by decide +kernel
theorem c83_17 : zcod 83 17 = some (.invokespecial 76, 3, 84, 3, 663, 0) := by decide +kernel
theorem c83_20 : zcod 83 20 = some (.putfield 72, 3, 2, 9, 332, 0) := by decide +kernel
theorem c83_23 : zcod 83 23 = some (.return_, 1, 0, 0, 0, 0) := by decide +kernel
set_option maxRecDepth 100000 in
theorem b83_0 (l0 : Option Nat) (h : zH) : zev 83 0 [some (vR l0)] [] h = (zno h 7 fun x1 h2 => (zgI h2 l0 2 7 fun x3 => (zgI h2 l0 2 8 fun x4 => (zgR h2 l0 2 9 fun x5 => (zul x1 none (zcV 84 [vR x1, vI x3, vI x4, vR x5] h2 fun h6 => (zpR h6 l0 2 9 x1 fun h7 => some (none, h7)))))))) := by
  refine (zv_an c83_0 rfl).trans ?_
  refine (zv_new c83_1).trans (zno_c fun x1 h2 => ?_)
  refine (zv_dup c83_4 rfl).trans ?_
  refine (zv_an c83_5 rfl).trans ?_
  refine (zv_gI c83_6 zg2_7).trans (zgI_c fun x3 => ?_)
  refine (zv_an c83_9 rfl).trans ?_
  refine (zv_gI c83_10 zg2_8).trans (zgI_c fun x4 => ?_)
  refine (zv_an c83_13 rfl).trans ?_
  refine (zv_gR c83_14 zf2_9).trans (zgR_c fun x5 => ?_)
  refine (zv_spV c83_17 (by decide) rfl zL_84 zrt_84 rfl rfl).trans (zul_c rfl (zcV_c fun h6 => ?_))
  refine (zv_pR c83_20 zf2_9).trans (zpR_c fun h7 => ?_)
  exact zv_vr c83_23 zrt_83
theorem e83 (l0 : Option Nat) (h : zH) : zcall 83 [vR l0] h = (zno h 7 fun x1 h2 => (zgI h2 l0 2 7 fun x3 => (zgI h2 l0 2 8 fun x4 => (zgR h2 l0 2 9 fun x5 => (zul x1 none (zcV 84 [vR x1, vI x3, vI x4, vR x5] h2 fun h6 => (zpR h6 l0 2 9 x1 fun h7 => some (none, h7)))))))) := by
  refine Eq.trans ?_ (b83_0 l0 h)
  unfold zcall zent
  rw [zL_83]
  rfl
theorem c84_0 : zcod 84 0 = some (.aload_n 0, 1, 0, 0, 0, 0) := by decide +kernel
theorem c84_1 : zcod 84 1 = some (.invokespecial 1, 3, 1, 0, 666, 0) := by decide +kernel
theorem c84_4 : zcod 84 4 = some (.aload_n 0, 1, 0, 0, 0, 0) := by decide +kernel
theorem c84_5 : zcod 84 5 = some (.iload_n 1, 1, 0, 0, 0, 0) := by decide +kernel
theorem c84_6 : zcod 84 6 = some (.putfield 7, 3, 7, 0, 667, 0) := by decide +kernel
theorem c84_9 : zcod 84 9 = some (.aload_n 0, 1, 0, 0, 0, 0) := by decide +kernel
theorem c84_10 : zcod 84 10 = some (.iload_n 2, 1, 0, 0, 0, 0) := by decide +kernel
theorem c84_11 : zcod 84 11 = some (.putfield 13, 3, 7, 1, 669, 0) := by decide +kernel
theorem c84_14 : zcod 84 14 = some (.aload_n 0, 1, 0, 0, 0, 0) := by decide +kernel
theorem c84_15 : zcod 84 15 = some (.aload_n 3, 1, 0, 0, 0, 0) := by decide +kernel
theorem c84_16 : zcod 84 16 = some (.putfield 16, 3, 7, 2, 671, 0) := by decide +kernel
theorem c84_19 : zcod 84 19 = some (.return_, 1, 0, 0, 0, 0) := by decide +kernel
set_option maxRecDepth 100000 in
theorem b84_0 (l0 : Option Nat) (l1 : Int32) (l2 : Int32) (l3 : Option Nat) (h : zH) : zev 84 0 [some (vR l0), some (vI l1), some (vI l2), some (vR l3)] [] h = (zul l0 none ((zpI h l0 7 0 l1 fun h1 => (zpI h1 l0 7 1 l2 fun h2 => (zpR h2 l0 7 2 l3 fun h3 => some (none, h3)))))) := by
  refine (zv_an c84_0 rfl).trans ?_
  refine (zv_ob c84_1 (zle rfl)).trans (zul_c rfl ?_)
  refine (zv_an c84_4 rfl).trans ?_
  refine (zv_in c84_5 rfl).trans ?_
  refine (zv_pI c84_6 zf7_0).trans (zpI_c fun h1 => ?_)
  refine (zv_an c84_9 rfl).trans ?_
  refine (zv_in c84_10 rfl).trans ?_
  refine (zv_pI c84_11 zf7_1).trans (zpI_c fun h2 => ?_)
  refine (zv_an c84_14 rfl).trans ?_
  refine (zv_an c84_15 rfl).trans ?_
  refine (zv_pR c84_16 zf7_2).trans (zpR_c fun h3 => ?_)
  exact zv_vr c84_19 zrt_84
theorem e84 (l0 : Option Nat) (l1 : Int32) (l2 : Int32) (l3 : Option Nat) (h : zH) : zcall 84 [vR l0, vI l1, vI l2, vR l3] h = (zul l0 none ((zpI h l0 7 0 l1 fun h1 => (zpI h1 l0 7 1 l2 fun h2 => (zpR h2 l0 7 2 l3 fun h3 => some (none, h3)))))) := by
  refine Eq.trans ?_ (b84_0 l0 l1 l2 l3 h)
  unfold zcall zent
  rw [zL_84]
  rfl
theorem c85_0 : zcod 85 0 = some (.aload_n 0, 1, 0, 0, 0, 0) := by decide +kernel
theorem c85_1 : zcod 85 1 = some (.iload_n 1, 1, 0, 0, 0, 0) := by decide +kernel
theorem c85_2 : zcod 85 2 = some (.putfield 18, 3, 2, 7, 326, 0) := by decide +kernel
theorem c85_5 : zcod 85 5 = some (.aload_n 0, 1, 0, 0, 0, 0) := by decide +kernel
theorem c85_6 : zcod 85 6 = some (.iload_n 2, 1, 0, 0, 0, 0) := by decide +kernel
theorem c85_7 : zcod 85 7 = some (.putfield 22, 3, 2, 8, 330, 0) := by decide +kernel
theorem c85_10 : zcod 85 10 = some (.aload_n 0, 1, 0, 0, 0, 0) := by decide +kernel
theorem c85_11 : zcod 85 11 = some (.iconst 0, 1, 0, 0, 0, 0) := by decide +kernel
theorem c85_12 : zcod 85 12 = some (.putfield 79, 3, 2, 10, 333, 0) := by decide +kernel
theorem c85_15 : zcod 85 15 = some (.return_, 1, 0, 0, 0, 0) := by decide +kernel
set_option maxRecDepth 100000 in
theorem b85_0 (l0 : Option Nat) (l1 : Int32) (l2 : Int32) (h : zH) : zev 85 0 [some (vR l0), some (vI l1), some (vI l2)] [] h = (zpI h l0 2 7 l1 fun h1 => (zpI h1 l0 2 8 l2 fun h2 => (zpZ h2 l0 2 10 0 fun h3 => some (none, h3)))) := by
  refine (zv_an c85_0 rfl).trans ?_
  refine (zv_in c85_1 rfl).trans ?_
  refine (zv_pI c85_2 zf2_7).trans (zpI_c fun h1 => ?_)
  refine (zv_an c85_5 rfl).trans ?_
  refine (zv_in c85_6 rfl).trans ?_
  refine (zv_pI c85_7 zf2_8).trans (zpI_c fun h2 => ?_)
  refine (zv_an c85_10 rfl).trans ?_
  refine (zv_k (v := 0) c85_11 (by decide)).trans ?_
  refine (zv_pZ c85_12 zf2_10).trans (zpZ_c fun h3 => ?_)
  exact zv_vr c85_15 zrt_85
theorem e85 (l0 : Option Nat) (l1 : Int32) (l2 : Int32) (h : zH) : zcall 85 [vR l0, vI l1, vI l2] h = (zpI h l0 2 7 l1 fun h1 => (zpI h1 l0 2 8 l2 fun h2 => (zpZ h2 l0 2 10 0 fun h3 => some (none, h3)))) := by
  refine Eq.trans ?_ (b85_0 l0 l1 l2 h)
  unfold zcall zent
  rw [zL_85]
  rfl
theorem c86_0 : zcod 86 0 = some (.aload_n 0, 1, 0, 0, 0, 0) := by decide +kernel
theorem c86_1 : zcod 86 1 = some (.getfield 19, 3, 8, 1, 220, 0) := by decide +kernel
theorem c86_4 : zcod 86 4 = some (.getfield 31, 3, 3, 0, 183, 0) := by decide +kernel
theorem c86_7 : zcod 86 7 = some (.iload_n 1, 1, 0, 0, 0, 0) := by decide +kernel
theorem c86_8 : zcod 86 8 = some (.invokevirtual 62, 3, 50, 1, 499, 0) := by decide +kernel
theorem c86_11 : zcod 86 11 = some (.astore_n 3, 1, 0, 0, 0, 0) := by decide +kernel
theorem c86_12 : zcod 86 12 = some (.aload_n 3, 1, 0, 0, 0, 0) := by decide +kernel
theorem c86_13 : zcod 86 13 = some (.ifnull 17, 3, 30, 0, 0, 0) := by decide +kernel
theorem c86_16 : zcod 86 16 = some (.aload_n 0, 1, 0, 0, 0, 0) := by decide +kernel
theorem c86_17 : zcod 86 17 = some (.getfield 19, 3, 8, 1, 220, 0) := by decide +kernel
theorem c86_20 : zcod 86 20 = some (.getfield 121, 3, 3, 1, 185, 0) := by decide +kernel
theorem c86_23 : zcod 86 23 = some (.iload_n 2, 1, 0, 0, 0, 0) := by decide +kernel
theorem c86_24 : zcod 86 24 = some (.invokevirtual 130, 3, 68, 1, 573, 0) := by decide +kernel
theorem c86_27 : zcod 86 27 = some (.ifCond .ne 7, 3, 34, 0, 0, 0) := by decide +kernel
theorem c86_30 : zcod 86 30 = some (.sipush (-1001), 3, 0, 0, 0, 0) := by decide +kernel
theorem c86_33 : zcod 86 33 = some (.ireturn, 1, 0, 0, 0, 0) := by decide +kernel
theorem c86_34 : zcod 86 34 = some (.aload_n 3, 1, 0, 0, 0, 0) := by decide +kernel
theorem c86_35 : zcod 86 35 = some (.getfield 71, 3, 2, 7, 327, 0) := by decide +kernel
theorem c86_38 : zcod 86 38 = some (.iconst (-1), 1, 0, 0, 0, 0) := by decide +kernel
theorem c86_39 : zcod 86 39 = some (.if_icmp .eq 11, 3, 50, 0, 0, 0) := by decide +kernel
theorem c86_42 : zcod 86 42 = some (.aload_n 3, 1, 0, 0, 0, 0) := by decide +kernel
theorem c86_43 : zcod 86 43 = some (.getfield 71, 3, 2, 7, 327, 0) := by decide +kernel
theorem c86_46 : zcod 86 46 = some (.iload_n 2, 1, 0, 0, 0, 0) := by decide +kernel
theorem c86_47 : zcod 86 47 = some (.if_icmp .ne 7, 3, 54, 0, 0, 0) := by decide +kernel
theorem c86_50 : zcod 86 50 = some (.sipush (-1003), 3, 0, 0, 0, 0) := by decide +kernel
theorem c86_53 : zcod 86 53 = some (.ireturn, 1, 0, 0, 0, 0) := by decide +kernel
theorem c86_54 : zcod 86 54 = some (.aload_n 0, 1, 0, 0, 0, 0) := by decide +kernel
theorem c86_55 : zcod 86 55 = some (.getfield 19, 3, 8, 1, 220, 0) := by decide +kernel
theorem c86_58 : zcod 86 58 = some (.aload_n 3, 1, 0, 0, 0, 0) := by decide +kernel
theorem c86_59 : zcod 86 59 = some (.iload_n 2, 1, 0, 0, 0, 0) := by decide +kernel
theorem c86_60 : zcod 86 60 = some (.invokevirtual 154, 3, 81, 2, 688, 0) := by decide +kernel
theorem c86_63 : zcod 86 63 = some (.iconst 1, 1, 0, 0, 0, 0) := by decide +kernel
theorem c86_64 : zcod 86 64 = some (.ireturn, 1, 0, 0, 0, 0) := by decide +kernel
set_option maxRecDepth 100000 in
theorem b86_0 (l0 : Option Nat) (l1 : Int32) (l2 : Int32) (h : zH) : zev 86 0 [some (vR l0), some (vI l1), some (vI l2), none] [] h = (zgR h l0 8 1 fun x1 => (zgR h x1 3 0 fun x2 => (zvr h x2 5 (zcR 50 [vR x2, vI l1] h fun x4 h3 => (zul x4 (some (some (vI (-1001)), h3)) ((zgR h3 l0 8 1 fun x5 => (zgR h3 x5 3 1 fun x6 => (zvr h3 x6 4 (zcI 68 [vR x6, vI l2] h3 fun x8 h7 => (if x8 = 0 then some (some (vI (-1001)), h7) else (zgI h7 x4 2 7 fun x9 => (if x9 = (-1) then some (some (vI (-1003)), h7) else (zgI h7 x4 2 7 fun x10 => (if x10 = l2 then some (some (vI (-1003)), h7) else (zgR h7 l0 8 1 fun x11 => (zvr h7 x11 3 (zcV 81 [vR x11, vR x4, vI l2] h7 fun h12 => some (some (vI 1), h12))))))))))))))))))) := by
  refine (zv_an c86_0 rfl).trans ?_
  refine (zv_gR c86_1 zf8_1).trans (zgR_c fun x1 => ?_)
  refine (zv_gR c86_4 zf3_0).trans (zgR_c fun x2 => ?_)
  refine (zv_in c86_7 rfl).trans ?_
  refine (zv_viR c86_8 zcn_50 rfl zL_50 zrt_50 rfl rfl).trans (zvr_c (zcR_c fun x4 h3 => ?_))
  refine (zv_at c86_11 rfl).trans ?_
  refine (zv_an c86_12 rfl).trans ?_
  refine (zv_nu c86_13).trans (zul_c ?_ ?_)
  · refine (zv_si (v := -1001) c86_30 (by decide)).trans ?_
    exact zv_ir c86_33 zrt_86
  · refine (zv_an c86_16 rfl).trans ?_
    refine (zv_gR c86_17 zf8_1).trans (zgR_c fun x5 => ?_)
    refine (zv_gR c86_20 zf3_1).trans (zgR_c fun x6 => ?_)
    refine (zv_in c86_23 rfl).trans ?_
    refine (zv_viI c86_24 zcn_68 rfl zL_68 (Or.inr zrt_68) rfl rfl).trans (zvr_c (zcI_c fun x8 h7 => ?_))
    refine (zv_ifne c86_27).trans (zif_c ?_ ?_)
    · refine (zv_si (v := -1001) c86_30 (by decide)).trans ?_
      exact zv_ir c86_33 zrt_86
    · refine (zv_an c86_34 rfl).trans ?_
      refine (zv_gI c86_35 zg2_7).trans (zgI_c fun x9 => ?_)
      refine (zv_k (v := -1) c86_38 (by decide)).trans ?_
      refine (zv_iceq c86_39).trans (zif_c ?_ ?_)
      · refine (zv_si (v := -1003) c86_50 (by decide)).trans ?_
        exact zv_ir c86_53 zrt_86
      · refine (zv_an c86_42 rfl).trans ?_
        refine (zv_gI c86_43 zg2_7).trans (zgI_c fun x10 => ?_)
        refine (zv_in c86_46 rfl).trans ?_
        refine (zv_icne c86_47).trans (zif_c ?_ ?_)
        · refine (zv_si (v := -1003) c86_50 (by decide)).trans ?_
          exact zv_ir c86_53 zrt_86
        · refine (zv_an c86_54 rfl).trans ?_
          refine (zv_gR c86_55 zf8_1).trans (zgR_c fun x11 => ?_)
          refine (zv_an c86_58 rfl).trans ?_
          refine (zv_in c86_59 rfl).trans ?_
          refine (zv_viV c86_60 zcn_81 rfl zL_81 zrt_81 rfl rfl).trans (zvr_c (zcV_c fun h12 => ?_))
          refine (zv_k (v := 1) c86_63 (by decide)).trans ?_
          exact zv_ir c86_64 zrt_86
theorem e86 (l0 : Option Nat) (l1 : Int32) (l2 : Int32) (h : zH) : zcall 86 [vR l0, vI l1, vI l2] h = (zgR h l0 8 1 fun x1 => (zgR h x1 3 0 fun x2 => (zvr h x2 5 (zcR 50 [vR x2, vI l1] h fun x4 h3 => (zul x4 (some (some (vI (-1001)), h3)) ((zgR h3 l0 8 1 fun x5 => (zgR h3 x5 3 1 fun x6 => (zvr h3 x6 4 (zcI 68 [vR x6, vI l2] h3 fun x8 h7 => (if x8 = 0 then some (some (vI (-1001)), h7) else (zgI h7 x4 2 7 fun x9 => (if x9 = (-1) then some (some (vI (-1003)), h7) else (zgI h7 x4 2 7 fun x10 => (if x10 = l2 then some (some (vI (-1003)), h7) else (zgR h7 l0 8 1 fun x11 => (zvr h7 x11 3 (zcV 81 [vR x11, vR x4, vI l2] h7 fun h12 => some (some (vI 1), h12))))))))))))))))))) := by
  refine Eq.trans ?_ (b86_0 l0 l1 l2 h)
  unfold zcall zent
  rw [zL_86]
  rfl
theorem c87_0 : zcod 87 0 = some (.aload_n 0, 1, 0, 0, 0, 0) := by decide +kernel
theorem c87_1 : zcod 87 1 = some (.getfield 19, 3, 8, 1, 220, 0) := by decide +kernel
theorem c87_4 : zcod 87 4 = some (.getfield 31, 3, 3, 0, 183, 0) := by decide +kernel
theorem c87_7 : zcod 87 7 = some (.iload_n 1, 1, 0, 0, 0, 0) := by decide +kernel
theorem c87_8 : zcod 87 8 = some (.invokevirtual 62, 3, 50, 1, 499, 0) := by decide +kernel
theorem c87_11 : zcod 87 11 = some (.astore 4, 2, 0, 0, 0, 0) := by decide +kernel
theorem c87_13 : zcod 87 13 = some (.aload 4, 2, 0, 0, 0, 0) := by decide +kernel
theorem c87_15 : zcod 87 15 = some (.ifnull 17, 3, 32, 0, 0, 0) := by decide +kernel
theorem c87_18 : zcod 87 18 = some (.aload_n 0, 1, 0, 0, 0, 0) := by decide +kernel
theorem c87_19 : zcod 87 19 = some (.getfield 19, 3, 8, 1, 220, 0) := by decide +kernel
theorem c87_22 : zcod 87 22 = some (.getfield 121, 3, 3, 1, 185, 0) := by decide +kernel
theorem c87_25 : zcod 87 25 = some (.iload_n 2, 1, 0, 0, 0, 0) := by decide +kernel
theorem c87_26 : zcod 87 26 = some (.invokevirtual 130, 3, 68, 1, 573, 0) := by decide +kernel
theorem c87_29 : zcod 87 29 = some (.ifCond .ne 7, 3, 36, 0, 0, 0) := by decide +kernel
theorem c87_32 : zcod 87 32 = some (.sipush (-1001), 3, 0, 0, 0, 0) := by decide +kernel
theorem c87_35 : zcod 87 35 = some (.ireturn, 1, 0, 0, 0, 0) := by decide +kernel
theorem c87_36 : zcod 87 36 = some (.iload_n 3, 1, 0, 0, 0, 0) := by decide +kernel
theorem c87_37 : zcod 87 37 = some (.aload_n 0, 1, 0, 0, 0, 0) := by decide +kernel
theorem c87_38 : zcod 87 38 = some (.getfield 19, 3, 8, 1, 220, 0) := by decide +kernel
theorem c87_41 : zcod 87 41 = some (.getfield 158, 3, 3, 2, 187, 0) := by decide +kernel
theorem c87_44 : zcod 87 44 = some (.if_icmp .lt 10, 3, 54, 0, 0, 0) := by decide +kernel
theorem c87_47 : zcod 87 47 = some (.iload_n 3, 1, 0, 0, 0, 0) := by decide +kernel
theorem c87_48 : zcod 87 48 = some (.sipush 9999, 3, 0, 0, 0, 0) := by decide +kernel
theorem c87_51 : zcod 87 51 = some (.if_icmp .le 7, 3, 58, 0, 0, 0) := by decide +kernel
theorem c87_54 : zcod 87 54 = some (.sipush (-1002), 3, 0, 0, 0, 0) := by decide +kernel
theorem c87_57 : zcod 87 57 = some (.ireturn, 1, 0, 0, 0, 0) := by decide +kernel
theorem c87_58 : zcod 87 58 = some (.aload 4, 2, 0, 0, 0, 0) := by decide +kernel
theorem c87_60 : zcod 87 60 = some (.getfield 74, 3, 2, 4, 320, 0) := by decide +kernel
theorem c87_63 : zcod 87 63 = some (.ifCond .eq 12, 3, 75, 0, 0, 0) := by decide +kernel
theorem c87_66 : zcod 87 66 = some (.aload 4, 2, 0, 0, 0, 0) := by decide +kernel
theorem c87_68 : zcod 87 68 = some (.getfield 71, 3, 2, 7, 327, 0) := by decide +kernel
theorem c87_71 : zcod 87 71 = some (.iconst (-1), 1, 0, 0, 0, 0) := by decide +kernel
theorem c87_72 : zcod 87 72 = some (.if_icmp .eq 7, 3, 79, 0, 0, 0) := by decide +kernel
theorem c87_75 : zcod 87 75 = some (.sipush (-1003), 3, 0, 0, 0, 0) := by decide +kernel
theorem c87_78 : zcod 87 78 = some (.ireturn, 1, 0, 0, 0, 0) := by decide +kernel
theorem c87_79 : zcod 87 79 = some (.aload 4, 2, 0, 0, 0, 0) := by decide +kernel
theorem c87_81 : zcod 87 81 = some (.iload_n 3, 1, 0, 0, 0, 0) := by decide +kernel
theorem c87_82 : zcod 87 82 = some (.putfield 161, 3, 2, 16, 352, 0) := by decide +kernel
theorem c87_85 : zcod 87 85 = some (.aload_n 0, 1, 0, 0, 0, 0) := by decide +kernel
theorem c87_86 : zcod 87 86 = some (.getfield 19, 3, 8, 1, 220, 0) := by decide +kernel
theorem c87_89 : zcod 87 89 = some (.aload 4, 2, 0, 0, 0, 0) := by decide +kernel
theorem c87_91 : zcod 87 91 = some (.iload_n 2, 1, 0, 0, 0, 0) := by decide +kernel
theorem c87_92 : zcod 87 92 = some (.invokevirtual 154, 3, 81, 2, 688, 0) := by decide +kernel
theorem c87_95 : zcod 87 95 = some (.iconst 1, 1, 0, 0, 0, 0) := by decide +kernel
theorem c87_96 : zcod 87 96 = some (.ireturn, 1, 0, 0, 0, 0) := by decide +kernel
set_option maxRecDepth 100000 in
theorem b87_0 (l0 : Option Nat) (l1 : Int32) (l2 : Int32) (l3 : Int32) (h : zH) : zev 87 0 [some (vR l0), some (vI l1), some (vI l2), some (vI l3), none] [] h = (zgR h l0 8 1 fun x1 => (zgR h x1 3 0 fun x2 => (zvr h x2 5 (zcR 50 [vR x2, vI l1] h fun x4 h3 => (zul x4 (some (some (vI (-1001)), h3)) ((zgR h3 l0 8 1 fun x5 => (zgR h3 x5 3 1 fun x6 => (zvr h3 x6 4 (zcI 68 [vR x6, vI l2] h3 fun x8 h7 => (if x8 = 0 then some (some (vI (-1001)), h7) else (zgR h7 l0 8 1 fun x9 => (zgI h7 x9 3 2 fun x10 => (if l3 < x10 then some (some (vI (-1002)), h7) else (if 9999 < l3 then some (some (vI (-1002)), h7) else (zgI h7 x4 2 4 fun x11 => (if x11 = 0 then some (some (vI (-1003)), h7) else (zgI h7 x4 2 7 fun x12 => (if x12 = (-1) then (zpI h7 x4 2 16 l3 fun h13 => (zgR h13 l0 8 1 fun x14 => (zvr h13 x14 3 (zcV 81 [vR x14, vR x4, vI l2] h13 fun h15 => some (some (vI 1), h15))))) else some (some (vI (-1003)), h7)))))))))))))))))))) := by
  refine (zv_an c87_0 rfl).trans ?_
  refine (zv_gR c87_1 zf8_1).trans (zgR_c fun x1 => ?_)
  refine (zv_gR c87_4 zf3_0).trans (zgR_c fun x2 => ?_)
  refine (zv_in c87_7 rfl).trans ?_
  refine (zv_viR c87_8 zcn_50 rfl zL_50 zrt_50 rfl rfl).trans (zvr_c (zcR_c fun x4 h3 => ?_))
  refine (zv_as c87_11 rfl).trans ?_
  refine (zv_al c87_13 rfl).trans ?_
  refine (zv_nu c87_15).trans (zul_c ?_ ?_)
  · refine (zv_si (v := -1001) c87_32 (by decide)).trans ?_
    exact zv_ir c87_35 zrt_87
  · refine (zv_an c87_18 rfl).trans ?_
    refine (zv_gR c87_19 zf8_1).trans (zgR_c fun x5 => ?_)
    refine (zv_gR c87_22 zf3_1).trans (zgR_c fun x6 => ?_)
    refine (zv_in c87_25 rfl).trans ?_
    refine (zv_viI c87_26 zcn_68 rfl zL_68 (Or.inr zrt_68) rfl rfl).trans (zvr_c (zcI_c fun x8 h7 => ?_))
    refine (zv_ifne c87_29).trans (zif_c ?_ ?_)
    · refine (zv_si (v := -1001) c87_32 (by decide)).trans ?_
      exact zv_ir c87_35 zrt_87
    · refine (zv_in c87_36 rfl).trans ?_
      refine (zv_an c87_37 rfl).trans ?_
      refine (zv_gR c87_38 zf8_1).trans (zgR_c fun x9 => ?_)
      refine (zv_gI c87_41 zg3_2).trans (zgI_c fun x10 => ?_)
      refine (zv_iclt c87_44).trans (zif_c ?_ ?_)
      · refine (zv_si (v := -1002) c87_54 (by decide)).trans ?_
        exact zv_ir c87_57 zrt_87
      · refine (zv_in c87_47 rfl).trans ?_
        refine (zv_si (v := 9999) c87_48 (by decide)).trans ?_
        refine (zv_icle c87_51).trans (zif_c ?_ ?_)
        · refine (zv_si (v := -1002) c87_54 (by decide)).trans ?_
          exact zv_ir c87_57 zrt_87
        · refine (zv_al c87_58 rfl).trans ?_
          refine (zv_gI c87_60 zg2_4).trans (zgI_c fun x11 => ?_)
          refine (zv_ifeq c87_63).trans (zif_c ?_ ?_)
          · refine (zv_si (v := -1003) c87_75 (by decide)).trans ?_
            exact zv_ir c87_78 zrt_87
          · refine (zv_al c87_66 rfl).trans ?_
            refine (zv_gI c87_68 zg2_7).trans (zgI_c fun x12 => ?_)
            refine (zv_k (v := -1) c87_71 (by decide)).trans ?_
            refine (zv_iceq c87_72).trans (zif_c ?_ ?_)
            · refine (zv_al c87_79 rfl).trans ?_
              refine (zv_in c87_81 rfl).trans ?_
              refine (zv_pI c87_82 zf2_16).trans (zpI_c fun h13 => ?_)
              refine (zv_an c87_85 rfl).trans ?_
              refine (zv_gR c87_86 zf8_1).trans (zgR_c fun x14 => ?_)
              refine (zv_al c87_89 rfl).trans ?_
              refine (zv_in c87_91 rfl).trans ?_
              refine (zv_viV c87_92 zcn_81 rfl zL_81 zrt_81 rfl rfl).trans (zvr_c (zcV_c fun h15 => ?_))
              refine (zv_k (v := 1) c87_95 (by decide)).trans ?_
              exact zv_ir c87_96 zrt_87
            · refine (zv_si (v := -1003) c87_75 (by decide)).trans ?_
              exact zv_ir c87_78 zrt_87
theorem e87 (l0 : Option Nat) (l1 : Int32) (l2 : Int32) (l3 : Int32) (h : zH) : zcall 87 [vR l0, vI l1, vI l2, vI l3] h = (zgR h l0 8 1 fun x1 => (zgR h x1 3 0 fun x2 => (zvr h x2 5 (zcR 50 [vR x2, vI l1] h fun x4 h3 => (zul x4 (some (some (vI (-1001)), h3)) ((zgR h3 l0 8 1 fun x5 => (zgR h3 x5 3 1 fun x6 => (zvr h3 x6 4 (zcI 68 [vR x6, vI l2] h3 fun x8 h7 => (if x8 = 0 then some (some (vI (-1001)), h7) else (zgR h7 l0 8 1 fun x9 => (zgI h7 x9 3 2 fun x10 => (if l3 < x10 then some (some (vI (-1002)), h7) else (if 9999 < l3 then some (some (vI (-1002)), h7) else (zgI h7 x4 2 4 fun x11 => (if x11 = 0 then some (some (vI (-1003)), h7) else (zgI h7 x4 2 7 fun x12 => (if x12 = (-1) then (zpI h7 x4 2 16 l3 fun h13 => (zgR h13 l0 8 1 fun x14 => (zvr h13 x14 3 (zcV 81 [vR x14, vR x4, vI l2] h13 fun h15 => some (some (vI 1), h15))))) else some (some (vI (-1003)), h7)))))))))))))))))))) := by
  refine Eq.trans ?_ (b87_0 l0 l1 l2 l3 h)
  unfold zcall zent
  rw [zL_87]
  rfl
theorem c88_0 : zcod 88 0 = some (.iload_n 1, 1, 0, 0, 0, 0) := by decide +kernel
theorem c88_1 : zcod 88 1 = some (.ifCond .lt 9, 3, 10, 0, 0, 0) := by decide +kernel
theorem c88_4 : zcod 88 4 = some (.iload_n 1, 1, 0, 0, 0, 0) := by decide +kernel
theorem c88_5 : zcod 88 5 = some (.bipush 100, 2, 0, 0, 0, 0) := by decide +kernel
theorem c88_7 : zcod 88 7 = some (.if_icmp .le 7, 3, 14, 0, 0, 0) := by decide +kernel
theorem c88_10 : zcod 88 10 = some (.sipush (-1002), 3, 0, 0, 0, 0) := by decide +kernel
theorem c88_13 : zcod 88 13 = some (.ireturn, 1, 0, 0, 0, 0) := by decide +kernel
theorem c88_14 : zcod 88 14 = some (.aload_n 0, 1, 0, 0, 0, 0) := by decide +kernel
theorem c88_15 : zcod 88 15 = some (.getfield 19, 3, 8, 1, 220, 0) := by decide +kernel
theorem c88_18 : zcod 88 18 = some (.getfield 164, 3, 3, 3, 189, 0) := by decide +kernel
theorem c88_21 : zcod 88 21 = some (.istore_n 2, 1, 0, 0, 0, 0) := by decide +kernel
theorem c88_22 : zcod 88 22 = some (.aload_n 0, 1, 0, 0, 0, 0) := by decide +kernel
theorem c88_23 : zcod 88 23 = some (.getfield 19, 3, 8, 1, 220, 0) := by decide +kernel
theorem c88_26 : zcod 88 26 = some (.iload_n 1, 1, 0, 0, 0, 0) := by decide +kernel
theorem c88_27 : zcod 88 27 = some (.putfield 164, 3, 3, 3, 189, 0) := by decide +kernel
theorem c88_30 : zcod 88 30 = some (.iload_n 2, 1, 0, 0, 0, 0) := by decide +kernel
theorem c88_31 : zcod 88 31 = some (.ireturn, 1, 0, 0, 0, 0) := by decide +kernel
set_option maxRecDepth 100000 in
theorem b88_0 (l0 : Option Nat) (l1 : Int32) (h : zH) : zev 88 0 [some (vR l0), some (vI l1), none] [] h = (if l1 < 0 then some (some (vI (-1002)), h) else (if 100 < l1 then some (some (vI (-1002)), h) else (zgR h l0 8 1 fun x1 => (zgI h x1 3 3 fun x2 => (zgR h l0 8 1 fun x3 => (zpI h x3 3 3 l1 fun h4 => some (some (vI x2), h4))))))) := by
  refine (zv_in c88_0 rfl).trans ?_
  refine (zv_iflt c88_1).trans (zif_c ?_ ?_)
  · refine (zv_si (v := -1002) c88_10 (by decide)).trans ?_
    exact zv_ir c88_13 zrt_88
  · refine (zv_in c88_4 rfl).trans ?_
    refine (zv_bi (v := 100) c88_5 (by decide)).trans ?_
    refine (zv_icle c88_7).trans (zif_c ?_ ?_)
    · refine (zv_si (v := -1002) c88_10 (by decide)).trans ?_
      exact zv_ir c88_13 zrt_88
    · refine (zv_an c88_14 rfl).trans ?_
      refine (zv_gR c88_15 zf8_1).trans (zgR_c fun x1 => ?_)
      refine (zv_gI c88_18 zg3_3).trans (zgI_c fun x2 => ?_)
      refine (zv_it c88_21 rfl).trans ?_
      refine (zv_an c88_22 rfl).trans ?_
      refine (zv_gR c88_23 zf8_1).trans (zgR_c fun x3 => ?_)
      refine (zv_in c88_26 rfl).trans ?_
      refine (zv_pI c88_27 zf3_3).trans (zpI_c fun h4 => ?_)
      refine (zv_in c88_30 rfl).trans ?_
      exact zv_ir c88_31 zrt_88
theorem e88 (l0 : Option Nat) (l1 : Int32) (h : zH) : zcall 88 [vR l0, vI l1] h = (if l1 < 0 then some (some (vI (-1002)), h) else (if 100 < l1 then some (some (vI (-1002)), h) else (zgR h l0 8 1 fun x1 => (zgI h x1 3 3 fun x2 => (zgR h l0 8 1 fun x3 => (zpI h x3 3 3 l1 fun h4 => some (some (vI x2), h4))))))) := by
  refine Eq.trans ?_ (b88_0 l0 l1 h)
  unfold zcall zent
  rw [zL_88]
  rfl
theorem c89_0 : zcod 89 0 = some (.iload_n 1, 1, 0, 0, 0, 0) := by decide +kernel
theorem c89_1 : zcod 89 1 = some (.ifCond .lt 10, 3, 11, 0, 0, 0) := by decide +kernel
theorem c89_4 : zcod 89 4 = some (.iload_n 1, 1, 0, 0, 0, 0) := by decide +kernel
theorem c89_5 : zcod 89 5 = some (.sipush 1000, 3, 0, 0, 0, 0) := by decide +kernel
theorem c89_8 : zcod 89 8 = some (.if_icmp .le 7, 3, 15, 0, 0, 0) := by decide +kernel
theorem c89_11 : zcod 89 11 = some (.sipush (-1002), 3, 0, 0, 0, 0) := by decide +kernel
theorem c89_14 : zcod 89 14 = some (.ireturn, 1, 0, 0, 0, 0) := by decide +kernel
theorem c89_15 : zcod 89 15 = some (.aload_n 0, 1, 0, 0, 0, 0) := by decide +kernel
theorem c89_16 : zcod 89 16 = some (.getfield 19, 3, 8, 1, 220, 0) := by decide +kernel
theorem c89_19 : zcod 89 19 = some (.getfield 158, 3, 3, 2, 187, 0) := by decide +kernel
theorem c89_22 : zcod 89 22 = some (.iload_n 1, 1, 0, 0, 0, 0) := by decide +kernel
theorem c89_23 : zcod 89 23 = some (.iadd, 1, 0, 0, 0, 0) := by decide +kernel
theorem c89_24 : zcod 89 24 = some (.sipush 9999, 3, 0, 0, 0, 0) := by decide +kernel
theorem c89_27 : zcod 89 27 = some (.if_icmp .le 7, 3, 34, 0, 0, 0) := by decide +kernel
theorem c89_30 : zcod 89 30 = some (.sipush (-1003), 3, 0, 0, 0, 0) := by decide +kernel
theorem c89_33 : zcod 89 33 = some (.ireturn, 1, 0, 0, 0, 0) := by decide +kernel
theorem c89_34 : zcod 89 34 = some (.iconst 0, 1, 0, 0, 0, 0) := by decide +kernel
theorem c89_35 : zcod 89 35 = some (.istore_n 2, 1, 0, 0, 0, 0) := by decide +kernel
theorem c89_36 : zcod 89 36 = some (.iload_n 2, 1, 0, 0, 0, 0) := by decide +kernel
theorem c89_37 : zcod 89 37 = some (.iload_n 1, 1, 0, 0, 0, 0) := by decide +kernel
theorem c89_38 : zcod 89 38 = some (.if_icmp .ge 16, 3, 54, 0, 0, 0) := by decide +kernel
theorem c89_41 : zcod 89 41 = some (.aload_n 0, 1, 0, 0, 0, 0) := by decide +kernel
theorem c89_42 : zcod 89 42 = some (.getfield 19, 3, 8, 1, 220, 0) := by decide +kernel
theorem c89_45 : zcod 89 45 = some (.invokevirtual 167, 3, 90, 0, 701, 0) := by decide +kernel
theorem c89_48 : zcod 89 48 = some (.iinc 2 1, 3, 0, 0, 0, 0) := by decide +kernel
theorem c89_51 : zcod 89 51 = some (.goto (-15), 3, 36, 0, 0, 0) := by decide +kernel
theorem c89_54 : zcod 89 54 = some (.aload_n 0, 1, 0, 0, 0, 0) := by decide +kernel
theorem c89_55 : zcod 89 55 = some (.getfield 19, 3, 8, 1, 220, 0) := by decide +kernel
theorem c89_58 : zcod 89 58 = some (.getfield 158, 3, 3, 2, 187, 0) := by decide +kernel
theorem c89_61 : zcod 89 61 = some (.ireturn, 1, 0, 0, 0, 0) := by decide +kernel
set_option maxRecDepth 100000 in
theorem b89_0 (l0 : Option Nat) (l1 : Int32) (h : zH) : zev 89 0 [some (vR l0), some (vI l1), none] [] h = (if l1 < 0 then some (some (vI (-1002)), h) else (if 1000 < l1 then some (some (vI (-1002)), h) else (zgR h l0 8 1 fun x1 => (zgI h x1 3 2 fun x2 => (if 9999 < (x2 + l1) then some (some (vI (-1003)), h) else zev 89 36 [some (vR l0), some (vI l1), some (vI 0)] [] h))))) := by
  refine (zv_in c89_0 rfl).trans ?_
  refine (zv_iflt c89_1).trans (zif_c ?_ ?_)
  · refine (zv_si (v := -1002) c89_11 (by decide)).trans ?_
    exact zv_ir c89_14 zrt_89
  · refine (zv_in c89_4 rfl).trans ?_
    refine (zv_si (v := 1000) c89_5 (by decide)).trans ?_
    refine (zv_icle c89_8).trans (zif_c ?_ ?_)
    · refine (zv_si (v := -1002) c89_11 (by decide)).trans ?_
      exact zv_ir c89_14 zrt_89
    · refine (zv_an c89_15 rfl).trans ?_
      refine (zv_gR c89_16 zf8_1).trans (zgR_c fun x1 => ?_)
      refine (zv_gI c89_19 zg3_2).trans (zgI_c fun x2 => ?_)
      refine (zv_in c89_22 rfl).trans ?_
      refine (zv_iadd c89_23).trans ?_
      refine (zv_si (v := 9999) c89_24 (by decide)).trans ?_
      refine (zv_icle c89_27).trans (zif_c ?_ ?_)
      · refine (zv_si (v := -1003) c89_30 (by decide)).trans ?_
        exact zv_ir c89_33 zrt_89
      · refine (zv_k (v := 0) c89_34 (by decide)).trans ?_
        refine (zv_it c89_35 rfl).trans ?_
        rfl
theorem e89 (l0 : Option Nat) (l1 : Int32) (h : zH) : zcall 89 [vR l0, vI l1] h = (if l1 < 0 then some (some (vI (-1002)), h) else (if 1000 < l1 then some (some (vI (-1002)), h) else (zgR h l0 8 1 fun x1 => (zgI h x1 3 2 fun x2 => (if 9999 < (x2 + l1) then some (some (vI (-1003)), h) else zev 89 36 [some (vR l0), some (vI l1), some (vI 0)] [] h))))) := by
  refine Eq.trans ?_ (b89_0 l0 l1 h)
  unfold zcall zent
  rw [zL_89]
  rfl
set_option maxRecDepth 100000 in
theorem b89_36 (l0 : Option Nat) (l1 : Int32) (l2 : Int32) (h : zH) : zev 89 36 [some (vR l0), some (vI l1), some (vI l2)] [] h = (if l2 < l1 then (zgR h l0 8 1 fun x1 => (zvr h x1 3 (zcV 90 [vR x1] h fun h2 => zev 89 36 [some (vR l0), some (vI l1), some (vI (l2 + 1))] [] h2))) else (zgR h l0 8 1 fun x3 => (zgI h x3 3 2 fun x4 => some (some (vI x4), h)))) := by
  refine (zv_in c89_36 rfl).trans ?_
  refine (zv_in c89_37 rfl).trans ?_
  refine (zv_icge c89_38).trans (zif_c ?_ ?_)
  · refine (zv_an c89_41 rfl).trans ?_
    refine (zv_gR c89_42 zf8_1).trans (zgR_c fun x1 => ?_)
    refine (zv_viV c89_45 zcn_90 rfl zL_90 zrt_90 rfl rfl).trans (zvr_c (zcV_c fun h2 => ?_))
    refine (zv_inc (y := 1) c89_48 rfl (by decide) rfl).trans ?_
    refine (zv_goto c89_51).trans ?_
    rfl
  · refine (zv_an c89_54 rfl).trans ?_
    refine (zv_gR c89_55 zf8_1).trans (zgR_c fun x3 => ?_)
    refine (zv_gI c89_58 zg3_2).trans (zgI_c fun x4 => ?_)
    exact zv_ir c89_61 zrt_89
theorem c90_0 : zcod 90 0 = some (.aload_n 0, 1, 0, 0, 0, 0) := by decide +kernel
theorem c90_1 : zcod 90 1 = some (.invokevirtual 91, 3, 91, 0, 705, 0) := by decide +kernel
theorem c90_4 : zcod 90 4 = some (.aload_n 0, 1, 0, 0, 0, 0) := by decide +kernel
theorem c90_5 : zcod 90 5 = some (.getfield 37, 3, 3, 2, 186, 0) := by decide +kernel
theorem c90_8 : zcod 90 8 = some (.sipush 365, 3, 0, 0, 0, 0) := by decide +kernel
theorem c90_11 : zcod 90 11 = some (.irem, 1, 0, 0, 0, 0) := by decide +kernel
theorem c90_12 : zcod 90 12 = some (.sipush 364, 3, 0, 0, 0, 0) := by decide +kernel
theorem c90_15 : zcod 90 15 = some (.if_icmp .ne 11, 3, 26, 0, 0, 0) := by decide +kernel
theorem c90_18 : zcod 90 18 = some (.aload_n 0, 1, 0, 0, 0, 0) := by decide +kernel
theorem c90_19 : zcod 90 19 = some (.invokevirtual 94, 3, 95, 0, 723, 0) := by decide +kernel
theorem c90_22 : zcod 90 22 = some (.aload_n 0, 1, 0, 0, 0, 0) := by decide +kernel
theorem c90_23 : zcod 90 23 = some (.invokevirtual 97, 3, 97, 0, 732, 0) := by decide +kernel
theorem c90_26 : zcod 90 26 = some (.aload_n 0, 1, 0, 0, 0, 0) := by decide +kernel
theorem c90_27 : zcod 90 27 = some (.invokevirtual 100, 3, 100, 0, 745, 0) := by decide +kernel
theorem c90_30 : zcod 90 30 = some (.aload_n 0, 1, 0, 0, 0, 0) := by decide +kernel
theorem c90_31 : zcod 90 31 = some (.dup, 1, 0, 0, 0, 0) := by decide +kernel
theorem c90_32 : zcod 90 32 = some (.getfield 37, 3, 3, 2, 186, 0) := by decide +kernel
theorem c90_35 : zcod 90 35 = some (.iconst 1, 1, 0, 0, 0, 0) := by decide +kernel
theorem c90_36 : zcod 90 36 = some (.iadd, 1, 0, 0, 0, 0) := by decide +kernel
theorem c90_37 : zcod 90 37 = some (.putfield 37, 3, 3, 2, 186, 0) := by decide +kernel
theorem c90_40 : zcod 90 40 = some (.return_, 1, 0, 0, 0, 0) := by decide +kernel
set_option maxRecDepth 100000 in
theorem b90_0 (l0 : Option Nat) (h : zH) : zev 90 0 [some (vR l0)] [] h = (zvr h l0 3 (zcV 91 [vR l0] h fun h1 => (zgI h1 l0 3 2 fun x2 => (zdv 365 ((if (x2 - x2 / 365 * 365) = 364 then (zvr h1 l0 3 (zcV 95 [vR l0] h1 fun h3 => (zvr h3 l0 3 (zcV 97 [vR l0] h3 fun h4 => (zvr h4 l0 3 (zcV 100 [vR l0] h4 fun h5 => (zgI h5 l0 3 2 fun x6 => (zpI h5 l0 3 2 (x6 + 1) fun h7 => some (none, h7))))))))) else (zvr h1 l0 3 (zcV 100 [vR l0] h1 fun h8 => (zgI h8 l0 3 2 fun x9 => (zpI h8 l0 3 2 (x9 + 1) fun h10 => some (none, h10))))))))))) := by
  refine (zv_an c90_0 rfl).trans ?_
  refine (zv_viV c90_1 zcn_91 rfl zL_91 zrt_91 rfl rfl).trans (zvr_c (zcV_c fun h1 => ?_))
  refine (zv_an c90_4 rfl).trans ?_
  refine (zv_gI c90_5 zg3_2).trans (zgI_c fun x2 => ?_)
  refine (zv_si (v := 365) c90_8 (by decide)).trans ?_
  refine (zv_rem c90_11).trans (zdv_c ?_)
  refine (zv_si (v := 364) c90_12 (by decide)).trans ?_
  refine (zv_icne c90_15).trans (zif_c ?_ ?_)
  · refine (zv_an c90_18 rfl).trans ?_
    refine (zv_viV c90_19 zcn_95 rfl zL_95 zrt_95 rfl rfl).trans (zvr_c (zcV_c fun h3 => ?_))
    refine (zv_an c90_22 rfl).trans ?_
    refine (zv_viV c90_23 zcn_97 rfl zL_97 zrt_97 rfl rfl).trans (zvr_c (zcV_c fun h4 => ?_))
    refine (zv_an c90_26 rfl).trans ?_
    refine (zv_viV c90_27 zcn_100 rfl zL_100 zrt_100 rfl rfl).trans (zvr_c (zcV_c fun h5 => ?_))
    refine (zv_an c90_30 rfl).trans ?_
    refine (zv_dup c90_31 rfl).trans ?_
    refine (zv_gI c90_32 zg3_2).trans (zgI_c fun x6 => ?_)
    refine (zv_k (v := 1) c90_35 (by decide)).trans ?_
    refine (zv_iadd c90_36).trans ?_
    refine (zv_pI c90_37 zf3_2).trans (zpI_c fun h7 => ?_)
    exact zv_vr c90_40 zrt_90
  · refine (zv_an c90_26 rfl).trans ?_
    refine (zv_viV c90_27 zcn_100 rfl zL_100 zrt_100 rfl rfl).trans (zvr_c (zcV_c fun h8 => ?_))
    refine (zv_an c90_30 rfl).trans ?_
    refine (zv_dup c90_31 rfl).trans ?_
    refine (zv_gI c90_32 zg3_2).trans (zgI_c fun x9 => ?_)
    refine (zv_k (v := 1) c90_35 (by decide)).trans ?_
    refine (zv_iadd c90_36).trans ?_
    refine (zv_pI c90_37 zf3_2).trans (zpI_c fun h10 => ?_)
    exact zv_vr c90_40 zrt_90
theorem e90 (l0 : Option Nat) (h : zH) : zcall 90 [vR l0] h = (zvr h l0 3 (zcV 91 [vR l0] h fun h1 => (zgI h1 l0 3 2 fun x2 => (zdv 365 ((if (x2 - x2 / 365 * 365) = 364 then (zvr h1 l0 3 (zcV 95 [vR l0] h1 fun h3 => (zvr h3 l0 3 (zcV 97 [vR l0] h3 fun h4 => (zvr h4 l0 3 (zcV 100 [vR l0] h4 fun h5 => (zgI h5 l0 3 2 fun x6 => (zpI h5 l0 3 2 (x6 + 1) fun h7 => some (none, h7))))))))) else (zvr h1 l0 3 (zcV 100 [vR l0] h1 fun h8 => (zgI h8 l0 3 2 fun x9 => (zpI h8 l0 3 2 (x9 + 1) fun h10 => some (none, h10))))))))))) := by
  refine Eq.trans ?_ (b90_0 l0 h)
  unfold zcall zent
  rw [zL_90]
  rfl
theorem c91_0 : zcod 91 0 = some (.iconst 0, 1, 0, 0, 0, 0) := by decide +kernel
theorem c91_1 : zcod 91 1 = some (.istore_n 1, 1, 0, 0, 0, 0) := by decide +kernel
theorem c91_2 : zcod 91 2 = some (.iload_n 1, 1, 0, 0, 0, 0) := by decide +kernel
theorem c91_3 : zcod 91 3 = some (.aload_n 0, 1, 0, 0, 0, 0) := by decide +kernel
theorem c91_4 : zcod 91 4 = some (.getfield 12, 3, 3, 0, 182, 0) := by decide +kernel
theorem c91_7 : zcod 91 7 = some (.getfield 103, 3, 5, 2, 150, 0) := by decide +kernel
theorem c91_10 : zcod 91 10 = some (.invokevirtual 79, 3, 14, 0, 631, 0) := by decide +kernel
theorem c91_13 : zcod 91 13 = some (.if_icmp .ge 47, 3, 60, 0, 0, 0) := by decide +kernel
theorem c91_16 : zcod 91 16 = some (.aload_n 0, 1, 0, 0, 0, 0) := by decide +kernel
theorem c91_17 : zcod 91 17 = some (.getfield 12, 3, 3, 0, 182, 0) := by decide +kernel
theorem c91_20 : zcod 91 20 = some (.getfield 103, 3, 5, 2, 150, 0) := by decide +kernel
theorem c91_23 : zcod 91 23 = some (.iload_n 1, 1, 0, 0, 0, 0) := by decide +kernel
theorem c91_24 : zcod 91 24 = some (.invokevirtual 83, 3, 51, 1, 632, 0) := by decide +kernel
theorem c91_27 : zcod 91 27 = some (.checkcast 26, 3, 2, 0, 709, 0) := by decide +kernel
theorem c91_30 : zcod 91 30 = some (.astore_n 2, 1, 0, 0, 0, 0) := by decide +kernel
theorem c91_31 : zcod 91 31 = some (.aload_n 2, 1, 0, 0, 0, 0) := by decide +kernel
theorem c91_32 : zcod 91 32 = some (.getfield 106, 3, 2, 12, 340, 0) := by decide +kernel
theorem c91_35 : zcod 91 35 = some (.ifCond .le 19, 3, 54, 0, 0, 0) := by decide +kernel
theorem c91_38 : zcod 91 38 = some (.aload_n 2, 1, 0, 0, 0, 0) := by decide +kernel
theorem c91_39 : zcod 91 39 = some (.getfield 109, 3, 2, 14, 344, 0) := by decide +kernel
theorem c91_42 : zcod 91 42 = some (.aload_n 0, 1, 0, 0, 0, 0) := by decide +kernel
theorem c91_43 : zcod 91 43 = some (.getfield 37, 3, 3, 2, 186, 0) := by decide +kernel
theorem c91_46 : zcod 91 46 = some (.if_icmp .gt 8, 3, 54, 0, 0, 0) := by decide +kernel
theorem c91_49 : zcod 91 49 = some (.aload_n 0, 1, 0, 0, 0, 0) := by decide +kernel
theorem c91_50 : zcod 91 50 = some (.aload_n 2, 1, 0, 0, 0, 0) := by decide +kernel
theorem c91_51 : zcod 91 51 = some (.invokevirtual 112, 3, 92, 1, 710, 0) := by decide +kernel
theorem c91_54 : zcod 91 54 = some (.iinc 1 1, 3, 0, 0, 0, 0) := by decide +kernel
theorem c91_57 : zcod 91 57 = some (.goto (-55), 3, 2, 0, 0, 0) := by decide +kernel
theorem c91_60 : zcod 91 60 = some (.return_, 1, 0, 0, 0, 0) := by decide +kernel
set_option maxRecDepth 100000 in
theorem b91_0 (l0 : Option Nat) (h : zH) : zev 91 0 [some (vR l0), none, none] [] h = zev 91 2 [some (vR l0), some (vI 0), none] [] h := by
  refine (zv_k (v := 0) c91_0 (by decide)).trans ?_
  refine (zv_it c91_1 rfl).trans ?_
  rfl
theorem e91 (l0 : Option Nat) (h : zH) : zcall 91 [vR l0] h = zev 91 2 [some (vR l0), some (vI 0), none] [] h := by
  refine Eq.trans ?_ (b91_0 l0 h)
  unfold zcall zent
  rw [zL_91]
  rfl
set_option maxRecDepth 100000 in
theorem b91_2 (l0 : Option Nat) (l1 : Int32) (l2 : Option zV) (h : zH) : zev 91 2 [some (vR l0), some (vI l1), l2] [] h = (zgR h l0 3 0 fun x1 => (zgR h x1 5 2 fun x2 => (zvr h x2 0 (zcI 14 [vR x2] h fun x4 h3 => (if l1 < x4 then (zgR h3 l0 3 0 fun x5 => (zgR h3 x5 5 2 fun x6 => (zvr h3 x6 0 (zcR 51 [vR x6, vI l1] h3 fun x8 h7 => (zca h7 2 x8 ((zgI h7 x8 2 12 fun x9 => (if 0 < x9 then (zgI h7 x8 2 14 fun x10 => (zgI h7 l0 3 2 fun x11 => (if x11 < x10 then zev 91 2 [some (vR l0), some (vI (l1 + 1)), some (vR x8)] [] h7 else (zvr h7 l0 3 (zcV 92 [vR l0, vR x8] h7 fun h12 => zev 91 2 [some (vR l0), some (vI (l1 + 1)), some (vR x8)] [] h12))))) else zev 91 2 [some (vR l0), some (vI (l1 + 1)), some (vR x8)] [] h7)))))))) else some (none, h3)))))) := by
  refine (zv_in c91_2 rfl).trans ?_
  refine (zv_an c91_3 rfl).trans ?_
  refine (zv_gR c91_4 zf3_0).trans (zgR_c fun x1 => ?_)
  refine (zv_gR c91_7 zf5_2).trans (zgR_c fun x2 => ?_)
  refine (zv_viI c91_10 zcn_14 rfl zL_14 (Or.inl zrt_14) rfl rfl).trans (zvr_c (zcI_c fun x4 h3 => ?_))
  refine (zv_icge c91_13).trans (zif_c ?_ ?_)
  · refine (zv_an c91_16 rfl).trans ?_
    refine (zv_gR c91_17 zf3_0).trans (zgR_c fun x5 => ?_)
    refine (zv_gR c91_20 zf5_2).trans (zgR_c fun x6 => ?_)
    refine (zv_in c91_23 rfl).trans ?_
    refine (zv_viR c91_24 zcn_51 rfl zL_51 zrt_51 rfl rfl).trans (zvr_c (zcR_c fun x8 h7 => ?_))
    refine (zv_ca c91_27).trans (zca_c ?_)
    refine (zv_at c91_30 rfl).trans ?_
    refine (zv_an c91_31 rfl).trans ?_
    refine (zv_gI c91_32 zg2_12).trans (zgI_c fun x9 => ?_)
    refine (zv_ifle c91_35).trans (zif_c ?_ ?_)
    · refine (zv_an c91_38 rfl).trans ?_
      refine (zv_gI c91_39 zg2_14).trans (zgI_c fun x10 => ?_)
      refine (zv_an c91_42 rfl).trans ?_
      refine (zv_gI c91_43 zg3_2).trans (zgI_c fun x11 => ?_)
      refine (zv_icgt c91_46).trans (zif_c ?_ ?_)
      · refine (zv_inc (y := 1) c91_54 rfl (by decide) rfl).trans ?_
        refine (zv_goto c91_57).trans ?_
        rfl
      · refine (zv_an c91_49 rfl).trans ?_
        refine (zv_an c91_50 rfl).trans ?_
        refine (zv_viV c91_51 zcn_92 rfl zL_92 zrt_92 rfl rfl).trans (zvr_c (zcV_c fun h12 => ?_))
        refine (zv_inc (y := 1) c91_54 rfl (by decide) rfl).trans ?_
        refine (zv_goto c91_57).trans ?_
        rfl
    · refine (zv_inc (y := 1) c91_54 rfl (by decide) rfl).trans ?_
      refine (zv_goto c91_57).trans ?_
      rfl
  · exact zv_vr c91_60 zrt_91
