theorem c145_0 : zcod 145 0 = some (.aload_n 0, 1, 0, 0, 0, 0) := by decide +kernel
theorem c145_1 : zcod 145 1 = some (.iload_n 1, 1, 0, 0, 0, 0) := by decide +kernel
theorem c145_2 : zcod 145 2 = some (.invokevirtual 182, 3, 129, 1, 990, 0) := by decide +kernel
theorem c145_5 : zcod 145 5 = some (.ifCond .eq 11, 3, 16, 0, 0, 0) := by decide +kernel
theorem c145_8 : zcod 145 8 = some (.aload_n 0, 1, 0, 0, 0, 0) := by decide +kernel
theorem c145_9 : zcod 145 9 = some (.iload_n 2, 1, 0, 0, 0, 0) := by decide +kernel
theorem c145_10 : zcod 145 10 = some (.invokevirtual 193, 3, 140, 1, 1034, 0) := by decide +kernel
theorem c145_13 : zcod 145 13 = some (.ifCond .ne 7, 3, 20, 0, 0, 0) := by decide +kernel
theorem c145_16 : zcod 145 16 = some (.sipush (-1001), 3, 0, 0, 0, 0) := by decide +kernel
theorem c145_19 : zcod 145 19 = some (.ireturn, 1, 0, 0, 0, 0) := by decide +kernel
theorem c145_20 : zcod 145 20 = some (.iload_n 3, 1, 0, 0, 0, 0) := by decide +kernel
theorem c145_21 : zcod 145 21 = some (.i2l, 1, 0, 0, 0, 0) := by decide +kernel
theorem c145_22 : zcod 145 22 = some (.aload_n 0, 1, 0, 0, 0, 0) := by decide +kernel
theorem c145_23 : zcod 145 23 = some (.getfield 198, 3, 9, 24, 820, 0) := by decide +kernel
theorem c145_26 : zcod 145 26 = some (.i2l, 1, 0, 0, 0, 0) := by decide +kernel
theorem c145_27 : zcod 145 27 = some (.ldc2_w 211, 3, 0, 0, 1059, 9999) := by decide +kernel
theorem c145_30 : zcod 145 30 = some (.invokestatic 92, 3, 113, 3, 925, 0) := by decide +kernel
theorem c145_33 : zcod 145 33 = some (.ifCond .ne 7, 3, 40, 0, 0, 0) := by decide +kernel
theorem c145_36 : zcod 145 36 = some (.sipush (-1002), 3, 0, 0, 0, 0) := by decide +kernel
theorem c145_39 : zcod 145 39 = some (.ireturn, 1, 0, 0, 0, 0) := by decide +kernel
theorem c145_40 : zcod 145 40 = some (.aload_n 0, 1, 0, 0, 0, 0) := by decide +kernel
theorem c145_41 : zcod 145 41 = some (.getfield 29, 3, 9, 8, 804, 0) := by decide +kernel
theorem c145_44 : zcod 145 44 = some (.iload_n 1, 1, 0, 0, 0, 0) := by decide +kernel
theorem c145_45 : zcod 145 45 = some (.baload, 1, 0, 0, 0, 0) := by decide +kernel
theorem c145_46 : zcod 145 46 = some (.ifCond .eq 12, 3, 58, 0, 0, 0) := by decide +kernel
theorem c145_49 : zcod 145 49 = some (.aload_n 0, 1, 0, 0, 0, 0) := by decide +kernel
theorem c145_50 : zcod 145 50 = some (.getfield 26, 3, 9, 7, 803, 0) := by decide +kernel
theorem c145_53 : zcod 145 53 = some (.iload_n 1, 1, 0, 0, 0, 0) := by decide +kernel
theorem c145_54 : zcod 145 54 = some (.iaload, 1, 0, 0, 0, 0) := by decide +kernel
theorem c145_55 : zcod 145 55 = some (.ifCond .lt 7, 3, 62, 0, 0, 0) := by decide +kernel
theorem c145_58 : zcod 145 58 = some (.sipush (-1003), 3, 0, 0, 0, 0) := by decide +kernel
theorem c145_61 : zcod 145 61 = some (.ireturn, 1, 0, 0, 0, 0) := by decide +kernel
theorem c145_62 : zcod 145 62 = some (.aload_n 0, 1, 0, 0, 0, 0) := by decide +kernel
theorem c145_63 : zcod 145 63 = some (.iload_n 1, 1, 0, 0, 0, 0) := by decide +kernel
theorem c145_64 : zcod 145 64 = some (.iload_n 2, 1, 0, 0, 0, 0) := by decide +kernel
theorem c145_65 : zcod 145 65 = some (.invokevirtual 204, 3, 143, 2, 1047, 0) := by decide +kernel
theorem c145_68 : zcod 145 68 = some (.aload_n 0, 1, 0, 0, 0, 0) := by decide +kernel
theorem c145_69 : zcod 145 69 = some (.getfield 51, 3, 9, 15, 811, 0) := by decide +kernel
theorem c145_72 : zcod 145 72 = some (.iload_n 1, 1, 0, 0, 0, 0) := by decide +kernel
theorem c145_73 : zcod 145 73 = some (.iload_n 3, 1, 0, 0, 0, 0) := by decide +kernel
theorem c145_74 : zcod 145 74 = some (.iastore, 1, 0, 0, 0, 0) := by decide +kernel
theorem c145_75 : zcod 145 75 = some (.iconst 1, 1, 0, 0, 0, 0) := by decide +kernel
theorem c145_76 : zcod 145 76 = some (.ireturn, 1, 0, 0, 0, 0) := by decide +kernel
set_option maxRecDepth 100000 in
theorem b145_0 (l0 : Option Nat) (l1 : Int32) (l2 : Int32) (l3 : Int32) (h : zH) : zev 145 0 [some (vR l0), some (vI l1), some (vI l2), some (vI l3)] [] h = (zvr h l0 9 (zcI 129 [vR l0, vI l1] h fun x2 h1 => (if x2 = 0 then some (some (vI (-1001)), h1) else (zvr h1 l0 9 (zcI 140 [vR l0, vI l2] h1 fun x4 h3 => (if x4 = 0 then some (some (vI (-1001)), h3) else (zgI h3 l0 9 24 fun x5 => (zcI 113 [vL (Int32.toInt64 l3), vL (Int32.toInt64 x5), vL 9999] h3 fun x7 h6 => (if x7 = 0 then some (some (vI (-1002)), h6) else (zgR h6 l0 9 8 fun x8 => (zaB h6 x8 l1 fun x9 => (if x9 = 0 then some (some (vI (-1003)), h6) else (zgR h6 l0 9 7 fun x10 => (zaI h6 x10 l1 fun x11 => (if x11 < 0 then (zvr h6 l0 9 (zcV 143 [vR l0, vI l1, vI l2] h6 fun h12 => (zgR h12 l0 9 15 fun x13 => (ztI h12 x13 l1 l3 fun h14 => some (some (vI 1), h14))))) else some (some (vI (-1003)), h6)))))))))))))))) := by
  refine (zv_an c145_0 rfl).trans ?_
  refine (zv_in c145_1 rfl).trans ?_
  refine (zv_viI c145_2 zcn_129 rfl zL_129 (Or.inr zrt_129) rfl rfl).trans (zvr_c (zcI_c fun x2 h1 => ?_))
  refine (zv_ifeq c145_5).trans (zif_c ?_ ?_)
  · refine (zv_si (v := -1001) c145_16 (by decide)).trans ?_
    exact zv_ir c145_19 zrt_145
  · refine (zv_an c145_8 rfl).trans ?_
    refine (zv_in c145_9 rfl).trans ?_
    refine (zv_viI c145_10 zcn_140 rfl zL_140 (Or.inr zrt_140) rfl rfl).trans (zvr_c (zcI_c fun x4 h3 => ?_))
    refine (zv_ifne c145_13).trans (zif_c ?_ ?_)
    · refine (zv_si (v := -1001) c145_16 (by decide)).trans ?_
      exact zv_ir c145_19 zrt_145
    · refine (zv_in c145_20 rfl).trans ?_
      refine (zv_i2l c145_21).trans ?_
      refine (zv_an c145_22 rfl).trans ?_
      refine (zv_gI c145_23 zg9_24).trans (zgI_c fun x5 => ?_)
      refine (zv_i2l c145_26).trans ?_
      refine (zv_ld2 (v := 9999) c145_27 (by decide)).trans ?_
      refine (zv_stI c145_30 (by decide) rfl zL_113 (Or.inr zrt_113) rfl rfl).trans (zcI_c fun x7 h6 => ?_)
      refine (zv_ifne c145_33).trans (zif_c ?_ ?_)
      · refine (zv_si (v := -1002) c145_36 (by decide)).trans ?_
        exact zv_ir c145_39 zrt_145
      · refine (zv_an c145_40 rfl).trans ?_
        refine (zv_gR c145_41 zf9_8).trans (zgR_c fun x8 => ?_)
        refine (zv_in c145_44 rfl).trans ?_
        refine (zv_aB c145_45).trans (zaB_c fun x9 => ?_)
        refine (zv_ifeq c145_46).trans (zif_c ?_ ?_)
        · refine (zv_si (v := -1003) c145_58 (by decide)).trans ?_
          exact zv_ir c145_61 zrt_145
        · refine (zv_an c145_49 rfl).trans ?_
          refine (zv_gR c145_50 zf9_7).trans (zgR_c fun x10 => ?_)
          refine (zv_in c145_53 rfl).trans ?_
          refine (zv_aI c145_54).trans (zaI_c fun x11 => ?_)
          refine (zv_iflt c145_55).trans (zif_c ?_ ?_)
          · refine (zv_an c145_62 rfl).trans ?_
            refine (zv_in c145_63 rfl).trans ?_
            refine (zv_in c145_64 rfl).trans ?_
            refine (zv_viV c145_65 zcn_143 rfl zL_143 zrt_143 rfl rfl).trans (zvr_c (zcV_c fun h12 => ?_))
            refine (zv_an c145_68 rfl).trans ?_
            refine (zv_gR c145_69 zf9_15).trans (zgR_c fun x13 => ?_)
            refine (zv_in c145_72 rfl).trans ?_
            refine (zv_in c145_73 rfl).trans ?_
            refine (zv_tI c145_74).trans (ztI_c fun h14 => ?_)
            refine (zv_k (v := 1) c145_75 (by decide)).trans ?_
            exact zv_ir c145_76 zrt_145
          · refine (zv_si (v := -1003) c145_58 (by decide)).trans ?_
            exact zv_ir c145_61 zrt_145
theorem e145 (l0 : Option Nat) (l1 : Int32) (l2 : Int32) (l3 : Int32) (h : zH) : zcall 145 [vR l0, vI l1, vI l2, vI l3] h = (zvr h l0 9 (zcI 129 [vR l0, vI l1] h fun x2 h1 => (if x2 = 0 then some (some (vI (-1001)), h1) else (zvr h1 l0 9 (zcI 140 [vR l0, vI l2] h1 fun x4 h3 => (if x4 = 0 then some (some (vI (-1001)), h3) else (zgI h3 l0 9 24 fun x5 => (zcI 113 [vL (Int32.toInt64 l3), vL (Int32.toInt64 x5), vL 9999] h3 fun x7 h6 => (if x7 = 0 then some (some (vI (-1002)), h6) else (zgR h6 l0 9 8 fun x8 => (zaB h6 x8 l1 fun x9 => (if x9 = 0 then some (some (vI (-1003)), h6) else (zgR h6 l0 9 7 fun x10 => (zaI h6 x10 l1 fun x11 => (if x11 < 0 then (zvr h6 l0 9 (zcV 143 [vR l0, vI l1, vI l2] h6 fun h12 => (zgR h12 l0 9 15 fun x13 => (ztI h12 x13 l1 l3 fun h14 => some (some (vI 1), h14))))) else some (some (vI (-1003)), h6)))))))))))))))) := by
  refine Eq.trans ?_ (b145_0 l0 l1 l2 l3 h)
  unfold zcall zent
  rw [zL_145]
  rfl
theorem c146_0 : zcod 146 0 = some (.iload_n 1, 1, 0, 0, 0, 0) := by decide +kernel
theorem c146_1 : zcod 146 1 = some (.i2l, 1, 0, 0, 0, 0) := by decide +kernel
theorem c146_2 : zcod 146 2 = some (.lconst 0, 1, 0, 0, 0, 0) := by decide +kernel
theorem c146_3 : zcod 146 3 = some (.ldc2_w 213, 3, 0, 0, 1064, 100) := by decide +kernel
theorem c146_6 : zcod 146 6 = some (.invokestatic 92, 3, 113, 3, 925, 0) := by decide +kernel
theorem c146_9 : zcod 146 9 = some (.ifCond .ne 7, 3, 16, 0, 0, 0) := by decide +kernel
theorem c146_12 : zcod 146 12 = some (.sipush (-1002), 3, 0, 0, 0, 0) := by decide +kernel
theorem c146_15 : zcod 146 15 = some (.ireturn, 1, 0, 0, 0, 0) := by decide +kernel
theorem c146_16 : zcod 146 16 = some (.aload_n 0, 1, 0, 0, 0, 0) := by decide +kernel
theorem c146_17 : zcod 146 17 = some (.getfield 215, 3, 9, 26, 822, 0) := by decide +kernel
theorem c146_20 : zcod 146 20 = some (.istore_n 2, 1, 0, 0, 0, 0) := by decide +kernel
theorem c146_21 : zcod 146 21 = some (.aload_n 0, 1, 0, 0, 0, 0) := by decide +kernel
theorem c146_22 : zcod 146 22 = some (.iload_n 1, 1, 0, 0, 0, 0) := by decide +kernel
theorem c146_23 : zcod 146 23 = some (.putfield 215, 3, 9, 26, 822, 0) := by decide +kernel
theorem c146_26 : zcod 146 26 = some (.iload_n 2, 1, 0, 0, 0, 0) := by decide +kernel
theorem c146_27 : zcod 146 27 = some (.ireturn, 1, 0, 0, 0, 0) := by decide +kernel
set_option maxRecDepth 100000 in
theorem b146_0 (l0 : Option Nat) (l1 : Int32) (h : zH) : zev 146 0 [some (vR l0), some (vI l1), none] [] h = (zcI 113 [vL (Int32.toInt64 l1), vL 0, vL 100] h fun x2 h1 => (if x2 = 0 then some (some (vI (-1002)), h1) else (zgI h1 l0 9 26 fun x3 => (zpI h1 l0 9 26 l1 fun h4 => some (some (vI x3), h4))))) := by
  refine (zv_in c146_0 rfl).trans ?_
  refine (zv_i2l c146_1).trans ?_
  refine (zv_lc (v := 0) c146_2 (by decide)).trans ?_
  refine (zv_ld2 (v := 100) c146_3 (by decide)).trans ?_
  refine (zv_stI c146_6 (by decide) rfl zL_113 (Or.inr zrt_113) rfl rfl).trans (zcI_c fun x2 h1 => ?_)
  refine (zv_ifne c146_9).trans (zif_c ?_ ?_)
  · refine (zv_si (v := -1002) c146_12 (by decide)).trans ?_
    exact zv_ir c146_15 zrt_146
  · refine (zv_an c146_16 rfl).trans ?_
    refine (zv_gI c146_17 zg9_26).trans (zgI_c fun x3 => ?_)
    refine (zv_it c146_20 rfl).trans ?_
    refine (zv_an c146_21 rfl).trans ?_
    refine (zv_in c146_22 rfl).trans ?_
    refine (zv_pI c146_23 zf9_26).trans (zpI_c fun h4 => ?_)
    refine (zv_in c146_26 rfl).trans ?_
    exact zv_ir c146_27 zrt_146
theorem e146 (l0 : Option Nat) (l1 : Int32) (h : zH) : zcall 146 [vR l0, vI l1] h = (zcI 113 [vL (Int32.toInt64 l1), vL 0, vL 100] h fun x2 h1 => (if x2 = 0 then some (some (vI (-1002)), h1) else (zgI h1 l0 9 26 fun x3 => (zpI h1 l0 9 26 l1 fun h4 => some (some (vI x3), h4))))) := by
  refine Eq.trans ?_ (b146_0 l0 l1 h)
  unfold zcall zent
  rw [zL_146]
  rfl
theorem c147_0 : zcod 147 0 = some (.iload_n 1, 1, 0, 0, 0, 0) := by decide +kernel
theorem c147_1 : zcod 147 1 = some (.i2l, 1, 0, 0, 0, 0) := by decide +kernel
theorem c147_2 : zcod 147 2 = some (.lconst 0, 1, 0, 0, 0, 0) := by decide +kernel
theorem c147_3 : zcod 147 3 = some (.ldc2_w 240, 3, 0, 0, 1069, 1000) := by decide +kernel
theorem c147_6 : zcod 147 6 = some (.invokestatic 92, 3, 113, 3, 925, 0) := by decide +kernel
theorem c147_9 : zcod 147 9 = some (.ifCond .ne 7, 3, 16, 0, 0, 0) := by decide +kernel
theorem c147_12 : zcod 147 12 = some (.sipush (-1002), 3, 0, 0, 0, 0) := by decide +kernel
theorem c147_15 : zcod 147 15 = some (.ireturn, 1, 0, 0, 0, 0) := by decide +kernel
theorem c147_16 : zcod 147 16 = some (.aload_n 0, 1, 0, 0, 0, 0) := by decide +kernel
theorem c147_17 : zcod 147 17 = some (.getfield 198, 3, 9, 24, 820, 0) := by decide +kernel
theorem c147_20 : zcod 147 20 = some (.iload_n 1, 1, 0, 0, 0, 0) := by decide +kernel
theorem c147_21 : zcod 147 21 = some (.iadd, 1, 0, 0, 0, 0) := by decide +kernel
theorem c147_22 : zcod 147 22 = some (.sipush 9999, 3, 0, 0, 0, 0) := by decide +kernel
theorem c147_25 : zcod 147 25 = some (.if_icmp .le 7, 3, 32, 0, 0, 0) := by decide +kernel
theorem c147_28 : zcod 147 28 = some (.sipush (-1003), 3, 0, 0, 0, 0) := by decide +kernel
theorem c147_31 : zcod 147 31 = some (.ireturn, 1, 0, 0, 0, 0) := by decide +kernel
theorem c147_32 : zcod 147 32 = some (.iconst 0, 1, 0, 0, 0, 0) := by decide +kernel
theorem c147_33 : zcod 147 33 = some (.istore_n 2, 1, 0, 0, 0, 0) := by decide +kernel
theorem c147_34 : zcod 147 34 = some (.iload_n 2, 1, 0, 0, 0, 0) := by decide +kernel
theorem c147_35 : zcod 147 35 = some (.iload_n 1, 1, 0, 0, 0, 0) := by decide +kernel
theorem c147_36 : zcod 147 36 = some (.if_icmp .ge 13, 3, 49, 0, 0, 0) := by decide +kernel
theorem c147_39 : zcod 147 39 = some (.aload_n 0, 1, 0, 0, 0, 0) := by decide +kernel
theorem c147_40 : zcod 147 40 = some (.invokevirtual 242, 3, 148, 0, 1070, 0) := by decide +kernel
theorem c147_43 : zcod 147 43 = some (.iinc 2 1, 3, 0, 0, 0, 0) := by decide +kernel
theorem c147_46 : zcod 147 46 = some (.goto (-12), 3, 34, 0, 0, 0) := by decide +kernel
theorem c147_49 : zcod 147 49 = some (.aload_n 0, 1, 0, 0, 0, 0) := by decide +kernel
theorem c147_50 : zcod 147 50 = some (.getfield 198, 3, 9, 24, 820, 0) := by decide +kernel
theorem c147_53 : zcod 147 53 = some (.ireturn, 1, 0, 0, 0, 0) := by decide +kernel
set_option maxRecDepth 100000 in
theorem b147_0 (l0 : Option Nat) (l1 : Int32) (h : zH) : zev 147 0 [some (vR l0), some (vI l1), none] [] h = (zcI 113 [vL (Int32.toInt64 l1), vL 0, vL 1000] h fun x2 h1 => (if x2 = 0 then some (some (vI (-1002)), h1) else (zgI h1 l0 9 24 fun x3 => (if 9999 < (x3 + l1) then some (some (vI (-1003)), h1) else zev 147 34 [some (vR l0), some (vI l1), some (vI 0)] [] h1)))) := by
  refine (zv_in c147_0 rfl).trans ?_
  refine (zv_i2l c147_1).trans ?_
  refine (zv_lc (v := 0) c147_2 (by decide)).trans ?_
  refine (zv_ld2 (v := 1000) c147_3 (by decide)).trans ?_
  refine (zv_stI c147_6 (by decide) rfl zL_113 (Or.inr zrt_113) rfl rfl).trans (zcI_c fun x2 h1 => ?_)
  refine (zv_ifne c147_9).trans (zif_c ?_ ?_)
  · refine (zv_si (v := -1002) c147_12 (by decide)).trans ?_
    exact zv_ir c147_15 zrt_147
  · refine (zv_an c147_16 rfl).trans ?_
    refine (zv_gI c147_17 zg9_24).trans (zgI_c fun x3 => ?_)
    refine (zv_in c147_20 rfl).trans ?_
    refine (zv_iadd c147_21).trans ?_
    refine (zv_si (v := 9999) c147_22 (by decide)).trans ?_
    refine (zv_icle c147_25).trans (zif_c ?_ ?_)
    · refine (zv_si (v := -1003) c147_28 (by decide)).trans ?_
      exact zv_ir c147_31 zrt_147
    · refine (zv_k (v := 0) c147_32 (by decide)).trans ?_
      refine (zv_it c147_33 rfl).trans ?_
      rfl
theorem e147 (l0 : Option Nat) (l1 : Int32) (h : zH) : zcall 147 [vR l0, vI l1] h = (zcI 113 [vL (Int32.toInt64 l1), vL 0, vL 1000] h fun x2 h1 => (if x2 = 0 then some (some (vI (-1002)), h1) else (zgI h1 l0 9 24 fun x3 => (if 9999 < (x3 + l1) then some (some (vI (-1003)), h1) else zev 147 34 [some (vR l0), some (vI l1), some (vI 0)] [] h1)))) := by
  refine Eq.trans ?_ (b147_0 l0 l1 h)
  unfold zcall zent
  rw [zL_147]
  rfl
set_option maxRecDepth 100000 in
theorem b147_34 (l0 : Option Nat) (l1 : Int32) (l2 : Int32) (h : zH) : zev 147 34 [some (vR l0), some (vI l1), some (vI l2)] [] h = (if l2 < l1 then (zvr h l0 9 (zcV 148 [vR l0] h fun h1 => zev 147 34 [some (vR l0), some (vI l1), some (vI (l2 + 1))] [] h1)) else (zgI h l0 9 24 fun x2 => some (some (vI x2), h))) := by
  refine (zv_in c147_34 rfl).trans ?_
  refine (zv_in c147_35 rfl).trans ?_
  refine (zv_icge c147_36).trans (zif_c ?_ ?_)
  · refine (zv_an c147_39 rfl).trans ?_
    refine (zv_viV c147_40 zcn_148 rfl zL_148 zrt_148 rfl rfl).trans (zvr_c (zcV_c fun h1 => ?_))
    refine (zv_inc (y := 1) c147_43 rfl (by decide) rfl).trans ?_
    refine (zv_goto c147_46).trans ?_
    rfl
  · refine (zv_an c147_49 rfl).trans ?_
    refine (zv_gI c147_50 zg9_24).trans (zgI_c fun x2 => ?_)
    exact zv_ir c147_53 zrt_147
theorem c148_0 : zcod 148 0 = some (.aload_n 0, 1, 0, 0, 0, 0) := by decide +kernel
theorem c148_1 : zcod 148 1 = some (.invokevirtual 231, 3, 149, 0, 1074, 0) := by decide +kernel
theorem c148_4 : zcod 148 4 = some (.aload_n 0, 1, 0, 0, 0, 0) := by decide +kernel
theorem c148_5 : zcod 148 5 = some (.getfield 198, 3, 9, 24, 820, 0) := by decide +kernel
theorem c148_8 : zcod 148 8 = some (.sipush 365, 3, 0, 0, 0, 0) := by decide +kernel
theorem c148_11 : zcod 148 11 = some (.irem, 1, 0, 0, 0, 0) := by decide +kernel
theorem c148_12 : zcod 148 12 = some (.sipush 364, 3, 0, 0, 0, 0) := by decide +kernel
theorem c148_15 : zcod 148 15 = some (.if_icmp .ne 11, 3, 26, 0, 0, 0) := by decide +kernel
theorem c148_18 : zcod 148 18 = some (.aload_n 0, 1, 0, 0, 0, 0) := by decide +kernel
theorem c148_19 : zcod 148 19 = some (.invokevirtual 234, 3, 151, 0, 1082, 0) := by decide +kernel
theorem c148_22 : zcod 148 22 = some (.aload_n 0, 1, 0, 0, 0, 0) := by decide +kernel
theorem c148_23 : zcod 148 23 = some (.invokevirtual 237, 3, 152, 0, 1086, 0) := by decide +kernel
theorem c148_26 : zcod 148 26 = some (.iconst 0, 1, 0, 0, 0, 0) := by decide +kernel
theorem c148_27 : zcod 148 27 = some (.istore_n 1, 1, 0, 0, 0, 0) := by decide +kernel
theorem c148_28 : zcod 148 28 = some (.iload_n 1, 1, 0, 0, 0, 0) := by decide +kernel
theorem c148_29 : zcod 148 29 = some (.aload_n 0, 1, 0, 0, 0, 0) := by decide +kernel
theorem c148_30 : zcod 148 30 = some (.getfield 142, 3, 9, 5, 801, 0) := by decide +kernel
theorem c148_33 : zcod 148 33 = some (.if_icmp .ge 58, 3, 91, 0, 0, 0) := by decide +kernel
theorem c148_36 : zcod 148 36 = some (.aload_n 0, 1, 0, 0, 0, 0) := by decide +kernel
theorem c148_37 : zcod 148 37 = some (.getfield 51, 3, 9, 15, 811, 0) := by decide +kernel
theorem c148_40 : zcod 148 40 = some (.iload_n 1, 1, 0, 0, 0, 0) := by decide +kernel
theorem c148_41 : zcod 148 41 = some (.iaload, 1, 0, 0, 0, 0) := by decide +kernel
theorem c148_42 : zcod 148 42 = some (.aload_n 0, 1, 0, 0, 0, 0) := by decide +kernel
theorem c148_43 : zcod 148 43 = some (.getfield 198, 3, 9, 24, 820, 0) := by decide +kernel
theorem c148_46 : zcod 148 46 = some (.if_icmp .ne 39, 3, 85, 0, 0, 0) := by decide +kernel
theorem c148_49 : zcod 148 49 = some (.aload_n 0, 1, 0, 0, 0, 0) := by decide +kernel
theorem c148_50 : zcod 148 50 = some (.getfield 51, 3, 9, 15, 811, 0) := by decide +kernel
theorem c148_53 : zcod 148 53 = some (.iload_n 1, 1, 0, 0, 0, 0) := by decide +kernel
theorem c148_54 : zcod 148 54 = some (.iconst (-1), 1, 0, 0, 0, 0) := by decide +kernel
theorem c148_55 : zcod 148 55 = some (.iastore, 1, 0, 0, 0, 0) := by decide +kernel
theorem c148_56 : zcod 148 56 = some (.aload_n 0, 1, 0, 0, 0, 0) := by decide +kernel
theorem c148_57 : zcod 148 57 = some (.getfield 26, 3, 9, 7, 803, 0) := by decide +kernel
theorem c148_60 : zcod 148 60 = some (.iload_n 1, 1, 0, 0, 0, 0) := by decide +kernel
theorem c148_61 : zcod 148 61 = some (.iaload, 1, 0, 0, 0, 0) := by decide +kernel
theorem c148_62 : zcod 148 62 = some (.ifCond .lt 23, 3, 85, 0, 0, 0) := by decide +kernel
theorem c148_65 : zcod 148 65 = some (.aload_n 0, 1, 0, 0, 0, 0) := by decide +kernel
theorem c148_66 : zcod 148 66 = some (.getfield 60, 3, 9, 20, 816, 0) := by decide +kernel
theorem c148_69 : zcod 148 69 = some (.aload_n 0, 1, 0, 0, 0, 0) := by decide +kernel
theorem c148_70 : zcod 148 70 = some (.getfield 26, 3, 9, 7, 803, 0) := by decide +kernel
theorem c148_73 : zcod 148 73 = some (.iload_n 1, 1, 0, 0, 0, 0) := by decide +kernel
theorem c148_74 : zcod 148 74 = some (.iaload, 1, 0, 0, 0, 0) := by decide +kernel
theorem c148_75 : zcod 148 75 = some (.iaload, 1, 0, 0, 0, 0) := by decide +kernel
theorem c148_76 : zcod 148 76 = some (.iload_n 1, 1, 0, 0, 0, 0) := by decide +kernel
theorem c148_77 : zcod 148 77 = some (.if_icmp .eq 8, 3, 85, 0, 0, 0) := by decide +kernel
theorem c148_80 : zcod 148 80 = some (.aload_n 0, 1, 0, 0, 0, 0) := by decide +kernel
theorem c148_81 : zcod 148 81 = some (.iload_n 1, 1, 0, 0, 0, 0) := by decide +kernel
theorem c148_82 : zcod 148 82 = some (.invokevirtual 218, 3, 150, 1, 1078, 0) := by decide +kernel
theorem c148_85 : zcod 148 85 = some (.iinc 1 1, 3, 0, 0, 0, 0) := by decide +kernel
theorem c148_88 : zcod 148 88 = some (.goto (-60), 3, 28, 0, 0, 0) := by decide +kernel
theorem c148_91 : zcod 148 91 = some (.aload_n 0, 1, 0, 0, 0, 0) := by decide +kernel
theorem c148_92 : zcod 148 92 = some (.dup, 1, 0, 0, 0, 0) := by decide +kernel
theorem c148_93 : zcod 148 93 = some (.getfield 198, 3, 9, 24, 820, 0) := by decide +kernel
theorem c148_96 : zcod 148 96 = some (.iconst 1, 1, 0, 0, 0, 0) := by decide +kernel
theorem c148_97 : zcod 148 97 = some (.iadd, 1, 0, 0, 0, 0) := by decide +kernel
theorem c148_98 : zcod 148 98 = some (.putfield 198, 3, 9, 24, 820, 0) := by decide +kernel
theorem c148_101 : zcod 148 101 = some (.return_, 1, 0, 0, 0, 0) := by decide +kernel
set_option maxRecDepth 100000 in
theorem b148_0 (l0 : Option Nat) (h : zH) : zev 148 0 [some (vR l0), none] [] h = (zvr h l0 9 (zcV 149 [vR l0] h fun h1 => (zgI h1 l0 9 24 fun x2 => (zdv 365 ((if (x2 - x2 / 365 * 365) = 364 then (zvr h1 l0 9 (zcV 151 [vR l0] h1 fun h3 => (zvr h3 l0 9 (zcV 152 [vR l0] h3 fun h4 => zev 148 28 [some (vR l0), some (vI 0)] [] h4)))) else zev 148 28 [some (vR l0), some (vI 0)] [] h1)))))) := by
  refine (zv_an c148_0 rfl).trans ?_
  refine (zv_viV c148_1 zcn_149 rfl zL_149 zrt_149 rfl rfl).trans (zvr_c (zcV_c fun h1 => ?_))
  refine (zv_an c148_4 rfl).trans ?_
  refine (zv_gI c148_5 zg9_24).trans (zgI_c fun x2 => ?_)
  refine (zv_si (v := 365) c148_8 (by decide)).trans ?_
  refine (zv_rem c148_11).trans (zdv_c ?_)
  refine (zv_si (v := 364) c148_12 (by decide)).trans ?_
  refine (zv_icne c148_15).trans (zif_c ?_ ?_)
  · refine (zv_an c148_18 rfl).trans ?_
    refine (zv_viV c148_19 zcn_151 rfl zL_151 zrt_151 rfl rfl).trans (zvr_c (zcV_c fun h3 => ?_))
    refine (zv_an c148_22 rfl).trans ?_
    refine (zv_viV c148_23 zcn_152 rfl zL_152 zrt_152 rfl rfl).trans (zvr_c (zcV_c fun h4 => ?_))
    refine (zv_k (v := 0) c148_26 (by decide)).trans ?_
    refine (zv_it c148_27 rfl).trans ?_
    rfl
  · refine (zv_k (v := 0) c148_26 (by decide)).trans ?_
    refine (zv_it c148_27 rfl).trans ?_
    rfl
theorem e148 (l0 : Option Nat) (h : zH) : zcall 148 [vR l0] h = (zvr h l0 9 (zcV 149 [vR l0] h fun h1 => (zgI h1 l0 9 24 fun x2 => (zdv 365 ((if (x2 - x2 / 365 * 365) = 364 then (zvr h1 l0 9 (zcV 151 [vR l0] h1 fun h3 => (zvr h3 l0 9 (zcV 152 [vR l0] h3 fun h4 => zev 148 28 [some (vR l0), some (vI 0)] [] h4)))) else zev 148 28 [some (vR l0), some (vI 0)] [] h1)))))) := by
  refine Eq.trans ?_ (b148_0 l0 h)
  unfold zcall zent
  rw [zL_148]
  rfl
set_option maxRecDepth 100000 in
theorem b148_28 (l0 : Option Nat) (l1 : Int32) (h : zH) : zev 148 28 [some (vR l0), some (vI l1)] [] h = (zgI h l0 9 5 fun x1 => (if l1 < x1 then (zgR h l0 9 15 fun x2 => (zaI h x2 l1 fun x3 => (zgI h l0 9 24 fun x4 => (if x3 = x4 then (zgR h l0 9 15 fun x5 => (ztI h x5 l1 (-1) fun h6 => (zgR h6 l0 9 7 fun x7 => (zaI h6 x7 l1 fun x8 => (if x8 < 0 then zev 148 28 [some (vR l0), some (vI (l1 + 1))] [] h6 else (zgR h6 l0 9 20 fun x9 => (zgR h6 l0 9 7 fun x10 => (zaI h6 x10 l1 fun x11 => (zaI h6 x9 x11 fun x12 => (if x12 = l1 then zev 148 28 [some (vR l0), some (vI (l1 + 1))] [] h6 else (zvr h6 l0 9 (zcV 150 [vR l0, vI l1] h6 fun h13 => zev 148 28 [some (vR l0), some (vI (l1 + 1))] [] h13)))))))))))) else zev 148 28 [some (vR l0), some (vI (l1 + 1))] [] h)))) else (zgI h l0 9 24 fun x14 => (zpI h l0 9 24 (x14 + 1) fun h15 => some (none, h15))))) := by
  refine (zv_in c148_28 rfl).trans ?_
  refine (zv_an c148_29 rfl).trans ?_
  refine (zv_gI c148_30 zg9_5).trans (zgI_c fun x1 => ?_)
  refine (zv_icge c148_33).trans (zif_c ?_ ?_)
  · refine (zv_an c148_36 rfl).trans ?_
    refine (zv_gR c148_37 zf9_15).trans (zgR_c fun x2 => ?_)
    refine (zv_in c148_40 rfl).trans ?_
    refine (zv_aI c148_41).trans (zaI_c fun x3 => ?_)
    refine (zv_an c148_42 rfl).trans ?_
    refine (zv_gI c148_43 zg9_24).trans (zgI_c fun x4 => ?_)
    refine (zv_icne c148_46).trans (zif_c ?_ ?_)
    · refine (zv_an c148_49 rfl).trans ?_
      refine (zv_gR c148_50 zf9_15).trans (zgR_c fun x5 => ?_)
      refine (zv_in c148_53 rfl).trans ?_
      refine (zv_k (v := -1) c148_54 (by decide)).trans ?_
      refine (zv_tI c148_55).trans (ztI_c fun h6 => ?_)
      refine (zv_an c148_56 rfl).trans ?_
      refine (zv_gR c148_57 zf9_7).trans (zgR_c fun x7 => ?_)
      refine (zv_in c148_60 rfl).trans ?_
      refine (zv_aI c148_61).trans (zaI_c fun x8 => ?_)
      refine (zv_iflt c148_62).trans (zif_c ?_ ?_)
      · refine (zv_inc (y := 1) c148_85 rfl (by decide) rfl).trans ?_
        refine (zv_goto c148_88).trans ?_
        rfl
      · refine (zv_an c148_65 rfl).trans ?_
        refine (zv_gR c148_66 zf9_20).trans (zgR_c fun x9 => ?_)
        refine (zv_an c148_69 rfl).trans ?_
        refine (zv_gR c148_70 zf9_7).trans (zgR_c fun x10 => ?_)
        refine (zv_in c148_73 rfl).trans ?_
        refine (zv_aI c148_74).trans (zaI_c fun x11 => ?_)
        refine (zv_aI c148_75).trans (zaI_c fun x12 => ?_)
        refine (zv_in c148_76 rfl).trans ?_
        refine (zv_iceq c148_77).trans (zif_c ?_ ?_)
        · refine (zv_inc (y := 1) c148_85 rfl (by decide) rfl).trans ?_
          refine (zv_goto c148_88).trans ?_
          rfl
        · refine (zv_an c148_80 rfl).trans ?_
          refine (zv_in c148_81 rfl).trans ?_
          refine (zv_viV c148_82 zcn_150 rfl zL_150 zrt_150 rfl rfl).trans (zvr_c (zcV_c fun h13 => ?_))
          refine (zv_inc (y := 1) c148_85 rfl (by decide) rfl).trans ?_
          refine (zv_goto c148_88).trans ?_
          rfl
    · refine (zv_inc (y := 1) c148_85 rfl (by decide) rfl).trans ?_
      refine (zv_goto c148_88).trans ?_
      rfl
  · refine (zv_an c148_91 rfl).trans ?_
    refine (zv_dup c148_92 rfl).trans ?_
    refine (zv_gI c148_93 zg9_24).trans (zgI_c fun x14 => ?_)
    refine (zv_k (v := 1) c148_96 (by decide)).trans ?_
    refine (zv_iadd c148_97).trans ?_
    refine (zv_pI c148_98 zf9_24).trans (zpI_c fun h15 => ?_)
    exact zv_vr c148_101 zrt_148
theorem c149_0 : zcod 149 0 = some (.iconst 0, 1, 0, 0, 0, 0) := by decide +kernel
theorem c149_1 : zcod 149 1 = some (.istore_n 1, 1, 0, 0, 0, 0) := by decide +kernel
theorem c149_2 : zcod 149 2 = some (.iload_n 1, 1, 0, 0, 0, 0) := by decide +kernel
theorem c149_3 : zcod 149 3 = some (.aload_n 0, 1, 0, 0, 0, 0) := by decide +kernel
theorem c149_4 : zcod 149 4 = some (.getfield 142, 3, 9, 5, 801, 0) := by decide +kernel
theorem c149_7 : zcod 149 7 = some (.if_icmp .ge 152, 3, 159, 0, 0, 0) := by decide +kernel
theorem c149_10 : zcod 149 10 = some (.aload_n 0, 1, 0, 0, 0, 0) := by decide +kernel
theorem c149_11 : zcod 149 11 = some (.getfield 39, 3, 9, 11, 807, 0) := by decide +kernel
theorem c149_14 : zcod 149 14 = some (.iload_n 1, 1, 0, 0, 0, 0) := by decide +kernel
theorem c149_15 : zcod 149 15 = some (.iaload, 1, 0, 0, 0, 0) := by decide +kernel
theorem c149_16 : zcod 149 16 = some (.ifCond .le 137, 3, 153, 0, 0, 0) := by decide +kernel
theorem c149_19 : zcod 149 19 = some (.aload_n 0, 1, 0, 0, 0, 0) := by decide +kernel
theorem c149_20 : zcod 149 20 = some (.getfield 198, 3, 9, 24, 820, 0) := by decide +kernel
theorem c149_23 : zcod 149 23 = some (.aload_n 0, 1, 0, 0, 0, 0) := by decide +kernel
theorem c149_24 : zcod 149 24 = some (.getfield 42, 3, 9, 12, 808, 0) := by decide +kernel
theorem c149_27 : zcod 149 27 = some (.iload_n 1, 1, 0, 0, 0, 0) := by decide +kernel
theorem c149_28 : zcod 149 28 = some (.iaload, 1, 0, 0, 0, 0) := by decide +kernel
theorem c149_29 : zcod 149 29 = some (.if_icmp .lt 124, 3, 153, 0, 0, 0) := by decide +kernel
theorem c149_32 : zcod 149 32 = some (.aload_n 0, 1, 0, 0, 0, 0) := by decide +kernel
theorem c149_33 : zcod 149 33 = some (.getfield 39, 3, 9, 11, 807, 0) := by decide +kernel
theorem c149_36 : zcod 149 36 = some (.iload_n 1, 1, 0, 0, 0, 0) := by decide +kernel
theorem c149_37 : zcod 149 37 = some (.iaload, 1, 0, 0, 0, 0) := by decide +kernel
theorem c149_38 : zcod 149 38 = some (.iconst 1, 1, 0, 0, 0, 0) := by decide +kernel
theorem c149_39 : zcod 149 39 = some (.if_icmp .le 12, 3, 51, 0, 0, 0) := by decide +kernel
theorem c149_42 : zcod 149 42 = some (.aload_n 0, 1, 0, 0, 0, 0) := by decide +kernel
theorem c149_43 : zcod 149 43 = some (.getfield 33, 3, 9, 9, 805, 0) := by decide +kernel
theorem c149_46 : zcod 149 46 = some (.iload_n 1, 1, 0, 0, 0, 0) := by decide +kernel
theorem c149_47 : zcod 149 47 = some (.iaload, 1, 0, 0, 0, 0) := by decide +kernel
theorem c149_48 : zcod 149 48 = some (.goto 9, 3, 57, 0, 0, 0) := by decide +kernel
theorem c149_51 : zcod 149 51 = some (.aload_n 0, 1, 0, 0, 0, 0) := by decide +kernel
theorem c149_52 : zcod 149 52 = some (.getfield 36, 3, 9, 10, 806, 0) := by decide +kernel
theorem c149_55 : zcod 149 55 = some (.iload_n 1, 1, 0, 0, 0, 0) := by decide +kernel
theorem c149_56 : zcod 149 56 = some (.iaload, 1, 0, 0, 0, 0) := by decide +kernel
theorem c149_57 : zcod 149 57 = some (.istore_n 2, 1, 0, 0, 0, 0) := by decide +kernel
theorem c149_58 : zcod 149 58 = some (.aload_n 0, 1, 0, 0, 0, 0) := by decide +kernel
theorem c149_59 : zcod 149 59 = some (.getfield 57, 3, 9, 19, 815, 0) := by decide +kernel
theorem c149_62 : zcod 149 62 = some (.aload_n 0, 1, 0, 0, 0, 0) := by decide +kernel
theorem c149_63 : zcod 149 63 = some (.getfield 26, 3, 9, 7, 803, 0) := by decide +kernel
theorem c149_66 : zcod 149 66 = some (.iload_n 1, 1, 0, 0, 0, 0) := by decide +kernel
theorem c149_67 : zcod 149 67 = some (.iaload, 1, 0, 0, 0, 0) := by decide +kernel
theorem c149_68 : zcod 149 68 = some (.iaload, 1, 0, 0, 0, 0) := by decide +kernel
theorem c149_69 : zcod 149 69 = some (.iload_n 2, 1, 0, 0, 0, 0) := by decide +kernel
theorem c149_70 : zcod 149 70 = some (.if_icmp .lt 52, 3, 122, 0, 0, 0) := by decide +kernel
theorem c149_73 : zcod 149 73 = some (.aload_n 0, 1, 0, 0, 0, 0) := by decide +kernel
theorem c149_74 : zcod 149 74 = some (.getfield 57, 3, 9, 19, 815, 0) := by decide +kernel
theorem c149_77 : zcod 149 77 = some (.aload_n 0, 1, 0, 0, 0, 0) := by decide +kernel
theorem c149_78 : zcod 149 78 = some (.getfield 26, 3, 9, 7, 803, 0) := by decide +kernel
theorem c149_81 : zcod 149 81 = some (.iload_n 1, 1, 0, 0, 0, 0) := by decide +kernel
theorem c149_82 : zcod 149 82 = some (.iaload, 1, 0, 0, 0, 0) := by decide +kernel
theorem c149_83 : zcod 149 83 = some (.dup2, 1, 0, 0, 0, 0) := by decide +kernel
theorem c149_84 : zcod 149 84 = some (.iaload, 1, 0, 0, 0, 0) := by decide +kernel
theorem c149_85 : zcod 149 85 = some (.iload_n 2, 1, 0, 0, 0, 0) := by decide +kernel
theorem c149_86 : zcod 149 86 = some (.isub, 1, 0, 0, 0, 0) := by decide +kernel
theorem c149_87 : zcod 149 87 = some (.iastore, 1, 0, 0, 0, 0) := by decide +kernel
theorem c149_88 : zcod 149 88 = some (.aload_n 0, 1, 0, 0, 0, 0) := by decide +kernel
theorem c149_89 : zcod 149 89 = some (.dup, 1, 0, 0, 0, 0) := by decide +kernel
theorem c149_90 : zcod 149 90 = some (.getfield 208, 3, 9, 29, 825, 0) := by decide +kernel
theorem c149_93 : zcod 149 93 = some (.iload_n 2, 1, 0, 0, 0, 0) := by decide +kernel
theorem c149_94 : zcod 149 94 = some (.iadd, 1, 0, 0, 0, 0) := by decide +kernel
theorem c149_95 : zcod 149 95 = some (.putfield 208, 3, 9, 29, 825, 0) := by decide +kernel
theorem c149_98 : zcod 149 98 = some (.aload_n 0, 1, 0, 0, 0, 0) := by decide +kernel
theorem c149_99 : zcod 149 99 = some (.getfield 39, 3, 9, 11, 807, 0) := by decide +kernel
theorem c149_102 : zcod 149 102 = some (.iload_n 1, 1, 0, 0, 0, 0) := by decide +kernel
theorem c149_103 : zcod 149 103 = some (.dup2, 1, 0, 0, 0, 0) := by decide +kernel
theorem c149_104 : zcod 149 104 = some (.iaload, 1, 0, 0, 0, 0) := by decide +kernel
theorem c149_105 : zcod 149 105 = some (.iconst 1, 1, 0, 0, 0, 0) := by decide +kernel
theorem c149_106 : zcod 149 106 = some (.isub, 1, 0, 0, 0, 0) := by decide +kernel
theorem c149_107 : zcod 149 107 = some (.iastore, 1, 0, 0, 0, 0) := by decide +kernel
theorem c149_108 : zcod 149 108 = some (.aload_n 0, 1, 0, 0, 0, 0) := by decide +kernel
theorem c149_109 : zcod 149 109 = some (.getfield 42, 3, 9, 12, 808, 0) := by decide +kernel
theorem c149_112 : zcod 149 112 = some (.iload_n 1, 1, 0, 0, 0, 0) := by decide +kernel
theorem c149_113 : zcod 149 113 = some (.dup2, 1, 0, 0, 0, 0) := by decide +kernel
theorem c149_114 : zcod 149 114 = some (.iaload, 1, 0, 0, 0, 0) := by decide +kernel
theorem c149_115 : zcod 149 115 = some (.bipush 100, 2, 0, 0, 0, 0) := by decide +kernel
theorem c149_117 : zcod 149 117 = some (.iadd, 1, 0, 0, 0, 0) := by decide +kernel
theorem c149_118 : zcod 149 118 = some (.iastore, 1, 0, 0, 0, 0) := by decide +kernel
theorem c149_119 : zcod 149 119 = some (.goto 34, 3, 153, 0, 0, 0) := by decide +kernel
theorem c149_122 : zcod 149 122 = some (.aload_n 0, 1, 0, 0, 0, 0) := by decide +kernel
theorem c149_123 : zcod 149 123 = some (.getfield 198, 3, 9, 24, 820, 0) := by decide +kernel
theorem c149_126 : zcod 149 126 = some (.aload_n 0, 1, 0, 0, 0, 0) := by decide +kernel
theorem c149_127 : zcod 149 127 = some (.getfield 42, 3, 9, 12, 808, 0) := by decide +kernel
theorem c149_130 : zcod 149 130 = some (.iload_n 1, 1, 0, 0, 0, 0) := by decide +kernel
theorem c149_131 : zcod 149 131 = some (.iaload, 1, 0, 0, 0, 0) := by decide +kernel
theorem c149_132 : zcod 149 132 = some (.bipush 30, 2, 0, 0, 0, 0) := by decide +kernel
theorem c149_134 : zcod 149 134 = some (.iadd, 1, 0, 0, 0, 0) := by decide +kernel
theorem c149_135 : zcod 149 135 = some (.if_icmp .lt 18, 3, 153, 0, 0, 0) := by decide +kernel
theorem c149_138 : zcod 149 138 = some (.aload_n 0, 1, 0, 0, 0, 0) := by decide +kernel
theorem c149_139 : zcod 149 139 = some (.iload_n 1, 1, 0, 0, 0, 0) := by decide +kernel
theorem c149_140 : zcod 149 140 = some (.invokevirtual 218, 3, 150, 1, 1078, 0) := by decide +kernel
theorem c149_143 : zcod 149 143 = some (.aload_n 0, 1, 0, 0, 0, 0) := by decide +kernel
theorem c149_144 : zcod 149 144 = some (.dup, 1, 0, 0, 0, 0) := by decide +kernel
theorem c149_145 : zcod 149 145 = some (.getfield 222, 3, 9, 27, 823, 0) := by decide +kernel
theorem c149_148 : zcod 149 148 = some (.iconst 1, 1, 0, 0, 0, 0) := by decide +kernel
theorem c149_149 : zcod 149 149 = some (.iadd, 1, 0, 0, 0, 0) := by decide +kernel
theorem c149_150 : zcod 149 150 = some (.putfield 222, 3, 9, 27, 823, 0) := by decide +kernel
theorem c149_153 : zcod 149 153 = some (.iinc 1 1, 3, 0, 0, 0, 0) := by decide +kernel
theorem c149_156 : zcod 149 156 = some (.goto (-154), 3, 2, 0, 0, 0) := by decide +kernel
theorem c149_159 : zcod 149 159 = some (.return_, 1, 0, 0, 0, 0) := by decide +kernel
set_option maxRecDepth 100000 in
theorem b149_0 (l0 : Option Nat) (h : zH) : zev 149 0 [some (vR l0), none, none] [] h = zev 149 2 [some (vR l0), some (vI 0), none] [] h := by
  refine (zv_k (v := 0) c149_0 (by decide)).trans ?_
  refine (zv_it c149_1 rfl).trans ?_
  rfl
theorem e149 (l0 : Option Nat) (h : zH) : zcall 149 [vR l0] h = zev 149 2 [some (vR l0), some (vI 0), none] [] h := by
  refine Eq.trans ?_ (b149_0 l0 h)
  unfold zcall zent
  rw [zL_149]
  rfl
set_option maxRecDepth 100000 in
theorem b149_2 (l0 : Option Nat) (l1 : Int32) (l2 : Option zV) (h : zH) : zev 149 2 [some (vR l0), some (vI l1), l2] [] h = (zgI h l0 9 5 fun x1 => (if l1 < x1 then (zgR h l0 9 11 fun x2 => (zaI h x2 l1 fun x3 => (if 0 < x3 then (zgI h l0 9 24 fun x4 => (zgR h l0 9 12 fun x5 => (zaI h x5 l1 fun x6 => (if x4 < x6 then zev 149 2 [some (vR l0), some (vI (l1 + 1)), l2] [] h else (zgR h l0 9 11 fun x7 => (zaI h x7 l1 fun x8 => (if 1 < x8 then (zgR h l0 9 9 fun x9 => (zaI h x9 l1 fun x10 => zev 149 57 [some (vR l0), some (vI l1), l2] [vI x10] h)) else (zgR h l0 9 10 fun x11 => (zaI h x11 l1 fun x12 => zev 149 57 [some (vR l0), some (vI l1), l2] [vI x12] h))))))))) else zev 149 2 [some (vR l0), some (vI (l1 + 1)), l2] [] h))) else some (none, h))) := by
  refine (zv_in c149_2 rfl).trans ?_
  refine (zv_an c149_3 rfl).trans ?_
  refine (zv_gI c149_4 zg9_5).trans (zgI_c fun x1 => ?_)
  refine (zv_icge c149_7).trans (zif_c ?_ ?_)
  · refine (zv_an c149_10 rfl).trans ?_
    refine (zv_gR c149_11 zf9_11).trans (zgR_c fun x2 => ?_)
    refine (zv_in c149_14 rfl).trans ?_
    refine (zv_aI c149_15).trans (zaI_c fun x3 => ?_)
    refine (zv_ifle c149_16).trans (zif_c ?_ ?_)
    · refine (zv_an c149_19 rfl).trans ?_
      refine (zv_gI c149_20 zg9_24).trans (zgI_c fun x4 => ?_)
      refine (zv_an c149_23 rfl).trans ?_
      refine (zv_gR c149_24 zf9_12).trans (zgR_c fun x5 => ?_)
      refine (zv_in c149_27 rfl).trans ?_
      refine (zv_aI c149_28).trans (zaI_c fun x6 => ?_)
      refine (zv_iclt c149_29).trans (zif_c ?_ ?_)
      · refine (zv_inc (y := 1) c149_153 rfl (by decide) rfl).trans ?_
        refine (zv_goto c149_156).trans ?_
        rfl
      · refine (zv_an c149_32 rfl).trans ?_
        refine (zv_gR c149_33 zf9_11).trans (zgR_c fun x7 => ?_)
        refine (zv_in c149_36 rfl).trans ?_
        refine (zv_aI c149_37).trans (zaI_c fun x8 => ?_)
        refine (zv_k (v := 1) c149_38 (by decide)).trans ?_
        refine (zv_icle c149_39).trans (zif_c ?_ ?_)
        · refine (zv_an c149_42 rfl).trans ?_
          refine (zv_gR c149_43 zf9_9).trans (zgR_c fun x9 => ?_)
          refine (zv_in c149_46 rfl).trans ?_
          refine (zv_aI c149_47).trans (zaI_c fun x10 => ?_)
          refine (zv_goto c149_48).trans ?_
          rfl
        · refine (zv_an c149_51 rfl).trans ?_
          refine (zv_gR c149_52 zf9_10).trans (zgR_c fun x11 => ?_)
          refine (zv_in c149_55 rfl).trans ?_
          refine (zv_aI c149_56).trans (zaI_c fun x12 => ?_)
          rfl
    · refine (zv_inc (y := 1) c149_153 rfl (by decide) rfl).trans ?_
      refine (zv_goto c149_156).trans ?_
      rfl
  · exact zv_vr c149_159 zrt_149
set_option maxRecDepth 100000 in
theorem b149_57 (l0 : Option Nat) (l1 : Int32) (l2 : Option zV) (s0 : Int32) (h : zH) : zev 149 57 [some (vR l0), some (vI l1), l2] [vI s0] h = (zgR h l0 9 19 fun x1 => (zgR h l0 9 7 fun x2 => (zaI h x2 l1 fun x3 => (zaI h x1 x3 fun x4 => (if x4 < s0 then (zgI h l0 9 24 fun x5 => (zgR h l0 9 12 fun x6 => (zaI h x6 l1 fun x7 => (if x5 < (x7 + 30) then zev 149 2 [some (vR l0), some (vI (l1 + 1)), some (vI s0)] [] h else (zvr h l0 9 (zcV 150 [vR l0, vI l1] h fun h8 => (zgI h8 l0 9 27 fun x9 => (zpI h8 l0 9 27 (x9 + 1) fun h10 => zev 149 2 [some (vR l0), some (vI (l1 + 1)), some (vI s0)] [] h10)))))))) else (zgR h l0 9 19 fun x11 => (zgR h l0 9 7 fun x12 => (zaI h x12 l1 fun x13 => (zaI h x11 x13 fun x14 => (ztI h x11 x13 (x14 - s0) fun h15 => (zgI h15 l0 9 29 fun x16 => (zpI h15 l0 9 29 (x16 + s0) fun h17 => (zgR h17 l0 9 11 fun x18 => (zaI h17 x18 l1 fun x19 => (ztI h17 x18 l1 (x19 - 1) fun h20 => (zgR h20 l0 9 12 fun x21 => (zaI h20 x21 l1 fun x22 => (ztI h20 x21 l1 (x22 + 100) fun h23 => zev 149 2 [some (vR l0), some (vI (l1 + 1)), some (vI s0)] [] h23)))))))))))))))))) := by
  refine (zv_it c149_57 rfl).trans ?_
  refine (zv_an c149_58 rfl).trans ?_
  refine (zv_gR c149_59 zf9_19).trans (zgR_c fun x1 => ?_)
  refine (zv_an c149_62 rfl).trans ?_
  refine (zv_gR c149_63 zf9_7).trans (zgR_c fun x2 => ?_)
  refine (zv_in c149_66 rfl).trans ?_
  refine (zv_aI c149_67).trans (zaI_c fun x3 => ?_)
  refine (zv_aI c149_68).trans (zaI_c fun x4 => ?_)
  refine (zv_in c149_69 rfl).trans ?_
  refine (zv_iclt c149_70).trans (zif_c ?_ ?_)
  · refine (zv_an c149_122 rfl).trans ?_
    refine (zv_gI c149_123 zg9_24).trans (zgI_c fun x5 => ?_)
    refine (zv_an c149_126 rfl).trans ?_
    refine (zv_gR c149_127 zf9_12).trans (zgR_c fun x6 => ?_)
    refine (zv_in c149_130 rfl).trans ?_
    refine (zv_aI c149_131).trans (zaI_c fun x7 => ?_)
    refine (zv_bi (v := 30) c149_132 (by decide)).trans ?_
    refine (zv_iadd c149_134).trans ?_
    refine (zv_iclt c149_135).trans (zif_c ?_ ?_)
    · refine (zv_inc (y := 1) c149_153 rfl (by decide) rfl).trans ?_
      refine (zv_goto c149_156).trans ?_
      rfl
    · refine (zv_an c149_138 rfl).trans ?_
      refine (zv_in c149_139 rfl).trans ?_
      refine (zv_viV c149_140 zcn_150 rfl zL_150 zrt_150 rfl rfl).trans (zvr_c (zcV_c fun h8 => ?_))
      refine (zv_an c149_143 rfl).trans ?_
      refine (zv_dup c149_144 rfl).trans ?_
      refine (zv_gI c149_145 zg9_27).trans (zgI_c fun x9 => ?_)
      refine (zv_k (v := 1) c149_148 (by decide)).trans ?_
      refine (zv_iadd c149_149).trans ?_
      refine (zv_pI c149_150 zf9_27).trans (zpI_c fun h10 => ?_)
      refine (zv_inc (y := 1) c149_153 rfl (by decide) rfl).trans ?_
      refine (zv_goto c149_156).trans ?_
      rfl
  · refine (zv_an c149_73 rfl).trans ?_
    refine (zv_gR c149_74 zf9_19).trans (zgR_c fun x11 => ?_)
    refine (zv_an c149_77 rfl).trans ?_
    refine (zv_gR c149_78 zf9_7).trans (zgR_c fun x12 => ?_)
    refine (zv_in c149_81 rfl).trans ?_
    refine (zv_aI c149_82).trans (zaI_c fun x13 => ?_)
    refine (zv_dup2 c149_83 rfl rfl).trans ?_
    refine (zv_aI c149_84).trans (zaI_c fun x14 => ?_)
    refine (zv_in c149_85 rfl).trans ?_
    refine (zv_isub c149_86).trans ?_
    refine (zv_tI c149_87).trans (ztI_c fun h15 => ?_)
    refine (zv_an c149_88 rfl).trans ?_
    refine (zv_dup c149_89 rfl).trans ?_
    refine (zv_gI c149_90 zg9_29).trans (zgI_c fun x16 => ?_)
    refine (zv_in c149_93 rfl).trans ?_
    refine (zv_iadd c149_94).trans ?_
    refine (zv_pI c149_95 zf9_29).trans (zpI_c fun h17 => ?_)
    refine (zv_an c149_98 rfl).trans ?_
    refine (zv_gR c149_99 zf9_11).trans (zgR_c fun x18 => ?_)
    refine (zv_in c149_102 rfl).trans ?_
    refine (zv_dup2 c149_103 rfl rfl).trans ?_
    refine (zv_aI c149_104).trans (zaI_c fun x19 => ?_)
    refine (zv_k (v := 1) c149_105 (by decide)).trans ?_
    refine (zv_isub c149_106).trans ?_
    refine (zv_tI c149_107).trans (ztI_c fun h20 => ?_)
    refine (zv_an c149_108 rfl).trans ?_
    refine (zv_gR c149_109 zf9_12).trans (zgR_c fun x21 => ?_)
    refine (zv_in c149_112 rfl).trans ?_
    refine (zv_dup2 c149_113 rfl rfl).trans ?_
    refine (zv_aI c149_114).trans (zaI_c fun x22 => ?_)
    refine (zv_bi (v := 100) c149_115 (by decide)).trans ?_
    refine (zv_iadd c149_117).trans ?_
    refine (zv_tI c149_118).trans (ztI_c fun h23 => ?_)
    refine (zv_goto c149_119).trans ?_
    refine (zv_inc (y := 1) c149_153 rfl (by decide) rfl).trans ?_
    refine (zv_goto c149_156).trans ?_
    rfl
theorem c150_0 : zcod 150 0 = some (.aload_n 0, 1, 0, 0, 0, 0) := by decide +kernel
theorem c150_1 : zcod 150 1 = some (.iload_n 1, 1, 0, 0, 0, 0) := by decide +kernel
theorem c150_2 : zcod 150 2 = some (.iconst (-1), 1, 0, 0, 0, 0) := by decide +kernel
theorem c150_3 : zcod 150 3 = some (.invokevirtual 204, 3, 143, 2, 1047, 0) := by decide +kernel
theorem c150_6 : zcod 150 6 = some (.aload_n 0, 1, 0, 0, 0, 0) := by decide +kernel
theorem c150_7 : zcod 150 7 = some (.getfield 39, 3, 9, 11, 807, 0) := by decide +kernel
theorem c150_10 : zcod 150 10 = some (.iload_n 1, 1, 0, 0, 0, 0) := by decide +kernel
theorem c150_11 : zcod 150 11 = some (.iconst 0, 1, 0, 0, 0, 0) := by decide +kernel
theorem c150_12 : zcod 150 12 = some (.iastore, 1, 0, 0, 0, 0) := by decide +kernel
theorem c150_13 : zcod 150 13 = some (.aload_n 0, 1, 0, 0, 0, 0) := by decide +kernel
theorem c150_14 : zcod 150 14 = some (.getfield 45, 3, 9, 13, 809, 0) := by decide +kernel
theorem c150_17 : zcod 150 17 = some (.iload_n 1, 1, 0, 0, 0, 0) := by decide +kernel
theorem c150_18 : zcod 150 18 = some (.iconst 0, 1, 0, 0, 0, 0) := by decide +kernel
theorem c150_19 : zcod 150 19 = some (.iastore, 1, 0, 0, 0, 0) := by decide +kernel
theorem c150_20 : zcod 150 20 = some (.aload_n 0, 1, 0, 0, 0, 0) := by decide +kernel
theorem c150_21 : zcod 150 21 = some (.getfield 51, 3, 9, 15, 811, 0) := by decide +kernel
theorem c150_24 : zcod 150 24 = some (.iload_n 1, 1, 0, 0, 0, 0) := by decide +kernel
theorem c150_25 : zcod 150 25 = some (.iconst (-1), 1, 0, 0, 0, 0) := by decide +kernel
theorem c150_26 : zcod 150 26 = some (.iastore, 1, 0, 0, 0, 0) := by decide +kernel
theorem c150_27 : zcod 150 27 = some (.return_, 1, 0, 0, 0, 0) := by decide +kernel
set_option maxRecDepth 100000 in
theorem b150_0 (l0 : Option Nat) (l1 : Int32) (h : zH) : zev 150 0 [some (vR l0), some (vI l1)] [] h = (zvr h l0 9 (zcV 143 [vR l0, vI l1, vI (-1)] h fun h1 => (zgR h1 l0 9 11 fun x2 => (ztI h1 x2 l1 0 fun h3 => (zgR h3 l0 9 13 fun x4 => (ztI h3 x4 l1 0 fun h5 => (zgR h5 l0 9 15 fun x6 => (ztI h5 x6 l1 (-1) fun h7 => some (none, h7))))))))) := by
  refine (zv_an c150_0 rfl).trans ?_
  refine (zv_in c150_1 rfl).trans ?_
  refine (zv_k (v := -1) c150_2 (by decide)).trans ?_
  refine (zv_viV c150_3 zcn_143 rfl zL_143 zrt_143 rfl rfl).trans (zvr_c (zcV_c fun h1 => ?_))
  refine (zv_an c150_6 rfl).trans ?_
  refine (zv_gR c150_7 zf9_11).trans (zgR_c fun x2 => ?_)
  refine (zv_in c150_10 rfl).trans ?_
  refine (zv_k (v := 0) c150_11 (by decide)).trans ?_
  refine (zv_tI c150_12).trans (ztI_c fun h3 => ?_)
  refine (zv_an c150_13 rfl).trans ?_
  refine (zv_gR c150_14 zf9_13).trans (zgR_c fun x4 => ?_)
  refine (zv_in c150_17 rfl).trans ?_
  refine (zv_k (v := 0) c150_18 (by decide)).trans ?_
  refine (zv_tI c150_19).trans (ztI_c fun h5 => ?_)
  refine (zv_an c150_20 rfl).trans ?_
  refine (zv_gR c150_21 zf9_15).trans (zgR_c fun x6 => ?_)
  refine (zv_in c150_24 rfl).trans ?_
  refine (zv_k (v := -1) c150_25 (by decide)).trans ?_
  refine (zv_tI c150_26).trans (ztI_c fun h7 => ?_)
  exact zv_vr c150_27 zrt_150
theorem e150 (l0 : Option Nat) (l1 : Int32) (h : zH) : zcall 150 [vR l0, vI l1] h = (zvr h l0 9 (zcV 143 [vR l0, vI l1, vI (-1)] h fun h1 => (zgR h1 l0 9 11 fun x2 => (ztI h1 x2 l1 0 fun h3 => (zgR h3 l0 9 13 fun x4 => (ztI h3 x4 l1 0 fun h5 => (zgR h5 l0 9 15 fun x6 => (ztI h5 x6 l1 (-1) fun h7 => some (none, h7))))))))) := by
  refine Eq.trans ?_ (b150_0 l0 l1 h)
  unfold zcall zent
  rw [zL_150]
  rfl
theorem c151_0 : zcod 151 0 = some (.iconst 0, 1, 0, 0, 0, 0) := by decide +kernel
theorem c151_1 : zcod 151 1 = some (.istore_n 1, 1, 0, 0, 0, 0) := by decide +kernel
theorem c151_2 : zcod 151 2 = some (.iload_n 1, 1, 0, 0, 0, 0) := by decide +kernel
theorem c151_3 : zcod 151 3 = some (.aload_n 0, 1, 0, 0, 0, 0) := by decide +kernel
theorem c151_4 : zcod 151 4 = some (.getfield 142, 3, 9, 5, 801, 0) := by decide +kernel
theorem c151_7 : zcod 151 7 = some (.if_icmp .ge 109, 3, 116, 0, 0, 0) := by decide +kernel
theorem c151_10 : zcod 151 10 = some (.aload_n 0, 1, 0, 0, 0, 0) := by decide +kernel
theorem c151_11 : zcod 151 11 = some (.getfield 26, 3, 9, 7, 803, 0) := by decide +kernel
theorem c151_14 : zcod 151 14 = some (.iload_n 1, 1, 0, 0, 0, 0) := by decide +kernel
theorem c151_15 : zcod 151 15 = some (.iaload, 1, 0, 0, 0, 0) := by decide +kernel
theorem c151_16 : zcod 151 16 = some (.istore_n 2, 1, 0, 0, 0, 0) := by decide +kernel
theorem c151_17 : zcod 151 17 = some (.iload_n 2, 1, 0, 0, 0, 0) := by decide +kernel
theorem c151_18 : zcod 151 18 = some (.ifCond .lt 92, 3, 110, 0, 0, 0) := by decide +kernel
theorem c151_21 : zcod 151 21 = some (.aload_n 0, 1, 0, 0, 0, 0) := by decide +kernel
theorem c151_22 : zcod 151 22 = some (.iload_n 1, 1, 0, 0, 0, 0) := by decide +kernel
theorem c151_23 : zcod 151 23 = some (.invokevirtual 185, 3, 130, 1, 994, 0) := by decide +kernel
theorem c151_26 : zcod 151 26 = some (.aload_n 0, 1, 0, 0, 0, 0) := by decide +kernel
theorem c151_27 : zcod 151 27 = some (.getfield 215, 3, 9, 26, 822, 0) := by decide +kernel
theorem c151_30 : zcod 151 30 = some (.imul, 1, 0, 0, 0, 0) := by decide +kernel
theorem c151_31 : zcod 151 31 = some (.bipush 100, 2, 0, 0, 0, 0) := by decide +kernel
theorem c151_33 : zcod 151 33 = some (.idiv, 1, 0, 0, 0, 0) := by decide +kernel
theorem c151_34 : zcod 151 34 = some (.istore_n 3, 1, 0, 0, 0, 0) := by decide +kernel
theorem c151_35 : zcod 151 35 = some (.aload_n 0, 1, 0, 0, 0, 0) := by decide +kernel
theorem c151_36 : zcod 151 36 = some (.getfield 57, 3, 9, 19, 815, 0) := by decide +kernel
theorem c151_39 : zcod 151 39 = some (.iload_n 2, 1, 0, 0, 0, 0) := by decide +kernel
theorem c151_40 : zcod 151 40 = some (.iaload, 1, 0, 0, 0, 0) := by decide +kernel
theorem c151_41 : zcod 151 41 = some (.iload_n 3, 1, 0, 0, 0, 0) := by decide +kernel
theorem c151_42 : zcod 151 42 = some (.if_icmp .lt 33, 3, 75, 0, 0, 0) := by decide +kernel
theorem c151_45 : zcod 151 45 = some (.aload_n 0, 1, 0, 0, 0, 0) := by decide +kernel
theorem c151_46 : zcod 151 46 = some (.getfield 57, 3, 9, 19, 815, 0) := by decide +kernel
theorem c151_49 : zcod 151 49 = some (.iload_n 2, 1, 0, 0, 0, 0) := by decide +kernel
theorem c151_50 : zcod 151 50 = some (.dup2, 1, 0, 0, 0, 0) := by decide +kernel
theorem c151_51 : zcod 151 51 = some (.iaload, 1, 0, 0, 0, 0) := by decide +kernel
theorem c151_52 : zcod 151 52 = some (.iload_n 3, 1, 0, 0, 0, 0) := by decide +kernel
theorem c151_53 : zcod 151 53 = some (.isub, 1, 0, 0, 0, 0) := by decide +kernel
theorem c151_54 : zcod 151 54 = some (.iastore, 1, 0, 0, 0, 0) := by decide +kernel
theorem c151_55 : zcod 151 55 = some (.aload_n 0, 1, 0, 0, 0, 0) := by decide +kernel
theorem c151_56 : zcod 151 56 = some (.dup, 1, 0, 0, 0, 0) := by decide +kernel
theorem c151_57 : zcod 151 57 = some (.getfield 225, 3, 9, 30, 826, 0) := by decide +kernel
theorem c151_60 : zcod 151 60 = some (.iload_n 3, 1, 0, 0, 0, 0) := by decide +kernel
theorem c151_61 : zcod 151 61 = some (.iadd, 1, 0, 0, 0, 0) := by decide +kernel
theorem c151_62 : zcod 151 62 = some (.putfield 225, 3, 9, 30, 826, 0) := by decide +kernel
theorem c151_65 : zcod 151 65 = some (.aload_n 0, 1, 0, 0, 0, 0) := by decide +kernel
theorem c151_66 : zcod 151 66 = some (.getfield 45, 3, 9, 13, 809, 0) := by decide +kernel
theorem c151_69 : zcod 151 69 = some (.iload_n 1, 1, 0, 0, 0, 0) := by decide +kernel
theorem c151_70 : zcod 151 70 = some (.iconst 0, 1, 0, 0, 0, 0) := by decide +kernel
theorem c151_71 : zcod 151 71 = some (.iastore, 1, 0, 0, 0, 0) := by decide +kernel
theorem c151_72 : zcod 151 72 = some (.goto 38, 3, 110, 0, 0, 0) := by decide +kernel
theorem c151_75 : zcod 151 75 = some (.aload_n 0, 1, 0, 0, 0, 0) := by decide +kernel
theorem c151_76 : zcod 151 76 = some (.getfield 45, 3, 9, 13, 809, 0) := by decide +kernel
theorem c151_79 : zcod 151 79 = some (.iload_n 1, 1, 0, 0, 0, 0) := by decide +kernel
theorem c151_80 : zcod 151 80 = some (.dup2, 1, 0, 0, 0, 0) := by decide +kernel
theorem c151_81 : zcod 151 81 = some (.iaload, 1, 0, 0, 0, 0) := by decide +kernel
theorem c151_82 : zcod 151 82 = some (.iconst 1, 1, 0, 0, 0, 0) := by decide +kernel
theorem c151_83 : zcod 151 83 = some (.iadd, 1, 0, 0, 0, 0) := by decide +kernel
theorem c151_84 : zcod 151 84 = some (.iastore, 1, 0, 0, 0, 0) := by decide +kernel
theorem c151_85 : zcod 151 85 = some (.aload_n 0, 1, 0, 0, 0, 0) := by decide +kernel
theorem c151_86 : zcod 151 86 = some (.getfield 45, 3, 9, 13, 809, 0) := by decide +kernel
theorem c151_89 : zcod 151 89 = some (.iload_n 1, 1, 0, 0, 0, 0) := by decide +kernel
theorem c151_90 : zcod 151 90 = some (.iaload, 1, 0, 0, 0, 0) := by decide +kernel
theorem c151_91 : zcod 151 91 = some (.iconst 2, 1, 0, 0, 0, 0) := by decide +kernel
theorem c151_92 : zcod 151 92 = some (.if_icmp .ne 18, 3, 110, 0, 0, 0) := by decide +kernel
theorem c151_95 : zcod 151 95 = some (.aload_n 0, 1, 0, 0, 0, 0) := by decide +kernel
theorem c151_96 : zcod 151 96 = some (.iload_n 1, 1, 0, 0, 0, 0) := by decide +kernel
theorem c151_97 : zcod 151 97 = some (.invokevirtual 218, 3, 150, 1, 1078, 0) := by decide +kernel
theorem c151_100 : zcod 151 100 = some (.aload_n 0, 1, 0, 0, 0, 0) := by decide +kernel
theorem c151_101 : zcod 151 101 = some (.dup, 1, 0, 0, 0, 0) := by decide +kernel
theorem c151_102 : zcod 151 102 = some (.getfield 228, 3, 9, 28, 824, 0) := by decide +kernel
theorem c151_105 : zcod 151 105 = some (.iconst 1, 1, 0, 0, 0, 0) := by decide +kernel
theorem c151_106 : zcod 151 106 = some (.iadd, 1, 0, 0, 0, 0) := by decide +kernel
theorem c151_107 : zcod 151 107 = some (.putfield 228, 3, 9, 28, 824, 0) := by decide +kernel
theorem c151_110 : zcod 151 110 = some (.iinc 1 1, 3, 0, 0, 0, 0) := by decide +kernel
theorem c151_113 : zcod 151 113 = some (.goto (-111), 3, 2, 0, 0, 0) := by decide +kernel
theorem c151_116 : zcod 151 116 = some (.return_, 1, 0, 0, 0, 0) := by decide +kernel
set_option maxRecDepth 100000 in
theorem b151_0 (l0 : Option Nat) (h : zH) : zev 151 0 [some (vR l0), none, none, none] [] h = zev 151 2 [some (vR l0), some (vI 0), none, none] [] h := by
  refine (zv_k (v := 0) c151_0 (by decide)).trans ?_
  refine (zv_it c151_1 rfl).trans ?_
  rfl
theorem e151 (l0 : Option Nat) (h : zH) : zcall 151 [vR l0] h = zev 151 2 [some (vR l0), some (vI 0), none, none] [] h := by
  refine Eq.trans ?_ (b151_0 l0 h)
  unfold zcall zent
  rw [zL_151]
  rfl
set_option maxRecDepth 100000 in
theorem b151_2 (l0 : Option Nat) (l1 : Int32) (l2 : Option zV) (l3 : Option zV) (h : zH) : zev 151 2 [some (vR l0), some (vI l1), l2, l3] [] h = (zgI h l0 9 5 fun x1 => (if l1 < x1 then (zgR h l0 9 7 fun x2 => (zaI h x2 l1 fun x3 => (if x3 < 0 then zev 151 2 [some (vR l0), some (vI (l1 + 1)), some (vI x3), l3] [] h else (zvr h l0 9 (zcI 130 [vR l0, vI l1] h fun x5 h4 => (zgI h4 l0 9 26 fun x6 => (zdv 100 ((zgR h4 l0 9 19 fun x7 => (zaI h4 x7 x3 fun x8 => (if x8 < ((x5 * x6) / 100) then (zgR h4 l0 9 13 fun x9 => (zaI h4 x9 l1 fun x10 => (ztI h4 x9 l1 (x10 + 1) fun h11 => (zgR h11 l0 9 13 fun x12 => (zaI h11 x12 l1 fun x13 => (if x13 = 2 then (zvr h11 l0 9 (zcV 150 [vR l0, vI l1] h11 fun h14 => (zgI h14 l0 9 28 fun x15 => (zpI h14 l0 9 28 (x15 + 1) fun h16 => zev 151 2 [some (vR l0), some (vI (l1 + 1)), some (vI x3), some (vI ((x5 * x6) / 100))] [] h16)))) else zev 151 2 [some (vR l0), some (vI (l1 + 1)), some (vI x3), some (vI ((x5 * x6) / 100))] [] h11)))))) else (zgR h4 l0 9 19 fun x17 => (zaI h4 x17 x3 fun x18 => (ztI h4 x17 x3 (x18 - ((x5 * x6) / 100)) fun h19 => (zgI h19 l0 9 30 fun x20 => (zpI h19 l0 9 30 (x20 + ((x5 * x6) / 100)) fun h21 => (zgR h21 l0 9 13 fun x22 => (ztI h21 x22 l1 0 fun h23 => zev 151 2 [some (vR l0), some (vI (l1 + 1)), some (vI x3), some (vI ((x5 * x6) / 100))] [] h23)))))))))))))))))) else some (none, h))) := by
  refine (zv_in c151_2 rfl).trans ?_
  refine (zv_an c151_3 rfl).trans ?_
  refine (zv_gI c151_4 zg9_5).trans (zgI_c fun x1 => ?_)
  refine (zv_icge c151_7).trans (zif_c ?_ ?_)
  · refine (zv_an c151_10 rfl).trans ?_
    refine (zv_gR c151_11 zf9_7).trans (zgR_c fun x2 => ?_)
    refine (zv_in c151_14 rfl).trans ?_
    refine (zv_aI c151_15).trans (zaI_c fun x3 => ?_)
    refine (zv_it c151_16 rfl).trans ?_
    refine (zv_in c151_17 rfl).trans ?_
    refine (zv_iflt c151_18).trans (zif_c ?_ ?_)
    · refine (zv_inc (y := 1) c151_110 rfl (by decide) rfl).trans ?_
      refine (zv_goto c151_113).trans ?_
      rfl
    · refine (zv_an c151_21 rfl).trans ?_
      refine (zv_in c151_22 rfl).trans ?_
      refine (zv_viI c151_23 zcn_130 rfl zL_130 (Or.inl zrt_130) rfl rfl).trans (zvr_c (zcI_c fun x5 h4 => ?_))
      refine (zv_an c151_26 rfl).trans ?_
      refine (zv_gI c151_27 zg9_26).trans (zgI_c fun x6 => ?_)
      refine (zv_imul c151_30).trans ?_
      refine (zv_bi (v := 100) c151_31 (by decide)).trans ?_
      refine (zv_div c151_33).trans (zdv_c ?_)
      refine (zv_it c151_34 rfl).trans ?_
      refine (zv_an c151_35 rfl).trans ?_
      refine (zv_gR c151_36 zf9_19).trans (zgR_c fun x7 => ?_)
      refine (zv_in c151_39 rfl).trans ?_
      refine (zv_aI c151_40).trans (zaI_c fun x8 => ?_)
      refine (zv_in c151_41 rfl).trans ?_
      refine (zv_iclt c151_42).trans (zif_c ?_ ?_)
      · refine (zv_an c151_75 rfl).trans ?_
        refine (zv_gR c151_76 zf9_13).trans (zgR_c fun x9 => ?_)
        refine (zv_in c151_79 rfl).trans ?_
        refine (zv_dup2 c151_80 rfl rfl).trans ?_
        refine (zv_aI c151_81).trans (zaI_c fun x10 => ?_)
        refine (zv_k (v := 1) c151_82 (by decide)).trans ?_
        refine (zv_iadd c151_83).trans ?_
        refine (zv_tI c151_84).trans (ztI_c fun h11 => ?_)
        refine (zv_an c151_85 rfl).trans ?_
        refine (zv_gR c151_86 zf9_13).trans (zgR_c fun x12 => ?_)
        refine (zv_in c151_89 rfl).trans ?_
        refine (zv_aI c151_90).trans (zaI_c fun x13 => ?_)
        refine (zv_k (v := 2) c151_91 (by decide)).trans ?_
        refine (zv_icne c151_92).trans (zif_c ?_ ?_)
        · refine (zv_an c151_95 rfl).trans ?_
          refine (zv_in c151_96 rfl).trans ?_
          refine (zv_viV c151_97 zcn_150 rfl zL_150 zrt_150 rfl rfl).trans (zvr_c (zcV_c fun h14 => ?_))
          refine (zv_an c151_100 rfl).trans ?_
          refine (zv_dup c151_101 rfl).trans ?_
          refine (zv_gI c151_102 zg9_28).trans (zgI_c fun x15 => ?_)
          refine (zv_k (v := 1) c151_105 (by decide)).trans ?_
          refine (zv_iadd c151_106).trans ?_
          refine (zv_pI c151_107 zf9_28).trans (zpI_c fun h16 => ?_)
          refine (zv_inc (y := 1) c151_110 rfl (by decide) rfl).trans ?_
          refine (zv_goto c151_113).trans ?_
          rfl
        · refine (zv_inc (y := 1) c151_110 rfl (by decide) rfl).trans ?_
          refine (zv_goto c151_113).trans ?_
          rfl
      · refine (zv_an c151_45 rfl).trans ?_
        refine (zv_gR c151_46 zf9_19).trans (zgR_c fun x17 => ?_)
        refine (zv_in c151_49 rfl).trans ?_
        refine (zv_dup2 c151_50 rfl rfl).trans ?_
        refine (zv_aI c151_51).trans (zaI_c fun x18 => ?_)
        refine (zv_in c151_52 rfl).trans ?_
        refine (zv_isub c151_53).trans ?_
        refine (zv_tI c151_54).trans (ztI_c fun h19 => ?_)
        refine (zv_an c151_55 rfl).trans ?_
        refine (zv_dup c151_56 rfl).trans ?_
        refine (zv_gI c151_57 zg9_30).trans (zgI_c fun x20 => ?_)
        refine (zv_in c151_60 rfl).trans ?_
        refine (zv_iadd c151_61).trans ?_
        refine (zv_pI c151_62 zf9_30).trans (zpI_c fun h21 => ?_)
        refine (zv_an c151_65 rfl).trans ?_
        refine (zv_gR c151_66 zf9_13).trans (zgR_c fun x22 => ?_)
        refine (zv_in c151_69 rfl).trans ?_
        refine (zv_k (v := 0) c151_70 (by decide)).trans ?_
        refine (zv_tI c151_71).trans (ztI_c fun h23 => ?_)
        refine (zv_goto c151_72).trans ?_
        refine (zv_inc (y := 1) c151_110 rfl (by decide) rfl).trans ?_
        refine (zv_goto c151_113).trans ?_
        rfl
  · exact zv_vr c151_116 zrt_151
theorem c152_0 : zcod 152 0 = some (.iconst 0, 1, 0, 0, 0, 0) := by decide +kernel
theorem c152_1 : zcod 152 1 = some (.istore_n 1, 1, 0, 0, 0, 0) := by decide +kernel
theorem c152_2 : zcod 152 2 = some (.iload_n 1, 1, 0, 0, 0, 0) := by decide +kernel
theorem c152_3 : zcod 152 3 = some (.aload_n 0, 1, 0, 0, 0, 0) := by decide +kernel
theorem c152_4 : zcod 152 4 = some (.getfield 163, 3, 9, 18, 814, 0) := by decide +kernel
theorem c152_7 : zcod 152 7 = some (.if_icmp .ge 89, 3, 96, 0, 0, 0) := by decide +kernel
theorem c152_10 : zcod 152 10 = some (.iconst (-1), 1, 0, 0, 0, 0) := by decide +kernel
theorem c152_11 : zcod 152 11 = some (.istore_n 2, 1, 0, 0, 0, 0) := by decide +kernel
theorem c152_12 : zcod 152 12 = some (.iconst 0, 1, 0, 0, 0, 0) := by decide +kernel
theorem c152_13 : zcod 152 13 = some (.istore_n 3, 1, 0, 0, 0, 0) := by decide +kernel
theorem c152_14 : zcod 152 14 = some (.iload_n 3, 1, 0, 0, 0, 0) := by decide +kernel
theorem c152_15 : zcod 152 15 = some (.aload_n 0, 1, 0, 0, 0, 0) := by decide +kernel
theorem c152_16 : zcod 152 16 = some (.getfield 142, 3, 9, 5, 801, 0) := by decide +kernel
theorem c152_19 : zcod 152 19 = some (.if_icmp .ge 51, 3, 70, 0, 0, 0) := by decide +kernel
theorem c152_22 : zcod 152 22 = some (.aload_n 0, 1, 0, 0, 0, 0) := by decide +kernel
theorem c152_23 : zcod 152 23 = some (.getfield 60, 3, 9, 20, 816, 0) := by decide +kernel
theorem c152_26 : zcod 152 26 = some (.iload_n 1, 1, 0, 0, 0, 0) := by decide +kernel
theorem c152_27 : zcod 152 27 = some (.iaload, 1, 0, 0, 0, 0) := by decide +kernel
theorem c152_28 : zcod 152 28 = some (.ifCond .ge 42, 3, 70, 0, 0, 0) := by decide +kernel
theorem c152_31 : zcod 152 31 = some (.aload_n 0, 1, 0, 0, 0, 0) := by decide +kernel
theorem c152_32 : zcod 152 32 = some (.getfield 26, 3, 9, 7, 803, 0) := by decide +kernel
theorem c152_35 : zcod 152 35 = some (.iload_n 3, 1, 0, 0, 0, 0) := by decide +kernel
theorem c152_36 : zcod 152 36 = some (.iaload, 1, 0, 0, 0, 0) := by decide +kernel
theorem c152_37 : zcod 152 37 = some (.iload_n 1, 1, 0, 0, 0, 0) := by decide +kernel
theorem c152_38 : zcod 152 38 = some (.if_icmp .ne 24, 3, 62, 0, 0, 0) := by decide +kernel
theorem c152_41 : zcod 152 41 = some (.iload_n 2, 1, 0, 0, 0, 0) := by decide +kernel
theorem c152_42 : zcod 152 42 = some (.ifCond .lt 16, 3, 58, 0, 0, 0) := by decide +kernel
theorem c152_45 : zcod 152 45 = some (.aload_n 0, 1, 0, 0, 0, 0) := by decide +kernel
theorem c152_46 : zcod 152 46 = some (.iload_n 3, 1, 0, 0, 0, 0) := by decide +kernel
theorem c152_47 : zcod 152 47 = some (.invokevirtual 185, 3, 130, 1, 994, 0) := by decide +kernel
theorem c152_50 : zcod 152 50 = some (.aload_n 0, 1, 0, 0, 0, 0) := by decide +kernel
theorem c152_51 : zcod 152 51 = some (.iload_n 2, 1, 0, 0, 0, 0) := by decide +kernel
theorem c152_52 : zcod 152 52 = some (.invokevirtual 185, 3, 130, 1, 994, 0) := by decide +kernel
theorem c152_55 : zcod 152 55 = some (.if_icmp .le 7, 3, 62, 0, 0, 0) := by decide +kernel
theorem c152_58 : zcod 152 58 = some (.iload_n 3, 1, 0, 0, 0, 0) := by decide +kernel
theorem c152_59 : zcod 152 59 = some (.goto 4, 3, 63, 0, 0, 0) := by decide +kernel
theorem c152_62 : zcod 152 62 = some (.iload_n 2, 1, 0, 0, 0, 0) := by decide +kernel
theorem c152_63 : zcod 152 63 = some (.istore_n 2, 1, 0, 0, 0, 0) := by decide +kernel
theorem c152_64 : zcod 152 64 = some (.iinc 3 1, 3, 0, 0, 0, 0) := by decide +kernel
theorem c152_67 : zcod 152 67 = some (.goto (-53), 3, 14, 0, 0, 0) := by decide +kernel
theorem c152_70 : zcod 152 70 = some (.aload_n 0, 1, 0, 0, 0, 0) := by decide +kernel
theorem c152_71 : zcod 152 71 = some (.getfield 60, 3, 9, 20, 816, 0) := by decide +kernel
theorem c152_74 : zcod 152 74 = some (.iload_n 1, 1, 0, 0, 0, 0) := by decide +kernel
theorem c152_75 : zcod 152 75 = some (.iload_n 2, 1, 0, 0, 0, 0) := by decide +kernel
theorem c152_76 : zcod 152 76 = some (.ifCond .lt 7, 3, 83, 0, 0, 0) := by decide +kernel
theorem c152_79 : zcod 152 79 = some (.iload_n 2, 1, 0, 0, 0, 0) := by decide +kernel
theorem c152_80 : zcod 152 80 = some (.goto 9, 3, 89, 0, 0, 0) := by decide +kernel
theorem c152_83 : zcod 152 83 = some (.aload_n 0, 1, 0, 0, 0, 0) := by decide +kernel
theorem c152_84 : zcod 152 84 = some (.getfield 60, 3, 9, 20, 816, 0) := by decide +kernel
theorem c152_87 : zcod 152 87 = some (.iload_n 1, 1, 0, 0, 0, 0) := by decide +kernel
theorem c152_88 : zcod 152 88 = some (.iaload, 1, 0, 0, 0, 0) := by decide +kernel
theorem c152_89 : zcod 152 89 = some (.iastore, 1, 0, 0, 0, 0) := by decide +kernel
theorem c152_90 : zcod 152 90 = some (.iinc 1 1, 3, 0, 0, 0, 0) := by decide +kernel
theorem c152_93 : zcod 152 93 = some (.goto (-91), 3, 2, 0, 0, 0) := by decide +kernel
theorem c152_96 : zcod 152 96 = some (.return_, 1, 0, 0, 0, 0) := by decide +kernel
set_option maxRecDepth 100000 in
theorem b152_0 (l0 : Option Nat) (h : zH) : zev 152 0 [some (vR l0), none, none, none] [] h = zev 152 2 [some (vR l0), some (vI 0), none, none] [] h := by
  refine (zv_k (v := 0) c152_0 (by decide)).trans ?_
  refine (zv_it c152_1 rfl).trans ?_
  rfl
theorem e152 (l0 : Option Nat) (h : zH) : zcall 152 [vR l0] h = zev 152 2 [some (vR l0), some (vI 0), none, none] [] h := by
  refine Eq.trans ?_ (b152_0 l0 h)
  unfold zcall zent
  rw [zL_152]
  rfl
set_option maxRecDepth 100000 in
theorem b152_2 (l0 : Option Nat) (l1 : Int32) (l2 : Option zV) (l3 : Option zV) (h : zH) : zev 152 2 [some (vR l0), some (vI l1), l2, l3] [] h = (zgI h l0 9 18 fun x1 => (if l1 < x1 then zev 152 14 [some (vR l0), some (vI l1), some (vI (-1)), some (vI 0)] [] h else some (none, h))) := by
  refine (zv_in c152_2 rfl).trans ?_
  refine (zv_an c152_3 rfl).trans ?_
  refine (zv_gI c152_4 zg9_18).trans (zgI_c fun x1 => ?_)
  refine (zv_icge c152_7).trans (zif_c ?_ ?_)
  · refine (zv_k (v := -1) c152_10 (by decide)).trans ?_
    refine (zv_it c152_11 rfl).trans ?_
    refine (zv_k (v := 0) c152_12 (by decide)).trans ?_
    refine (zv_it c152_13 rfl).trans ?_
    rfl
  · exact zv_vr c152_96 zrt_152
set_option maxRecDepth 100000 in
theorem b152_14 (l0 : Option Nat) (l1 : Int32) (l2 : Int32) (l3 : Int32) (h : zH) : zev 152 14 [some (vR l0), some (vI l1), some (vI l2), some (vI l3)] [] h = (zgI h l0 9 5 fun x1 => (if l3 < x1 then (zgR h l0 9 20 fun x2 => (zaI h x2 l1 fun x3 => (if x3 < 0 then (zgR h l0 9 7 fun x4 => (zaI h x4 l3 fun x5 => (if x5 = l1 then (if l2 < 0 then zev 152 14 [some (vR l0), some (vI l1), some (vI l3), some (vI (l3 + 1))] [] h else (zvr h l0 9 (zcI 130 [vR l0, vI l3] h fun x7 h6 => (zvr h6 l0 9 (zcI 130 [vR l0, vI l2] h6 fun x9 h8 => (if x9 < x7 then zev 152 14 [some (vR l0), some (vI l1), some (vI l3), some (vI (l3 + 1))] [] h8 else zev 152 14 [some (vR l0), some (vI l1), some (vI l2), some (vI (l3 + 1))] [] h8)))))) else zev 152 14 [some (vR l0), some (vI l1), some (vI l2), some (vI (l3 + 1))] [] h))) else zev 152 70 [some (vR l0), some (vI l1), some (vI l2), some (vI l3)] [] h))) else zev 152 70 [some (vR l0), some (vI l1), some (vI l2), some (vI l3)] [] h)) := by
  refine (zv_in c152_14 rfl).trans ?_
  refine (zv_an c152_15 rfl).trans ?_
  refine (zv_gI c152_16 zg9_5).trans (zgI_c fun x1 => ?_)
  refine (zv_icge c152_19).trans (zif_c ?_ ?_)
  · refine (zv_an c152_22 rfl).trans ?_
    refine (zv_gR c152_23 zf9_20).trans (zgR_c fun x2 => ?_)
    refine (zv_in c152_26 rfl).trans ?_
    refine (zv_aI c152_27).trans (zaI_c fun x3 => ?_)
    refine (zv_ifge c152_28).trans (zif_c ?_ ?_)
    · refine (zv_an c152_31 rfl).trans ?_
      refine (zv_gR c152_32 zf9_7).trans (zgR_c fun x4 => ?_)
      refine (zv_in c152_35 rfl).trans ?_
      refine (zv_aI c152_36).trans (zaI_c fun x5 => ?_)
      refine (zv_in c152_37 rfl).trans ?_
      refine (zv_icne c152_38).trans (zif_c ?_ ?_)
      · refine (zv_in c152_41 rfl).trans ?_
        refine (zv_iflt c152_42).trans (zif_c ?_ ?_)
        · refine (zv_in c152_58 rfl).trans ?_
          refine (zv_goto c152_59).trans ?_
          refine (zv_it c152_63 rfl).trans ?_
          refine (zv_inc (y := 1) c152_64 rfl (by decide) rfl).trans ?_
          refine (zv_goto c152_67).trans ?_
          rfl
        · refine (zv_an c152_45 rfl).trans ?_
          refine (zv_in c152_46 rfl).trans ?_
          refine (zv_viI c152_47 zcn_130 rfl zL_130 (Or.inl zrt_130) rfl rfl).trans (zvr_c (zcI_c fun x7 h6 => ?_))
          refine (zv_an c152_50 rfl).trans ?_
          refine (zv_in c152_51 rfl).trans ?_
          refine (zv_viI c152_52 zcn_130 rfl zL_130 (Or.inl zrt_130) rfl rfl).trans (zvr_c (zcI_c fun x9 h8 => ?_))
          refine (zv_icle c152_55).trans (zif_c ?_ ?_)
          · refine (zv_in c152_58 rfl).trans ?_
            refine (zv_goto c152_59).trans ?_
            refine (zv_it c152_63 rfl).trans ?_
            refine (zv_inc (y := 1) c152_64 rfl (by decide) rfl).trans ?_
            refine (zv_goto c152_67).trans ?_
            rfl
          · refine (zv_in c152_62 rfl).trans ?_
            refine (zv_it c152_63 rfl).trans ?_
            refine (zv_inc (y := 1) c152_64 rfl (by decide) rfl).trans ?_
            refine (zv_goto c152_67).trans ?_
            rfl
      · refine (zv_in c152_62 rfl).trans ?_
        refine (zv_it c152_63 rfl).trans ?_
        refine (zv_inc (y := 1) c152_64 rfl (by decide) rfl).trans ?_
        refine (zv_goto c152_67).trans ?_
        rfl
    · rfl
  · rfl
set_option maxRecDepth 100000 in
theorem b152_70 (l0 : Option Nat) (l1 : Int32) (l2 : Int32) (l3 : Int32) (h : zH) : zev 152 70 [some (vR l0), some (vI l1), some (vI l2), some (vI l3)] [] h = (zgR h l0 9 20 fun x1 => (if l2 < 0 then (zgR h l0 9 20 fun x2 => (zaI h x2 l1 fun x3 => (ztI h x1 l1 x3 fun h4 => zev 152 2 [some (vR l0), some (vI (l1 + 1)), some (vI l2), some (vI l3)] [] h4))) else (ztI h x1 l1 l2 fun h5 => zev 152 2 [some (vR l0), some (vI (l1 + 1)), some (vI l2), some (vI l3)] [] h5))) := by
  refine (zv_an c152_70 rfl).trans ?_
  refine (zv_gR c152_71 zf9_20).trans (zgR_c fun x1 => ?_)
  refine (zv_in c152_74 rfl).trans ?_
  refine (zv_in c152_75 rfl).trans ?_
  refine (zv_iflt c152_76).trans (zif_c ?_ ?_)
  · refine (zv_an c152_83 rfl).trans ?_
    refine (zv_gR c152_84 zf9_20).trans (zgR_c fun x2 => ?_)
    refine (zv_in c152_87 rfl).trans ?_
    refine (zv_aI c152_88).trans (zaI_c fun x3 => ?_)
    refine (zv_tI c152_89).trans (ztI_c fun h4 => ?_)
    refine (zv_inc (y := 1) c152_90 rfl (by decide) rfl).trans ?_
    refine (zv_goto c152_93).trans ?_
    rfl
  · refine (zv_in c152_79 rfl).trans ?_
    refine (zv_goto c152_80).trans ?_
    refine (zv_tI c152_89).trans (ztI_c fun h5 => ?_)
    refine (zv_inc (y := 1) c152_90 rfl (by decide) rfl).trans ?_
    refine (zv_goto c152_93).trans ?_
    rfl
theorem c153_0 : zcod 153 0 = some (.aload_n 0, 1, 0, 0, 0, 0) := by decide +kernel
theorem c153_1 : zcod 153 1 = some (.iload_n 1, 1, 0, 0, 0, 0) := by decide +kernel
theorem c153_2 : zcod 153 2 = some (.invokevirtual 182, 3, 129, 1, 990, 0) := by decide +kernel
theorem c153_5 : zcod 153 5 = some (.ifCond .ne 7, 3, 12, 0, 0, 0) := by decide +kernel
theorem c153_8 : zcod 153 8 = some (.sipush (-1001), 3, 0, 0, 0, 0) := by decide +kernel
theorem c153_11 : zcod 153 11 = some (.ireturn, 1, 0, 0, 0, 0) := by decide +kernel
theorem c153_12 : zcod 153 12 = some (.iload_n 2, 1, 0, 0, 0, 0) := by decide +kernel
theorem c153_13 : zcod 153 13 = some (.i2l, 1, 0, 0, 0, 0) := by decide +kernel
theorem c153_14 : zcod 153 14 = some (.lconst 0, 1, 0, 0, 0, 0) := by decide +kernel
theorem c153_15 : zcod 153 15 = some (.aload_n 0, 1, 0, 0, 0, 0) := by decide +kernel
theorem c153_16 : zcod 153 16 = some (.getfield 198, 3, 9, 24, 820, 0) := by decide +kernel
theorem c153_19 : zcod 153 19 = some (.i2l, 1, 0, 0, 0, 0) := by decide +kernel
theorem c153_20 : zcod 153 20 = some (.invokestatic 92, 3, 113, 3, 925, 0) := by decide +kernel
theorem c153_23 : zcod 153 23 = some (.ifCond .ne 7, 3, 30, 0, 0, 0) := by decide +kernel
theorem c153_26 : zcod 153 26 = some (.sipush (-1002), 3, 0, 0, 0, 0) := by decide +kernel
theorem c153_29 : zcod 153 29 = some (.ireturn, 1, 0, 0, 0, 0) := by decide +kernel
theorem c153_30 : zcod 153 30 = some (.iconst (-1), 1, 0, 0, 0, 0) := by decide +kernel
theorem c153_31 : zcod 153 31 = some (.istore_n 3, 1, 0, 0, 0, 0) := by decide +kernel
theorem c153_32 : zcod 153 32 = some (.iconst 0, 1, 0, 0, 0, 0) := by decide +kernel
theorem c153_33 : zcod 153 33 = some (.istore 4, 2, 0, 0, 0, 0) := by decide +kernel
theorem c153_35 : zcod 153 35 = some (.iload 4, 2, 0, 0, 0, 0) := by decide +kernel
theorem c153_37 : zcod 153 37 = some (.aload_n 0, 1, 0, 0, 0, 0) := by decide +kernel
theorem c153_38 : zcod 153 38 = some (.getfield 201, 3, 9, 31, 827, 0) := by decide +kernel
theorem c153_41 : zcod 153 41 = some (.if_icmp .ge 43, 3, 84, 0, 0, 0) := by decide +kernel
theorem c153_44 : zcod 153 44 = some (.aload_n 0, 1, 0, 0, 0, 0) := by decide +kernel
theorem c153_45 : zcod 153 45 = some (.getfield 72, 3, 9, 32, 828, 0) := by decide +kernel
theorem c153_48 : zcod 153 48 = some (.iload 4, 2, 0, 0, 0, 0) := by decide +kernel
theorem c153_50 : zcod 153 50 = some (.iaload, 1, 0, 0, 0, 0) := by decide +kernel
theorem c153_51 : zcod 153 51 = some (.iload_n 1, 1, 0, 0, 0, 0) := by decide +kernel
theorem c153_52 : zcod 153 52 = some (.if_icmp .ne 24, 3, 76, 0, 0, 0) := by decide +kernel
theorem c153_55 : zcod 153 55 = some (.aload_n 0, 1, 0, 0, 0, 0) := by decide +kernel
theorem c153_56 : zcod 153 56 = some (.getfield 75, 3, 9, 33, 829, 0) := by decide +kernel
theorem c153_59 : zcod 153 59 = some (.iload 4, 2, 0, 0, 0, 0) := by decide +kernel
theorem c153_61 : zcod 153 61 = some (.iaload, 1, 0, 0, 0, 0) := by decide +kernel
theorem c153_62 : zcod 153 62 = some (.iload_n 2, 1, 0, 0, 0, 0) := by decide +kernel
theorem c153_63 : zcod 153 63 = some (.if_icmp .gt 13, 3, 76, 0, 0, 0) := by decide +kernel
theorem c153_66 : zcod 153 66 = some (.aload_n 0, 1, 0, 0, 0, 0) := by decide +kernel
theorem c153_67 : zcod 153 67 = some (.getfield 78, 3, 9, 34, 830, 0) := by decide +kernel
theorem c153_70 : zcod 153 70 = some (.iload 4, 2, 0, 0, 0, 0) := by decide +kernel
theorem c153_72 : zcod 153 72 = some (.iaload, 1, 0, 0, 0, 0) := by decide +kernel
theorem c153_73 : zcod 153 73 = some (.goto 4, 3, 77, 0, 0, 0) := by decide +kernel
theorem c153_76 : zcod 153 76 = some (.iload_n 3, 1, 0, 0, 0, 0) := by decide +kernel
theorem c153_77 : zcod 153 77 = some (.istore_n 3, 1, 0, 0, 0, 0) := by decide +kernel
theorem c153_78 : zcod 153 78 = some (.iinc 4 1, 3, 0, 0, 0, 0) := by decide +kernel
theorem c153_81 : zcod 153 81 = some (.goto (-46), 3, 35, 0, 0, 0) := by decide +kernel
theorem c153_84 : zcod 153 84 = some (.iload_n 3, 1, 0, 0, 0, 0) := by decide +kernel
theorem c153_85 : zcod 153 85 = some (.ireturn, 1, 0, 0, 0, 0) := by decide +kernel
set_option maxRecDepth 100000 in
theorem b153_0 (l0 : Option Nat) (l1 : Int32) (l2 : Int32) (h : zH) : zev 153 0 [some (vR l0), some (vI l1), some (vI l2), none, none] [] h = (zvr h l0 9 (zcI 129 [vR l0, vI l1] h fun x2 h1 => (if x2 = 0 then some (some (vI (-1001)), h1) else (zgI h1 l0 9 24 fun x3 => (zcI 113 [vL (Int32.toInt64 l2), vL 0, vL (Int32.toInt64 x3)] h1 fun x5 h4 => (if x5 = 0 then some (some (vI (-1002)), h4) else zev 153 35 [some (vR l0), some (vI l1), some (vI l2), some (vI (-1)), some (vI 0)] [] h4)))))) := by
  refine (zv_an c153_0 rfl).trans ?_
  refine (zv_in c153_1 rfl).trans ?_
  refine (zv_viI c153_2 zcn_129 rfl zL_129 (Or.inr zrt_129) rfl rfl).trans (zvr_c (zcI_c fun x2 h1 => ?_))
  refine (zv_ifne c153_5).trans (zif_c ?_ ?_)
  · refine (zv_si (v := -1001) c153_8 (by decide)).trans ?_
    exact zv_ir c153_11 zrt_153
  · refine (zv_in c153_12 rfl).trans ?_
    refine (zv_i2l c153_13).trans ?_
    refine (zv_lc (v := 0) c153_14 (by decide)).trans ?_
    refine (zv_an c153_15 rfl).trans ?_
    refine (zv_gI c153_16 zg9_24).trans (zgI_c fun x3 => ?_)
    refine (zv_i2l c153_19).trans ?_
    refine (zv_stI c153_20 (by decide) rfl zL_113 (Or.inr zrt_113) rfl rfl).trans (zcI_c fun x5 h4 => ?_)
    refine (zv_ifne c153_23).trans (zif_c ?_ ?_)
    · refine (zv_si (v := -1002) c153_26 (by decide)).trans ?_
      exact zv_ir c153_29 zrt_153
    · refine (zv_k (v := -1) c153_30 (by decide)).trans ?_
      refine (zv_it c153_31 rfl).trans ?_
      refine (zv_k (v := 0) c153_32 (by decide)).trans ?_
      refine (zv_is c153_33 rfl).trans ?_
      rfl
theorem e153 (l0 : Option Nat) (l1 : Int32) (l2 : Int32) (h : zH) : zcall 153 [vR l0, vI l1, vI l2] h = (zvr h l0 9 (zcI 129 [vR l0, vI l1] h fun x2 h1 => (if x2 = 0 then some (some (vI (-1001)), h1) else (zgI h1 l0 9 24 fun x3 => (zcI 113 [vL (Int32.toInt64 l2), vL 0, vL (Int32.toInt64 x3)] h1 fun x5 h4 => (if x5 = 0 then some (some (vI (-1002)), h4) else zev 153 35 [some (vR l0), some (vI l1), some (vI l2), some (vI (-1)), some (vI 0)] [] h4)))))) := by
  refine Eq.trans ?_ (b153_0 l0 l1 l2 h)
  unfold zcall zent
  rw [zL_153]
  rfl
set_option maxRecDepth 100000 in
theorem b153_35 (l0 : Option Nat) (l1 : Int32) (l2 : Int32) (l3 : Int32) (l4 : Int32) (h : zH) : zev 153 35 [some (vR l0), some (vI l1), some (vI l2), some (vI l3), some (vI l4)] [] h = (zgI h l0 9 31 fun x1 => (if l4 < x1 then (zgR h l0 9 32 fun x2 => (zaI h x2 l4 fun x3 => (if x3 = l1 then (zgR h l0 9 33 fun x4 => (zaI h x4 l4 fun x5 => (if l2 < x5 then zev 153 35 [some (vR l0), some (vI l1), some (vI l2), some (vI l3), some (vI (l4 + 1))] [] h else (zgR h l0 9 34 fun x6 => (zaI h x6 l4 fun x7 => zev 153 35 [some (vR l0), some (vI l1), some (vI l2), some (vI x7), some (vI (l4 + 1))] [] h))))) else zev 153 35 [some (vR l0), some (vI l1), some (vI l2), some (vI l3), some (vI (l4 + 1))] [] h))) else some (some (vI l3), h))) := by
  refine (zv_il c153_35 rfl).trans ?_
  refine (zv_an c153_37 rfl).trans ?_
  refine (zv_gI c153_38 zg9_31).trans (zgI_c fun x1 => ?_)
  refine (zv_icge c153_41).trans (zif_c ?_ ?_)
  · refine (zv_an c153_44 rfl).trans ?_
    refine (zv_gR c153_45 zf9_32).trans (zgR_c fun x2 => ?_)
    refine (zv_il c153_48 rfl).trans ?_
    refine (zv_aI c153_50).trans (zaI_c fun x3 => ?_)
    refine (zv_in c153_51 rfl).trans ?_
    refine (zv_icne c153_52).trans (zif_c ?_ ?_)
    · refine (zv_an c153_55 rfl).trans ?_
      refine (zv_gR c153_56 zf9_33).trans (zgR_c fun x4 => ?_)
      refine (zv_il c153_59 rfl).trans ?_
      refine (zv_aI c153_61).trans (zaI_c fun x5 => ?_)
      refine (zv_in c153_62 rfl).trans ?_
      refine (zv_icgt c153_63).trans (zif_c ?_ ?_)
      · refine (zv_in c153_76 rfl).trans ?_
        refine (zv_it c153_77 rfl).trans ?_
        refine (zv_inc (y := 1) c153_78 rfl (by decide) rfl).trans ?_
        refine (zv_goto c153_81).trans ?_
        rfl
      · refine (zv_an c153_66 rfl).trans ?_
        refine (zv_gR c153_67 zf9_34).trans (zgR_c fun x6 => ?_)
        refine (zv_il c153_70 rfl).trans ?_
        refine (zv_aI c153_72).trans (zaI_c fun x7 => ?_)
        refine (zv_goto c153_73).trans ?_
        refine (zv_it c153_77 rfl).trans ?_
        refine (zv_inc (y := 1) c153_78 rfl (by decide) rfl).trans ?_
        refine (zv_goto c153_81).trans ?_
        rfl
    · refine (zv_in c153_76 rfl).trans ?_
      refine (zv_it c153_77 rfl).trans ?_
      refine (zv_inc (y := 1) c153_78 rfl (by decide) rfl).trans ?_
      refine (zv_goto c153_81).trans ?_
      rfl
  · refine (zv_in c153_84 rfl).trans ?_
    exact zv_ir c153_85 zrt_153
theorem c154_0 : zcod 154 0 = some (.aload_n 0, 1, 0, 0, 0, 0) := by decide +kernel
theorem c154_1 : zcod 154 1 = some (.iload_n 1, 1, 0, 0, 0, 0) := by decide +kernel
theorem c154_2 : zcod 154 2 = some (.invokevirtual 193, 3, 140, 1, 1034, 0) := by decide +kernel
theorem c154_5 : zcod 154 5 = some (.ifCond .ne 7, 3, 12, 0, 0, 0) := by decide +kernel
theorem c154_8 : zcod 154 8 = some (.sipush (-1001), 3, 0, 0, 0, 0) := by decide +kernel
theorem c154_11 : zcod 154 11 = some (.ireturn, 1, 0, 0, 0, 0) := by decide +kernel
theorem c154_12 : zcod 154 12 = some (.iconst 0, 1, 0, 0, 0, 0) := by decide +kernel
theorem c154_13 : zcod 154 13 = some (.istore_n 3, 1, 0, 0, 0, 0) := by decide +kernel
theorem c154_14 : zcod 154 14 = some (.iconst 0, 1, 0, 0, 0, 0) := by decide +kernel
theorem c154_15 : zcod 154 15 = some (.istore 4, 2, 0, 0, 0, 0) := by decide +kernel
theorem c154_17 : zcod 154 17 = some (.iload 4, 2, 0, 0, 0, 0) := by decide +kernel
theorem c154_19 : zcod 154 19 = some (.aload_n 0, 1, 0, 0, 0, 0) := by decide +kernel
theorem c154_20 : zcod 154 20 = some (.getfield 142, 3, 9, 5, 801, 0) := by decide +kernel
theorem c154_23 : zcod 154 23 = some (.if_icmp .ge 33, 3, 56, 0, 0, 0) := by decide +kernel
theorem c154_26 : zcod 154 26 = some (.iload_n 3, 1, 0, 0, 0, 0) := by decide +kernel
theorem c154_27 : zcod 154 27 = some (.aload_n 0, 1, 0, 0, 0, 0) := by decide +kernel
theorem c154_28 : zcod 154 28 = some (.getfield 26, 3, 9, 7, 803, 0) := by decide +kernel
theorem c154_31 : zcod 154 31 = some (.iload 4, 2, 0, 0, 0, 0) := by decide +kernel
theorem c154_33 : zcod 154 33 = some (.iaload, 1, 0, 0, 0, 0) := by decide +kernel
theorem c154_34 : zcod 154 34 = some (.iload_n 1, 1, 0, 0, 0, 0) := by decide +kernel
theorem c154_35 : zcod 154 35 = some (.if_icmp .ne 12, 3, 47, 0, 0, 0) := by decide +kernel
theorem c154_38 : zcod 154 38 = some (.aload_n 0, 1, 0, 0, 0, 0) := by decide +kernel
theorem c154_39 : zcod 154 39 = some (.iload 4, 2, 0, 0, 0, 0) := by decide +kernel
theorem c154_41 : zcod 154 41 = some (.invokevirtual 188, 3, 135, 1, 1013, 0) := by decide +kernel
theorem c154_44 : zcod 154 44 = some (.goto 4, 3, 48, 0, 0, 0) := by decide +kernel
theorem c154_47 : zcod 154 47 = some (.iconst 0, 1, 0, 0, 0, 0) := by decide +kernel
theorem c154_48 : zcod 154 48 = some (.iadd, 1, 0, 0, 0, 0) := by decide +kernel
theorem c154_49 : zcod 154 49 = some (.istore_n 3, 1, 0, 0, 0, 0) := by decide +kernel
theorem c154_50 : zcod 154 50 = some (.iinc 4 1, 3, 0, 0, 0, 0) := by decide +kernel
theorem c154_53 : zcod 154 53 = some (.goto (-36), 3, 17, 0, 0, 0) := by decide +kernel
theorem c154_56 : zcod 154 56 = some (.iload_n 2, 1, 0, 0, 0, 0) := by decide +kernel
theorem c154_57 : zcod 154 57 = some (.tableswitch 53 0 3 #[31, 38, 44, 51], 31, 0, 0, 0, 0) := by decide +kernel
theorem c154_88 : zcod 154 88 = some (.aload_n 0, 1, 0, 0, 0, 0) := by decide +kernel
theorem c154_89 : zcod 154 89 = some (.getfield 57, 3, 9, 19, 815, 0) := by decide +kernel
theorem c154_92 : zcod 154 92 = some (.iload_n 1, 1, 0, 0, 0, 0) := by decide +kernel
theorem c154_93 : zcod 154 93 = some (.iaload, 1, 0, 0, 0, 0) := by decide +kernel
theorem c154_94 : zcod 154 94 = some (.ireturn, 1, 0, 0, 0, 0) := by decide +kernel
theorem c154_95 : zcod 154 95 = some (.aload_n 0, 1, 0, 0, 0, 0) := by decide +kernel
theorem c154_96 : zcod 154 96 = some (.iload_n 1, 1, 0, 0, 0, 0) := by decide +kernel
theorem c154_97 : zcod 154 97 = some (.invokevirtual 245, 3, 155, 1, 1098, 0) := by decide +kernel
theorem c154_100 : zcod 154 100 = some (.ireturn, 1, 0, 0, 0, 0) := by decide +kernel
theorem c154_101 : zcod 154 101 = some (.aload_n 0, 1, 0, 0, 0, 0) := by decide +kernel
theorem c154_102 : zcod 154 102 = some (.getfield 60, 3, 9, 20, 816, 0) := by decide +kernel
theorem c154_105 : zcod 154 105 = some (.iload_n 1, 1, 0, 0, 0, 0) := by decide +kernel
theorem c154_106 : zcod 154 106 = some (.iaload, 1, 0, 0, 0, 0) := by decide +kernel
theorem c154_107 : zcod 154 107 = some (.ireturn, 1, 0, 0, 0, 0) := by decide +kernel
theorem c154_108 : zcod 154 108 = some (.iload_n 3, 1, 0, 0, 0, 0) := by decide +kernel
theorem c154_109 : zcod 154 109 = some (.ireturn, 1, 0, 0, 0, 0) := by decide +kernel
theorem c154_110 : zcod 154 110 = some (.sipush (-1002), 3, 0, 0, 0, 0) := by decide +kernel
theorem c154_113 : zcod 154 113 = some (.ireturn, 1, 0, 0, 0, 0) := by decide +kernel
set_option maxRecDepth 100000 in
theorem b154_0 (l0 : Option Nat) (l1 : Int32) (l2 : Int32) (h : zH) : zev 154 0 [some (vR l0), some (vI l1), some (vI l2), none, none] [] h = (zvr h l0 9 (zcI 140 [vR l0, vI l1] h fun x2 h1 => (if x2 = 0 then some (some (vI (-1001)), h1) else zev 154 17 [some (vR l0), some (vI l1), some (vI l2), some (vI 0), some (vI 0)] [] h1))) := by
  refine (zv_an c154_0 rfl).trans ?_
  refine (zv_in c154_1 rfl).trans ?_
  refine (zv_viI c154_2 zcn_140 rfl zL_140 (Or.inr zrt_140) rfl rfl).trans (zvr_c (zcI_c fun x2 h1 => ?_))
  refine (zv_ifne c154_5).trans (zif_c ?_ ?_)
  · refine (zv_si (v := -1001) c154_8 (by decide)).trans ?_
    exact zv_ir c154_11 zrt_154
  · refine (zv_k (v := 0) c154_12 (by decide)).trans ?_
    refine (zv_it c154_13 rfl).trans ?_
    refine (zv_k (v := 0) c154_14 (by decide)).trans ?_
    refine (zv_is c154_15 rfl).trans ?_
    rfl
theorem e154 (l0 : Option Nat) (l1 : Int32) (l2 : Int32) (h : zH) : zcall 154 [vR l0, vI l1, vI l2] h = (zvr h l0 9 (zcI 140 [vR l0, vI l1] h fun x2 h1 => (if x2 = 0 then some (some (vI (-1001)), h1) else zev 154 17 [some (vR l0), some (vI l1), some (vI l2), some (vI 0), some (vI 0)] [] h1))) := by
  refine Eq.trans ?_ (b154_0 l0 l1 l2 h)
  unfold zcall zent
  rw [zL_154]
  rfl
set_option maxRecDepth 100000 in
theorem b154_17 (l0 : Option Nat) (l1 : Int32) (l2 : Int32) (l3 : Int32) (l4 : Int32) (h : zH) : zev 154 17 [some (vR l0), some (vI l1), some (vI l2), some (vI l3), some (vI l4)] [] h = (zgI h l0 9 5 fun x1 => (if l4 < x1 then (zgR h l0 9 7 fun x2 => (zaI h x2 l4 fun x3 => (if x3 = l1 then (zvr h l0 9 (zcI 135 [vR l0, vI l4] h fun x5 h4 => zev 154 17 [some (vR l0), some (vI l1), some (vI l2), some (vI (l3 + x5)), some (vI (l4 + 1))] [] h4)) else zev 154 17 [some (vR l0), some (vI l1), some (vI l2), some (vI (l3 + 0)), some (vI (l4 + 1))] [] h))) else (if l2 = 0 then (zgR h l0 9 19 fun x6 => (zaI h x6 l1 fun x7 => some (some (vI x7), h))) else (if l2 = 1 then (zvr h l0 9 (zcI 155 [vR l0, vI l1] h fun x9 h8 => some (some (vI x9), h8))) else (if l2 = 2 then (zgR h l0 9 20 fun x10 => (zaI h x10 l1 fun x11 => some (some (vI x11), h))) else (if l2 = 3 then some (some (vI l3), h) else some (some (vI (-1002)), h))))))) := by
  refine (zv_il c154_17 rfl).trans ?_
  refine (zv_an c154_19 rfl).trans ?_
  refine (zv_gI c154_20 zg9_5).trans (zgI_c fun x1 => ?_)
  refine (zv_icge c154_23).trans (zif_c ?_ ?_)
  · refine (zv_in c154_26 rfl).trans ?_
    refine (zv_an c154_27 rfl).trans ?_
    refine (zv_gR c154_28 zf9_7).trans (zgR_c fun x2 => ?_)
    refine (zv_il c154_31 rfl).trans ?_
    refine (zv_aI c154_33).trans (zaI_c fun x3 => ?_)
    refine (zv_in c154_34 rfl).trans ?_
    refine (zv_icne c154_35).trans (zif_c ?_ ?_)
    · refine (zv_an c154_38 rfl).trans ?_
      refine (zv_il c154_39 rfl).trans ?_
      refine (zv_viI c154_41 zcn_135 rfl zL_135 (Or.inl zrt_135) rfl rfl).trans (zvr_c (zcI_c fun x5 h4 => ?_))
      refine (zv_goto c154_44).trans ?_
      refine (zv_iadd c154_48).trans ?_
      refine (zv_it c154_49 rfl).trans ?_
      refine (zv_inc (y := 1) c154_50 rfl (by decide) rfl).trans ?_
      refine (zv_goto c154_53).trans ?_
      rfl
    · refine (zv_k (v := 0) c154_47 (by decide)).trans ?_
      refine (zv_iadd c154_48).trans ?_
      refine (zv_it c154_49 rfl).trans ?_
      refine (zv_inc (y := 1) c154_50 rfl (by decide) rfl).trans ?_
      refine (zv_goto c154_53).trans ?_
      rfl
  · refine (zv_in c154_56 rfl).trans ?_
    refine (zv_ts c154_57 (dt := 110) (T := [88, 95, 101, 108]) (by decide) (by decide) (by decide) (by decide)).trans ?_
    refine (zsl_k (v := 0) (by decide)).trans (zif_c ?_ ?_)
    · refine (zv_an c154_88 rfl).trans ?_
      refine (zv_gR c154_89 zf9_19).trans (zgR_c fun x6 => ?_)
      refine (zv_in c154_92 rfl).trans ?_
      refine (zv_aI c154_93).trans (zaI_c fun x7 => ?_)
      exact zv_ir c154_94 zrt_154
    · refine (zsl_k (v := 1) (by decide)).trans (zif_c ?_ ?_)
      · refine (zv_an c154_95 rfl).trans ?_
        refine (zv_in c154_96 rfl).trans ?_
        refine (zv_viI c154_97 zcn_155 rfl zL_155 (Or.inl zrt_155) rfl rfl).trans (zvr_c (zcI_c fun x9 h8 => ?_))
        exact zv_ir c154_100 zrt_154
      · refine (zsl_k (v := 2) (by decide)).trans (zif_c ?_ ?_)
        · refine (zv_an c154_101 rfl).trans ?_
          refine (zv_gR c154_102 zf9_20).trans (zgR_c fun x10 => ?_)
          refine (zv_in c154_105 rfl).trans ?_
          refine (zv_aI c154_106).trans (zaI_c fun x11 => ?_)
          exact zv_ir c154_107 zrt_154
        · refine (zsl_k (v := 3) (by decide)).trans (zif_c ?_ ?_)
          · refine (zv_in c154_108 rfl).trans ?_
            exact zv_ir c154_109 zrt_154
          · refine zsl_n.trans ?_
            refine (zv_si (v := -1002) c154_110 (by decide)).trans ?_
            exact zv_ir c154_113 zrt_154
theorem c155_0 : zcod 155 0 = some (.iconst 0, 1, 0, 0, 0, 0) := by decide +kernel
theorem c155_1 : zcod 155 1 = some (.istore_n 2, 1, 0, 0, 0, 0) := by decide +kernel
theorem c155_2 : zcod 155 2 = some (.iconst 0, 1, 0, 0, 0, 0) := by decide +kernel
theorem c155_3 : zcod 155 3 = some (.istore_n 3, 1, 0, 0, 0, 0) := by decide +kernel
theorem c155_4 : zcod 155 4 = some (.iload_n 3, 1, 0, 0, 0, 0) := by decide +kernel
theorem c155_5 : zcod 155 5 = some (.aload_n 0, 1, 0, 0, 0, 0) := by decide +kernel
theorem c155_6 : zcod 155 6 = some (.getfield 142, 3, 9, 5, 801, 0) := by decide +kernel
theorem c155_9 : zcod 155 9 = some (.if_icmp .ge 27, 3, 36, 0, 0, 0) := by decide +kernel
theorem c155_12 : zcod 155 12 = some (.iload_n 2, 1, 0, 0, 0, 0) := by decide +kernel
theorem c155_13 : zcod 155 13 = some (.aload_n 0, 1, 0, 0, 0, 0) := by decide +kernel
theorem c155_14 : zcod 155 14 = some (.getfield 26, 3, 9, 7, 803, 0) := by decide +kernel
theorem c155_17 : zcod 155 17 = some (.iload_n 3, 1, 0, 0, 0, 0) := by decide +kernel
theorem c155_18 : zcod 155 18 = some (.iaload, 1, 0, 0, 0, 0) := by decide +kernel
theorem c155_19 : zcod 155 19 = some (.iload_n 1, 1, 0, 0, 0, 0) := by decide +kernel
theorem c155_20 : zcod 155 20 = some (.if_icmp .ne 7, 3, 27, 0, 0, 0) := by decide +kernel
theorem c155_23 : zcod 155 23 = some (.iconst 1, 1, 0, 0, 0, 0) := by decide +kernel
theorem c155_24 : zcod 155 24 = some (.goto 4, 3, 28, 0, 0, 0) := by decide +kernel
theorem c155_27 : zcod 155 27 = some (.iconst 0, 1, 0, 0, 0, 0) := by decide +kernel
theorem c155_28 : zcod 155 28 = some (.iadd, 1, 0, 0, 0, 0) := by decide +kernel
theorem c155_29 : zcod 155 29 = some (.istore_n 2, 1, 0, 0, 0, 0) := by decide +kernel
theorem c155_30 : zcod 155 30 = some (.iinc 3 1, 3, 0, 0, 0, 0) := by decide +kernel
theorem c155_33 : zcod 155 33 = some (.goto (-29), 3, 4, 0, 0, 0) := by decide +kernel
theorem c155_36 : zcod 155 36 = some (.iload_n 2, 1, 0, 0, 0, 0) := by decide +kernel
theorem c155_37 : zcod 155 37 = some (.ireturn, 1, 0, 0, 0, 0) := by decide +kernel
set_option maxRecDepth 100000 in
theorem b155_0 (l0 : Option Nat) (l1 : Int32) (h : zH) : zev 155 0 [some (vR l0), some (vI l1), none, none] [] h = zev 155 4 [some (vR l0), some (vI l1), some (vI 0), some (vI 0)] [] h := by
  refine (zv_k (v := 0) c155_0 (by decide)).trans ?_
  refine (zv_it c155_1 rfl).trans ?_
  refine (zv_k (v := 0) c155_2 (by decide)).trans ?_
  refine (zv_it c155_3 rfl).trans ?_
  rfl
theorem e155 (l0 : Option Nat) (l1 : Int32) (h : zH) : zcall 155 [vR l0, vI l1] h = zev 155 4 [some (vR l0), some (vI l1), some (vI 0), some (vI 0)] [] h := by
  refine Eq.trans ?_ (b155_0 l0 l1 h)
  unfold zcall zent
  rw [zL_155]
  rfl
set_option maxRecDepth 100000 in
theorem b155_4 (l0 : Option Nat) (l1 : Int32) (l2 : Int32) (l3 : Int32) (h : zH) : zev 155 4 [some (vR l0), some (vI l1), some (vI l2), some (vI l3)] [] h = (zgI h l0 9 5 fun x1 => (if l3 < x1 then (zgR h l0 9 7 fun x2 => (zaI h x2 l3 fun x3 => (if x3 = l1 then zev 155 4 [some (vR l0), some (vI l1), some (vI (l2 + 1)), some (vI (l3 + 1))] [] h else zev 155 4 [some (vR l0), some (vI l1), some (vI (l2 + 0)), some (vI (l3 + 1))] [] h))) else some (some (vI l2), h))) := by
  refine (zv_in c155_4 rfl).trans ?_
  refine (zv_an c155_5 rfl).trans ?_
  refine (zv_gI c155_6 zg9_5).trans (zgI_c fun x1 => ?_)
  refine (zv_icge c155_9).trans (zif_c ?_ ?_)
  · refine (zv_in c155_12 rfl).trans ?_
    refine (zv_an c155_13 rfl).trans ?_
    refine (zv_gR c155_14 zf9_7).trans (zgR_c fun x2 => ?_)
    refine (zv_in c155_17 rfl).trans ?_
    refine (zv_aI c155_18).trans (zaI_c fun x3 => ?_)
    refine (zv_in c155_19 rfl).trans ?_
    refine (zv_icne c155_20).trans (zif_c ?_ ?_)
    · refine (zv_k (v := 1) c155_23 (by decide)).trans ?_
      refine (zv_goto c155_24).trans ?_
      refine (zv_iadd c155_28).trans ?_
      refine (zv_it c155_29 rfl).trans ?_
      refine (zv_inc (y := 1) c155_30 rfl (by decide) rfl).trans ?_
      refine (zv_goto c155_33).trans ?_
      rfl
    · refine (zv_k (v := 0) c155_27 (by decide)).trans ?_
      refine (zv_iadd c155_28).trans ?_
      refine (zv_it c155_29 rfl).trans ?_
      refine (zv_inc (y := 1) c155_30 rfl (by decide) rfl).trans ?_
      refine (zv_goto c155_33).trans ?_
      rfl
  · refine (zv_in c155_36 rfl).trans ?_
    exact zv_ir c155_37 zrt_155
theorem c156_0 : zcod 156 0 = some (.iconst 0, 1, 0, 0, 0, 0) := by decide +kernel
theorem c156_1 : zcod 156 1 = some (.istore_n 2, 1, 0, 0, 0, 0) := by decide +kernel
theorem c156_2 : zcod 156 2 = some (.iconst 0, 1, 0, 0, 0, 0) := by decide +kernel
theorem c156_3 : zcod 156 3 = some (.istore_n 3, 1, 0, 0, 0, 0) := by decide +kernel
theorem c156_4 : zcod 156 4 = some (.iload_n 3, 1, 0, 0, 0, 0) := by decide +kernel
theorem c156_5 : zcod 156 5 = some (.aload_n 0, 1, 0, 0, 0, 0) := by decide +kernel
theorem c156_6 : zcod 156 6 = some (.getfield 142, 3, 9, 5, 801, 0) := by decide +kernel
theorem c156_9 : zcod 156 9 = some (.if_icmp .ge 18, 3, 27, 0, 0, 0) := by decide +kernel
theorem c156_12 : zcod 156 12 = some (.iload_n 2, 1, 0, 0, 0, 0) := by decide +kernel
theorem c156_13 : zcod 156 13 = some (.aload_n 0, 1, 0, 0, 0, 0) := by decide +kernel
theorem c156_14 : zcod 156 14 = some (.getfield 23, 3, 9, 6, 802, 0) := by decide +kernel
theorem c156_17 : zcod 156 17 = some (.iload_n 3, 1, 0, 0, 0, 0) := by decide +kernel
theorem c156_18 : zcod 156 18 = some (.iaload, 1, 0, 0, 0, 0) := by decide +kernel
theorem c156_19 : zcod 156 19 = some (.iadd, 1, 0, 0, 0, 0) := by decide +kernel
theorem c156_20 : zcod 156 20 = some (.istore_n 2, 1, 0, 0, 0, 0) := by decide +kernel
theorem c156_21 : zcod 156 21 = some (.iinc 3 1, 3, 0, 0, 0, 0) := by decide +kernel
theorem c156_24 : zcod 156 24 = some (.goto (-20), 3, 4, 0, 0, 0) := by decide +kernel
theorem c156_27 : zcod 156 27 = some (.iload_n 1, 1, 0, 0, 0, 0) := by decide +kernel
theorem c156_28 : zcod 156 28 = some (.tableswitch 140 0 13 #[72, 77, 82, 87, 92, 97, 103, 108, 113, 118, 123, 128, 133, 135], 72, 0, 0, 0, 0) := by decide +kernel
theorem c156_100 : zcod 156 100 = some (.aload_n 0, 1, 0, 0, 0, 0) := by decide +kernel
theorem c156_101 : zcod 156 101 = some (.getfield 142, 3, 9, 5, 801, 0) := by decide +kernel
theorem c156_104 : zcod 156 104 = some (.ireturn, 1, 0, 0, 0, 0) := by decide +kernel
theorem c156_105 : zcod 156 105 = some (.aload_n 0, 1, 0, 0, 0, 0) := by decide +kernel
theorem c156_106 : zcod 156 106 = some (.getfield 145, 3, 9, 16, 812, 0) := by decide +kernel
theorem c156_109 : zcod 156 109 = some (.ireturn, 1, 0, 0, 0, 0) := by decide +kernel
theorem c156_110 : zcod 156 110 = some (.aload_n 0, 1, 0, 0, 0, 0) := by decide +kernel
theorem c156_111 : zcod 156 111 = some (.getfield 163, 3, 9, 18, 814, 0) := by decide +kernel
theorem c156_114 : zcod 156 114 = some (.ireturn, 1, 0, 0, 0, 0) := by decide +kernel
theorem c156_115 : zcod 156 115 = some (.aload_n 0, 1, 0, 0, 0, 0) := by decide +kernel
theorem c156_116 : zcod 156 116 = some (.getfield 198, 3, 9, 24, 820, 0) := by decide +kernel
theorem c156_119 : zcod 156 119 = some (.ireturn, 1, 0, 0, 0, 0) := by decide +kernel
theorem c156_120 : zcod 156 120 = some (.aload_n 0, 1, 0, 0, 0, 0) := by decide +kernel
theorem c156_121 : zcod 156 121 = some (.invokevirtual 248, 3, 157, 0, 1106, 0) := by decide +kernel
theorem c156_124 : zcod 156 124 = some (.ireturn, 1, 0, 0, 0, 0) := by decide +kernel
theorem c156_125 : zcod 156 125 = some (.aload_n 0, 1, 0, 0, 0, 0) := by decide +kernel
theorem c156_126 : zcod 156 126 = some (.iconst (-1), 1, 0, 0, 0, 0) := by decide +kernel
theorem c156_127 : zcod 156 127 = some (.invokevirtual 245, 3, 155, 1, 1098, 0) := by decide +kernel
theorem c156_130 : zcod 156 130 = some (.ireturn, 1, 0, 0, 0, 0) := by decide +kernel
theorem c156_131 : zcod 156 131 = some (.aload_n 0, 1, 0, 0, 0, 0) := by decide +kernel
theorem c156_132 : zcod 156 132 = some (.getfield 222, 3, 9, 27, 823, 0) := by decide +kernel
theorem c156_135 : zcod 156 135 = some (.ireturn, 1, 0, 0, 0, 0) := by decide +kernel
theorem c156_136 : zcod 156 136 = some (.aload_n 0, 1, 0, 0, 0, 0) := by decide +kernel
theorem c156_137 : zcod 156 137 = some (.getfield 228, 3, 9, 28, 824, 0) := by decide +kernel
theorem c156_140 : zcod 156 140 = some (.ireturn, 1, 0, 0, 0, 0) := by decide +kernel
theorem c156_141 : zcod 156 141 = some (.aload_n 0, 1, 0, 0, 0, 0) := by decide +kernel
theorem c156_142 : zcod 156 142 = some (.getfield 208, 3, 9, 29, 825, 0) := by decide +kernel
theorem c156_145 : zcod 156 145 = some (.ireturn, 1, 0, 0, 0, 0) := by decide +kernel
theorem c156_146 : zcod 156 146 = some (.aload_n 0, 1, 0, 0, 0, 0) := by decide +kernel
theorem c156_147 : zcod 156 147 = some (.getfield 225, 3, 9, 30, 826, 0) := by decide +kernel
theorem c156_150 : zcod 156 150 = some (.ireturn, 1, 0, 0, 0, 0) := by decide +kernel
theorem c156_151 : zcod 156 151 = some (.aload_n 0, 1, 0, 0, 0, 0) := by decide +kernel
theorem c156_152 : zcod 156 152 = some (.getfield 96, 3, 9, 1, 797, 0) := by decide +kernel
theorem c156_155 : zcod 156 155 = some (.ireturn, 1, 0, 0, 0, 0) := by decide +kernel
theorem c156_156 : zcod 156 156 = some (.aload_n 0, 1, 0, 0, 0, 0) := by decide +kernel
theorem c156_157 : zcod 156 157 = some (.getfield 201, 3, 9, 31, 827, 0) := by decide +kernel
theorem c156_160 : zcod 156 160 = some (.ireturn, 1, 0, 0, 0, 0) := by decide +kernel
theorem c156_161 : zcod 156 161 = some (.iload_n 2, 1, 0, 0, 0, 0) := by decide +kernel
theorem c156_162 : zcod 156 162 = some (.ireturn, 1, 0, 0, 0, 0) := by decide +kernel
theorem c156_163 : zcod 156 163 = some (.aload_n 0, 1, 0, 0, 0, 0) := by decide +kernel
theorem c156_164 : zcod 156 164 = some (.getfield 170, 3, 9, 25, 821, 0) := by decide +kernel
theorem c156_167 : zcod 156 167 = some (.ireturn, 1, 0, 0, 0, 0) := by decide +kernel
theorem c156_168 : zcod 156 168 = some (.sipush (-1002), 3, 0, 0, 0, 0) := by decide +kernel
theorem c156_171 : zcod 156 171 = some (.ireturn, 1, 0, 0, 0, 0) := by decide +kernel
set_option maxRecDepth 100000 in
theorem b156_0 (l0 : Option Nat) (l1 : Int32) (h : zH) : zev 156 0 [some (vR l0), some (vI l1), none, none] [] h = zev 156 4 [some (vR l0), some (vI l1), some (vI 0), some (vI 0)] [] h := by
  refine (zv_k (v := 0) c156_0 (by decide)).trans ?_
  refine (zv_it c156_1 rfl).trans ?_
  refine (zv_k (v := 0) c156_2 (by decide)).trans ?_
  refine (zv_it c156_3 rfl).trans ?_
  rfl
theorem e156 (l0 : Option Nat) (l1 : Int32) (h : zH) : zcall 156 [vR l0, vI l1] h = zev 156 4 [some (vR l0), some (vI l1), some (vI 0), some (vI 0)] [] h := by
  refine Eq.trans ?_ (b156_0 l0 l1 h)
  unfold zcall zent
  rw [zL_156]
  rfl
set_option maxRecDepth 100000 in
theorem b156_4 (l0 : Option Nat) (l1 : Int32) (l2 : Int32) (l3 : Int32) (h : zH) : zev 156 4 [some (vR l0), some (vI l1), some (vI l2), some (vI l3)] [] h = (zgI h l0 9 5 fun x1 => (if l3 < x1 then (zgR h l0 9 6 fun x2 => (zaI h x2 l3 fun x3 => zev 156 4 [some (vR l0), some (vI l1), some (vI (l2 + x3)), some (vI (l3 + 1))] [] h)) else (if l1 = 0 then (zgI h l0 9 5 fun x4 => some (some (vI x4), h)) else (if l1 = 1 then (zgI h l0 9 16 fun x5 => some (some (vI x5), h)) else (if l1 = 2 then (zgI h l0 9 18 fun x6 => some (some (vI x6), h)) else (if l1 = 3 then (zgI h l0 9 24 fun x7 => some (some (vI x7), h)) else (if l1 = 4 then (zvr h l0 9 (zcI 157 [vR l0] h fun x9 h8 => some (some (vI x9), h8))) else (if l1 = 5 then (zvr h l0 9 (zcI 155 [vR l0, vI (-1)] h fun x11 h10 => some (some (vI x11), h10))) else (if l1 = 6 then (zgI h l0 9 27 fun x12 => some (some (vI x12), h)) else (if l1 = 7 then (zgI h l0 9 28 fun x13 => some (some (vI x13), h)) else (if l1 = 8 then (zgI h l0 9 29 fun x14 => some (some (vI x14), h)) else (if l1 = 9 then (zgI h l0 9 30 fun x15 => some (some (vI x15), h)) else (if l1 = 10 then (zgI h l0 9 1 fun x16 => some (some (vI x16), h)) else (if l1 = 11 then (zgI h l0 9 31 fun x17 => some (some (vI x17), h)) else (if l1 = 12 then some (some (vI l2), h) else (if l1 = 13 then (zgI h l0 9 25 fun x18 => some (some (vI x18), h)) else some (some (vI (-1002)), h))))))))))))))))) := by
  refine (zv_in c156_4 rfl).trans ?_
  refine (zv_an c156_5 rfl).trans ?_
  refine (zv_gI c156_6 zg9_5).trans (zgI_c fun x1 => ?_)
  refine (zv_icge c156_9).trans (zif_c ?_ ?_)
  · refine (zv_in c156_12 rfl).trans ?_
    refine (zv_an c156_13 rfl).trans ?_
    refine (zv_gR c156_14 zf9_6).trans (zgR_c fun x2 => ?_)
    refine (zv_in c156_17 rfl).trans ?_
    refine (zv_aI c156_18).trans (zaI_c fun x3 => ?_)
    refine (zv_iadd c156_19).trans ?_
    refine (zv_it c156_20 rfl).trans ?_
    refine (zv_inc (y := 1) c156_21 rfl (by decide) rfl).trans ?_
    refine (zv_goto c156_24).trans ?_
    rfl
  · refine (zv_in c156_27 rfl).trans ?_
    refine (zv_ts c156_28 (dt := 168) (T := [100, 105, 110, 115, 120, 125, 131, 136, 141, 146, 151, 156, 161, 163]) (by decide) (by decide) (by decide) (by decide)).trans ?_
    refine (zsl_k (v := 0) (by decide)).trans (zif_c ?_ ?_)
    · refine (zv_an c156_100 rfl).trans ?_
      refine (zv_gI c156_101 zg9_5).trans (zgI_c fun x4 => ?_)
      exact zv_ir c156_104 zrt_156
    · refine (zsl_k (v := 1) (by decide)).trans (zif_c ?_ ?_)
      · refine (zv_an c156_105 rfl).trans ?_
        refine (zv_gI c156_106 zg9_16).trans (zgI_c fun x5 => ?_)
        exact zv_ir c156_109 zrt_156
      · refine (zsl_k (v := 2) (by decide)).trans (zif_c ?_ ?_)
        · refine (zv_an c156_110 rfl).trans ?_
          refine (zv_gI c156_111 zg9_18).trans (zgI_c fun x6 => ?_)
          exact zv_ir c156_114 zrt_156
        · refine (zsl_k (v := 3) (by decide)).trans (zif_c ?_ ?_)
          · refine (zv_an c156_115 rfl).trans ?_
            refine (zv_gI c156_116 zg9_24).trans (zgI_c fun x7 => ?_)
            exact zv_ir c156_119 zrt_156
          · refine (zsl_k (v := 4) (by decide)).trans (zif_c ?_ ?_)
            · refine (zv_an c156_120 rfl).trans ?_
              refine (zv_viI c156_121 zcn_157 rfl zL_157 (Or.inl zrt_157) rfl rfl).trans (zvr_c (zcI_c fun x9 h8 => ?_))
              exact zv_ir c156_124 zrt_156
            · refine (zsl_k (v := 5) (by decide)).trans (zif_c ?_ ?_)
              · refine (zv_an c156_125 rfl).trans ?_
                refine (zv_k (v := -1) c156_126 (by decide)).trans ?_
                refine (zv_viI c156_127 zcn_155 rfl zL_155 (Or.inl zrt_155) rfl rfl).trans (zvr_c (zcI_c fun x11 h10 => ?_))
                exact zv_ir c156_130 zrt_156
              · refine (zsl_k (v := 6) (by decide)).trans (zif_c ?_ ?_)
                · refine (zv_an c156_131 rfl).trans ?_
                  refine (zv_gI c156_132 zg9_27).trans (zgI_c fun x12 => ?_)
                  exact zv_ir c156_135 zrt_156
                · refine (zsl_k (v := 7) (by decide)).trans (zif_c ?_ ?_)
                  · refine (zv_an c156_136 rfl).trans ?_
                    refine (zv_gI c156_137 zg9_28).trans (zgI_c fun x13 => ?_)
                    exact zv_ir c156_140 zrt_156
                  · refine (zsl_k (v := 8) (by decide)).trans (zif_c ?_ ?_)
                    · refine (zv_an c156_141 rfl).trans ?_
                      refine (zv_gI c156_142 zg9_29).trans (zgI_c fun x14 => ?_)
                      exact zv_ir c156_145 zrt_156
                    · refine (zsl_k (v := 9) (by decide)).trans (zif_c ?_ ?_)
                      · refine (zv_an c156_146 rfl).trans ?_
                        refine (zv_gI c156_147 zg9_30).trans (zgI_c fun x15 => ?_)
                        exact zv_ir c156_150 zrt_156
                      · refine (zsl_k (v := 10) (by decide)).trans (zif_c ?_ ?_)
                        · refine (zv_an c156_151 rfl).trans ?_
                          refine (zv_gI c156_152 zg9_1).trans (zgI_c fun x16 => ?_)
                          exact zv_ir c156_155 zrt_156
                        · refine (zsl_k (v := 11) (by decide)).trans (zif_c ?_ ?_)
                          · refine (zv_an c156_156 rfl).trans ?_
                            refine (zv_gI c156_157 zg9_31).trans (zgI_c fun x17 => ?_)
                            exact zv_ir c156_160 zrt_156
                          · refine (zsl_k (v := 12) (by decide)).trans (zif_c ?_ ?_)
                            · refine (zv_in c156_161 rfl).trans ?_
                              exact zv_ir c156_162 zrt_156
                            · refine (zsl_k (v := 13) (by decide)).trans (zif_c ?_ ?_)
                              · refine (zv_an c156_163 rfl).trans ?_
                                refine (zv_gI c156_164 zg9_25).trans (zgI_c fun x18 => ?_)
                                exact zv_ir c156_167 zrt_156
                              · refine zsl_n.trans ?_
                                refine (zv_si (v := -1002) c156_168 (by decide)).trans ?_
                                exact zv_ir c156_171 zrt_156
theorem c157_0 : zcod 157 0 = some (.iconst 0, 1, 0, 0, 0, 0) := by decide +kernel
theorem c157_1 : zcod 157 1 = some (.istore_n 1, 1, 0, 0, 0, 0) := by decide +kernel
theorem c157_2 : zcod 157 2 = some (.iconst 0, 1, 0, 0, 0, 0) := by decide +kernel
theorem c157_3 : zcod 157 3 = some (.istore_n 2, 1, 0, 0, 0, 0) := by decide +kernel
theorem c157_4 : zcod 157 4 = some (.iload_n 2, 1, 0, 0, 0, 0) := by decide +kernel
theorem c157_5 : zcod 157 5 = some (.aload_n 0, 1, 0, 0, 0, 0) := by decide +kernel
theorem c157_6 : zcod 157 6 = some (.getfield 163, 3, 9, 18, 814, 0) := by decide +kernel
theorem c157_9 : zcod 157 9 = some (.if_icmp .ge 26, 3, 35, 0, 0, 0) := by decide +kernel
theorem c157_12 : zcod 157 12 = some (.iload_n 1, 1, 0, 0, 0, 0) := by decide +kernel
theorem c157_13 : zcod 157 13 = some (.aload_n 0, 1, 0, 0, 0, 0) := by decide +kernel
theorem c157_14 : zcod 157 14 = some (.getfield 60, 3, 9, 20, 816, 0) := by decide +kernel
theorem c157_17 : zcod 157 17 = some (.iload_n 2, 1, 0, 0, 0, 0) := by decide +kernel
theorem c157_18 : zcod 157 18 = some (.iaload, 1, 0, 0, 0, 0) := by decide +kernel
theorem c157_19 : zcod 157 19 = some (.ifCond .lt 7, 3, 26, 0, 0, 0) := by decide +kernel
theorem c157_22 : zcod 157 22 = some (.iconst 1, 1, 0, 0, 0, 0) := by decide +kernel
theorem c157_23 : zcod 157 23 = some (.goto 4, 3, 27, 0, 0, 0) := by decide +kernel
theorem c157_26 : zcod 157 26 = some (.iconst 0, 1, 0, 0, 0, 0) := by decide +kernel
theorem c157_27 : zcod 157 27 = some (.iadd, 1, 0, 0, 0, 0) := by decide +kernel
theorem c157_28 : zcod 157 28 = some (.istore_n 1, 1, 0, 0, 0, 0) := by decide +kernel
theorem c157_29 : zcod 157 29 = some (.iinc 2 1, 3, 0, 0, 0, 0) := by decide +kernel
theorem c157_32 : zcod 157 32 = some (.goto (-28), 3, 4, 0, 0, 0) := by decide +kernel
theorem c157_35 : zcod 157 35 = some (.iload_n 1, 1, 0, 0, 0, 0) := by decide +kernel
theorem c157_36 : zcod 157 36 = some (.ireturn, 1, 0, 0, 0, 0) := by decide +kernel
set_option maxRecDepth 100000 in
theorem b157_0 (l0 : Option Nat) (h : zH) : zev 157 0 [some (vR l0), none, none] [] h = zev 157 4 [some (vR l0), some (vI 0), some (vI 0)] [] h := by
  refine (zv_k (v := 0) c157_0 (by decide)).trans ?_
  refine (zv_it c157_1 rfl).trans ?_
  refine (zv_k (v := 0) c157_2 (by decide)).trans ?_
  refine (zv_it c157_3 rfl).trans ?_
  rfl
theorem e157 (l0 : Option Nat) (h : zH) : zcall 157 [vR l0] h = zev 157 4 [some (vR l0), some (vI 0), some (vI 0)] [] h := by
  refine Eq.trans ?_ (b157_0 l0 h)
  unfold zcall zent
  rw [zL_157]
  rfl
set_option maxRecDepth 100000 in
theorem b157_4 (l0 : Option Nat) (l1 : Int32) (l2 : Int32) (h : zH) : zev 157 4 [some (vR l0), some (vI l1), some (vI l2)] [] h = (zgI h l0 9 18 fun x1 => (if l2 < x1 then (zgR h l0 9 20 fun x2 => (zaI h x2 l2 fun x3 => (if x3 < 0 then zev 157 4 [some (vR l0), some (vI (l1 + 0)), some (vI (l2 + 1))] [] h else zev 157 4 [some (vR l0), some (vI (l1 + 1)), some (vI (l2 + 1))] [] h))) else some (some (vI l1), h))) := by
  refine (zv_in c157_4 rfl).trans ?_
  refine (zv_an c157_5 rfl).trans ?_
  refine (zv_gI c157_6 zg9_18).trans (zgI_c fun x1 => ?_)
  refine (zv_icge c157_9).trans (zif_c ?_ ?_)
  · refine (zv_in c157_12 rfl).trans ?_
    refine (zv_an c157_13 rfl).trans ?_
    refine (zv_gR c157_14 zf9_20).trans (zgR_c fun x2 => ?_)
    refine (zv_in c157_17 rfl).trans ?_
    refine (zv_aI c157_18).trans (zaI_c fun x3 => ?_)
    refine (zv_iflt c157_19).trans (zif_c ?_ ?_)
    · refine (zv_k (v := 0) c157_26 (by decide)).trans ?_
      refine (zv_iadd c157_27).trans ?_
      refine (zv_it c157_28 rfl).trans ?_
      refine (zv_inc (y := 1) c157_29 rfl (by decide) rfl).trans ?_
      refine (zv_goto c157_32).trans ?_
      rfl
    · refine (zv_k (v := 1) c157_22 (by decide)).trans ?_
      refine (zv_goto c157_23).trans ?_
      refine (zv_iadd c157_27).trans ?_
      refine (zv_it c157_28 rfl).trans ?_
      refine (zv_inc (y := 1) c157_29 rfl (by decide) rfl).trans ?_
      refine (zv_goto c157_32).trans ?_
      rfl
  · refine (zv_in c157_35 rfl).trans ?_
    exact zv_ir c157_36 zrt_157
theorem c158_0 : zcod 158 0 = some (.iload_n 1, 1, 0, 0, 0, 0) := by decide +kernel
theorem c158_1 : zcod 158 1 = some (.i2l, 1, 0, 0, 0, 0) := by decide +kernel
theorem c158_2 : zcod 158 2 = some (.lconst 1, 1, 0, 0, 0, 0) := by decide +kernel
theorem c158_3 : zcod 158 3 = some (.ldc2_w 191, 3, 0, 0, 1029, 1000000) := by decide +kernel
theorem c158_6 : zcod 158 6 = some (.invokestatic 92, 3, 113, 3, 925, 0) := by decide +kernel
theorem c158_9 : zcod 158 9 = some (.ifCond .eq 13, 3, 22, 0, 0, 0) := by decide +kernel
theorem c158_12 : zcod 158 12 = some (.iload_n 2, 1, 0, 0, 0, 0) := by decide +kernel
theorem c158_13 : zcod 158 13 = some (.i2l, 1, 0, 0, 0, 0) := by decide +kernel
theorem c158_14 : zcod 158 14 = some (.lconst 0, 1, 0, 0, 0, 0) := by decide +kernel
theorem c158_15 : zcod 158 15 = some (.lconst 1, 1, 0, 0, 0, 0) := by decide +kernel
theorem c158_16 : zcod 158 16 = some (.invokestatic 92, 3, 113, 3, 925, 0) := by decide +kernel
theorem c158_19 : zcod 158 19 = some (.ifCond .ne 7, 3, 26, 0, 0, 0) := by decide +kernel
theorem c158_22 : zcod 158 22 = some (.sipush (-1002), 3, 0, 0, 0, 0) := by decide +kernel
theorem c158_25 : zcod 158 25 = some (.ireturn, 1, 0, 0, 0, 0) := by decide +kernel
theorem c158_26 : zcod 158 26 = some (.aload_n 0, 1, 0, 0, 0, 0) := by decide +kernel
theorem c158_27 : zcod 158 27 = some (.invokevirtual 248, 3, 157, 0, 1106, 0) := by decide +kernel
theorem c158_30 : zcod 158 30 = some (.istore_n 3, 1, 0, 0, 0, 0) := by decide +kernel
theorem c158_31 : zcod 158 31 = some (.iconst 0, 1, 0, 0, 0, 0) := by decide +kernel
theorem c158_32 : zcod 158 32 = some (.istore 4, 2, 0, 0, 0, 0) := by decide +kernel
theorem c158_34 : zcod 158 34 = some (.iconst 0, 1, 0, 0, 0, 0) := by decide +kernel
theorem c158_35 : zcod 158 35 = some (.istore 5, 2, 0, 0, 0, 0) := by decide +kernel
theorem c158_37 : zcod 158 37 = some (.iload 5, 2, 0, 0, 0, 0) := by decide +kernel
theorem c158_39 : zcod 158 39 = some (.aload_n 0, 1, 0, 0, 0, 0) := by decide +kernel
theorem c158_40 : zcod 158 40 = some (.getfield 163, 3, 9, 18, 814, 0) := by decide +kernel
theorem c158_43 : zcod 158 43 = some (.if_icmp .ge 45, 3, 88, 0, 0, 0) := by decide +kernel
theorem c158_46 : zcod 158 46 = some (.iload 4, 2, 0, 0, 0, 0) := by decide +kernel
theorem c158_48 : zcod 158 48 = some (.aload_n 0, 1, 0, 0, 0, 0) := by decide +kernel
theorem c158_49 : zcod 158 49 = some (.getfield 60, 3, 9, 20, 816, 0) := by decide +kernel
theorem c158_52 : zcod 158 52 = some (.iload 5, 2, 0, 0, 0, 0) := by decide +kernel
theorem c158_54 : zcod 158 54 = some (.iaload, 1, 0, 0, 0, 0) := by decide +kernel
theorem c158_55 : zcod 158 55 = some (.ifCond .lt 23, 3, 78, 0, 0, 0) := by decide +kernel
theorem c158_58 : zcod 158 58 = some (.iload_n 1, 1, 0, 0, 0, 0) := by decide +kernel
theorem c158_59 : zcod 158 59 = some (.iload_n 3, 1, 0, 0, 0, 0) := by decide +kernel
theorem c158_60 : zcod 158 60 = some (.idiv, 1, 0, 0, 0, 0) := by decide +kernel
theorem c158_61 : zcod 158 61 = some (.aload_n 0, 1, 0, 0, 0, 0) := by decide +kernel
theorem c158_62 : zcod 158 62 = some (.getfield 57, 3, 9, 19, 815, 0) := by decide +kernel
theorem c158_65 : zcod 158 65 = some (.iload 5, 2, 0, 0, 0, 0) := by decide +kernel
theorem c158_67 : zcod 158 67 = some (.iaload, 1, 0, 0, 0, 0) := by decide +kernel
theorem c158_68 : zcod 158 68 = some (.bipush 10, 2, 0, 0, 0, 0) := by decide +kernel
theorem c158_70 : zcod 158 70 = some (.idiv, 1, 0, 0, 0, 0) := by decide +kernel
theorem c158_71 : zcod 158 71 = some (.if_icmp .gt 7, 3, 78, 0, 0, 0) := by decide +kernel
theorem c158_74 : zcod 158 74 = some (.iconst 1, 1, 0, 0, 0, 0) := by decide +kernel
theorem c158_75 : zcod 158 75 = some (.goto 4, 3, 79, 0, 0, 0) := by decide +kernel
theorem c158_78 : zcod 158 78 = some (.iconst 0, 1, 0, 0, 0, 0) := by decide +kernel
theorem c158_79 : zcod 158 79 = some (.iadd, 1, 0, 0, 0, 0) := by decide +kernel
theorem c158_80 : zcod 158 80 = some (.istore 4, 2, 0, 0, 0, 0) := by decide +kernel
theorem c158_82 : zcod 158 82 = some (.iinc 5 1, 3, 0, 0, 0, 0) := by decide +kernel
theorem c158_85 : zcod 158 85 = some (.goto (-48), 3, 37, 0, 0, 0) := by decide +kernel
theorem c158_88 : zcod 158 88 = some (.iload_n 2, 1, 0, 0, 0, 0) := by decide +kernel
theorem c158_89 : zcod 158 89 = some (.ifCond .ne 8, 3, 97, 0, 0, 0) := by decide +kernel
theorem c158_92 : zcod 158 92 = some (.iload 4, 2, 0, 0, 0, 0) := by decide +kernel
theorem c158_94 : zcod 158 94 = some (.goto 16, 3, 110, 0, 0, 0) := by decide +kernel
theorem c158_97 : zcod 158 97 = some (.iconst 2, 1, 0, 0, 0, 0) := by decide +kernel
theorem c158_98 : zcod 158 98 = some (.iload 4, 2, 0, 0, 0, 0) := by decide +kernel
theorem c158_100 : zcod 158 100 = some (.imul, 1, 0, 0, 0, 0) := by decide +kernel
theorem c158_101 : zcod 158 101 = some (.iload_n 3, 1, 0, 0, 0, 0) := by decide +kernel
theorem c158_102 : zcod 158 102 = some (.if_icmp .le 7, 3, 109, 0, 0, 0) := by decide +kernel
theorem c158_105 : zcod 158 105 = some (.iconst 1, 1, 0, 0, 0, 0) := by decide +kernel
theorem c158_106 : zcod 158 106 = some (.goto 4, 3, 110, 0, 0, 0) := by decide +kernel
theorem c158_109 : zcod 158 109 = some (.iconst 0, 1, 0, 0, 0, 0) := by decide +kernel
theorem c158_110 : zcod 158 110 = some (.ireturn, 1, 0, 0, 0, 0) := by decide +kernel
set_option maxRecDepth 100000 in
theorem b158_0 (l0 : Option Nat) (l1 : Int32) (l2 : Int32) (h : zH) : zev 158 0 [some (vR l0), some (vI l1), some (vI l2), none, none, none] [] h = (zcI 113 [vL (Int32.toInt64 l1), vL 1, vL 1000000] h fun x2 h1 => (if x2 = 0 then some (some (vI (-1002)), h1) else (zcI 113 [vL (Int32.toInt64 l2), vL 0, vL 1] h1 fun x4 h3 => (if x4 = 0 then some (some (vI (-1002)), h3) else (zvr h3 l0 9 (zcI 157 [vR l0] h3 fun x6 h5 => zev 158 37 [some (vR l0), some (vI l1), some (vI l2), some (vI x6), some (vI 0), some (vI 0)] [] h5)))))) := by
  refine (zv_in c158_0 rfl).trans ?_
  refine (zv_i2l c158_1).trans ?_
  refine (zv_lc (v := 1) c158_2 (by decide)).trans ?_
  refine (zv_ld2 (v := 1000000) c158_3 (by decide)).trans ?_
  refine (zv_stI c158_6 (by decide) rfl zL_113 (Or.inr zrt_113) rfl rfl).trans (zcI_c fun x2 h1 => ?_)
  refine (zv_ifeq c158_9).trans (zif_c ?_ ?_)
  · refine (zv_si (v := -1002) c158_22 (by decide)).trans ?_
    exact zv_ir c158_25 zrt_158
  · refine (zv_in c158_12 rfl).trans ?_
    refine (zv_i2l c158_13).trans ?_
    refine (zv_lc (v := 0) c158_14 (by decide)).trans ?_
    refine (zv_lc (v := 1) c158_15 (by decide)).trans ?_
    refine (zv_stI c158_16 (by decide) rfl zL_113 (Or.inr zrt_113) rfl rfl).trans (zcI_c fun x4 h3 => ?_)
    refine (zv_ifne c158_19).trans (zif_c ?_ ?_)
    · refine (zv_si (v := -1002) c158_22 (by decide)).trans ?_
      exact zv_ir c158_25 zrt_158
    · refine (zv_an c158_26 rfl).trans ?_
      refine (zv_viI c158_27 zcn_157 rfl zL_157 (Or.inl zrt_157) rfl rfl).trans (zvr_c (zcI_c fun x6 h5 => ?_))
      refine (zv_it c158_30 rfl).trans ?_
      refine (zv_k (v := 0) c158_31 (by decide)).trans ?_
      refine (zv_is c158_32 rfl).trans ?_
      refine (zv_k (v := 0) c158_34 (by decide)).trans ?_
      refine (zv_is c158_35 rfl).trans ?_
      rfl
theorem e158 (l0 : Option Nat) (l1 : Int32) (l2 : Int32) (h : zH) : zcall 158 [vR l0, vI l1, vI l2] h = (zcI 113 [vL (Int32.toInt64 l1), vL 1, vL 1000000] h fun x2 h1 => (if x2 = 0 then some (some (vI (-1002)), h1) else (zcI 113 [vL (Int32.toInt64 l2), vL 0, vL 1] h1 fun x4 h3 => (if x4 = 0 then some (some (vI (-1002)), h3) else (zvr h3 l0 9 (zcI 157 [vR l0] h3 fun x6 h5 => zev 158 37 [some (vR l0), some (vI l1), some (vI l2), some (vI x6), some (vI 0), some (vI 0)] [] h5)))))) := by
  refine Eq.trans ?_ (b158_0 l0 l1 l2 h)
  unfold zcall zent
  rw [zL_158]
  rfl
set_option maxRecDepth 100000 in
theorem b158_37 (l0 : Option Nat) (l1 : Int32) (l2 : Int32) (l3 : Int32) (l4 : Int32) (l5 : Int32) (h : zH) : zev 158 37 [some (vR l0), some (vI l1), some (vI l2), some (vI l3), some (vI l4), some (vI l5)] [] h = (zgI h l0 9 18 fun x1 => (if l5 < x1 then (zgR h l0 9 20 fun x2 => (zaI h x2 l5 fun x3 => (if x3 < 0 then zev 158 37 [some (vR l0), some (vI l1), some (vI l2), some (vI l3), some (vI (l4 + 0)), some (vI (l5 + 1))] [] h else (zdv l3 ((zgR h l0 9 19 fun x4 => (zaI h x4 l5 fun x5 => (zdv 10 ((if (x5 / 10) < (l1 / l3) then zev 158 37 [some (vR l0), some (vI l1), some (vI l2), some (vI l3), some (vI (l4 + 0)), some (vI (l5 + 1))] [] h else zev 158 37 [some (vR l0), some (vI l1), some (vI l2), some (vI l3), some (vI (l4 + 1)), some (vI (l5 + 1))] [] h)))))))))) else (if l2 = 0 then some (some (vI l4), h) else (if l3 < (2 * l4) then some (some (vI 1), h) else some (some (vI 0), h))))) := by
  refine (zv_il c158_37 rfl).trans ?_
  refine (zv_an c158_39 rfl).trans ?_
  refine (zv_gI c158_40 zg9_18).trans (zgI_c fun x1 => ?_)
  refine (zv_icge c158_43).trans (zif_c ?_ ?_)
  · refine (zv_il c158_46 rfl).trans ?_
    refine (zv_an c158_48 rfl).trans ?_
    refine (zv_gR c158_49 zf9_20).trans (zgR_c fun x2 => ?_)
    refine (zv_il c158_52 rfl).trans ?_
    refine (zv_aI c158_54).trans (zaI_c fun x3 => ?_)
    refine (zv_iflt c158_55).trans (zif_c ?_ ?_)
    · refine (zv_k (v := 0) c158_78 (by decide)).trans ?_
      refine (zv_iadd c158_79).trans ?_
      refine (zv_is c158_80 rfl).trans ?_
      refine (zv_inc (y := 1) c158_82 rfl (by decide) rfl).trans ?_
      refine (zv_goto c158_85).trans ?_
      rfl
    · refine (zv_in c158_58 rfl).trans ?_
      refine (zv_in c158_59 rfl).trans ?_
      refine (zv_div c158_60).trans (zdv_c ?_)
      refine (zv_an c158_61 rfl).trans ?_
      refine (zv_gR c158_62 zf9_19).trans (zgR_c fun x4 => ?_)
      refine (zv_il c158_65 rfl).trans ?_
      refine (zv_aI c158_67).trans (zaI_c fun x5 => ?_)
      refine (zv_bi (v := 10) c158_68 (by decide)).trans ?_
      refine (zv_div c158_70).trans (zdv_c ?_)
      refine (zv_icgt c158_71).trans (zif_c ?_ ?_)
      · refine (zv_k (v := 0) c158_78 (by decide)).trans ?_
        refine (zv_iadd c158_79).trans ?_
        refine (zv_is c158_80 rfl).trans ?_
        refine (zv_inc (y := 1) c158_82 rfl (by decide) rfl).trans ?_
        refine (zv_goto c158_85).trans ?_
        rfl
      · refine (zv_k (v := 1) c158_74 (by decide)).trans ?_
        refine (zv_goto c158_75).trans ?_
        refine (zv_iadd c158_79).trans ?_
        refine (zv_is c158_80 rfl).trans ?_
        refine (zv_inc (y := 1) c158_82 rfl (by decide) rfl).trans ?_
        refine (zv_goto c158_85).trans ?_
        rfl
  · refine (zv_in c158_88 rfl).trans ?_
    refine (zv_ifne c158_89).trans (zif_c ?_ ?_)
    · refine (zv_il c158_92 rfl).trans ?_
      refine (zv_goto c158_94).trans ?_
      exact zv_ir c158_110 zrt_158
    · refine (zv_k (v := 2) c158_97 (by decide)).trans ?_
      refine (zv_il c158_98 rfl).trans ?_
      refine (zv_imul c158_100).trans ?_
      refine (zv_in c158_101 rfl).trans ?_
      refine (zv_icle c158_102).trans (zif_c ?_ ?_)
      · refine (zv_k (v := 1) c158_105 (by decide)).trans ?_
        refine (zv_goto c158_106).trans ?_
        exact zv_ir c158_110 zrt_158
      · refine (zv_k (v := 0) c158_109 (by decide)).trans ?_
        exact zv_ir c158_110 zrt_158
theorem c159_0 : zcod 159 0 = some (.new 7, 3, 8, 0, 66, 0) := by decide +kernel
theorem c159_3 : zcod 159 3 = some (.dup, 1, 0, 0, 0, 0) := by decide +kernel
theorem c159_4 : zcod 159 4 = some (.invokespecial 9, 3, 0, 0, 68, 0) := by decide +kernel
theorem c159_7 : zcod 159 7 = some (.astore_n 1, 1, 0, 0, 0, 0) := by decide +kernel
theorem c159_8 : zcod 159 8 = some (.new 10, 3, 9, 0, 790, 0) := by decide +kernel
theorem c159_11 : zcod 159 11 = some (.dup, 1, 0, 0, 0, 0) := by decide +kernel
theorem c159_12 : zcod 159 12 = some (.invokespecial 12, 3, 111, 0, 792, 0) := by decide +kernel
theorem c159_15 : zcod 159 15 = some (.astore_n 2, 1, 0, 0, 0, 0) := by decide +kernel
theorem c159_16 : zcod 159 16 = some (.iconst 0, 1, 0, 0, 0, 0) := by decide +kernel
theorem c159_17 : zcod 159 17 = some (.istore_n 3, 1, 0, 0, 0, 0) := by decide +kernel
theorem c159_18 : zcod 159 18 = some (.iload_n 3, 1, 0, 0, 0, 0) := by decide +kernel
theorem c159_19 : zcod 159 19 = some (.aload_n 0, 1, 0, 0, 0, 0) := by decide +kernel
theorem c159_20 : zcod 159 20 = some (.arraylength, 1, 0, 0, 0, 0) := by decide +kernel
theorem c159_21 : zcod 159 21 = some (.iconst 4, 1, 0, 0, 0, 0) := by decide +kernel
theorem c159_22 : zcod 159 22 = some (.isub, 1, 0, 0, 0, 0) := by decide +kernel
theorem c159_23 : zcod 159 23 = some (.if_icmp .gt 684, 3, 707, 0, 0, 0) := by decide +kernel
theorem c159_26 : zcod 159 26 = some (.aload_n 0, 1, 0, 0, 0, 0) := by decide +kernel
theorem c159_27 : zcod 159 27 = some (.iload_n 3, 1, 0, 0, 0, 0) := by decide +kernel
theorem c159_28 : zcod 159 28 = some (.iaload, 1, 0, 0, 0, 0) := by decide +kernel
theorem c159_29 : zcod 159 29 = some (.bipush 31, 2, 0, 0, 0, 0) := by decide +kernel
theorem c159_31 : zcod 159 31 = some (.iand, 1, 0, 0, 0, 0) := by decide +kernel
theorem c159_32 : zcod 159 32 = some (.tableswitch 669 0 18 #[92, 155, 168, 181, 214, 247, 270, 303, 326, 359, 402, 425, 458, 501, 524, 547, 580, 613, 636], 92, 0, 0, 0, 0) := by decide +kernel
theorem c159_124 : zcod 159 124 = some (.aload_n 1, 1, 0, 0, 0, 0) := by decide +kernel
theorem c159_125 : zcod 159 125 = some (.aload_n 0, 1, 0, 0, 0, 0) := by decide +kernel
theorem c159_126 : zcod 159 126 = some (.iload_n 3, 1, 0, 0, 0, 0) := by decide +kernel
theorem c159_127 : zcod 159 127 = some (.iconst 1, 1, 0, 0, 0, 0) := by decide +kernel
theorem c159_128 : zcod 159 128 = some (.iadd, 1, 0, 0, 0, 0) := by decide +kernel
theorem c159_129 : zcod 159 129 = some (.iaload, 1, 0, 0, 0, 0) := by decide +kernel
theorem c159_130 : zcod 159 130 = some (.aload_n 0, 1, 0, 0, 0, 0) := by decide +kernel
theorem c159_131 : zcod 159 131 = some (.iload_n 3, 1, 0, 0, 0, 0) := by decide +kernel
theorem c159_132 : zcod 159 132 = some (.iconst 2, 1, 0, 0, 0, 0) := by decide +kernel
theorem c159_133 : zcod 159 133 = some (.iadd, 1, 0, 0, 0, 0) := by decide +kernel
theorem c159_134 : zcod 159 134 = some (.iaload, 1, 0, 0, 0, 0) := by decide +kernel
theorem c159_135 : zcod 159 135 = some (.i2l, 1, 0, 0, 0, 0) := by decide +kernel
theorem c159_136 : zcod 159 136 = some (.bipush 32, 2, 0, 0, 0, 0) := by decide +kernel
theorem c159_138 : zcod 159 138 = some (.lshl, 1, 0, 0, 0, 0) := by decide +kernel
theorem c159_139 : zcod 159 139 = some (.aload_n 0, 1, 0, 0, 0, 0) := by decide +kernel
theorem c159_140 : zcod 159 140 = some (.iload_n 3, 1, 0, 0, 0, 0) := by decide +kernel
theorem c159_141 : zcod 159 141 = some (.iconst 3, 1, 0, 0, 0, 0) := by decide +kernel
theorem c159_142 : zcod 159 142 = some (.iadd, 1, 0, 0, 0, 0) := by decide +kernel
theorem c159_143 : zcod 159 143 = some (.iaload, 1, 0, 0, 0, 0) := by decide +kernel
theorem c159_144 : zcod 159 144 = some (.i2l, 1, 0, 0, 0, 0) := by decide +kernel
theorem c159_145 : zcod 159 145 = some (.ldc2_w 13, 3, 0, 0, 1114, 4294967295) := by decide +kernel
theorem c159_148 : zcod 159 148 = some (.land, 1, 0, 0, 0, 0) := by decide +kernel
theorem c159_149 : zcod 159 149 = some (.lor, 1, 0, 0, 0, 0) := by decide +kernel
theorem c159_150 : zcod 159 150 = some (.invokevirtual 15, 3, 10, 2, 226, 0) := by decide +kernel
theorem c159_153 : zcod 159 153 = some (.aload_n 2, 1, 0, 0, 0, 0) := by decide +kernel
theorem c159_154 : zcod 159 154 = some (.aload_n 0, 1, 0, 0, 0, 0) := by decide +kernel
theorem c159_155 : zcod 159 155 = some (.iload_n 3, 1, 0, 0, 0, 0) := by decide +kernel
theorem c159_156 : zcod 159 156 = some (.iconst 1, 1, 0, 0, 0, 0) := by decide +kernel
theorem c159_157 : zcod 159 157 = some (.iadd, 1, 0, 0, 0, 0) := by decide +kernel
theorem c159_158 : zcod 159 158 = some (.iaload, 1, 0, 0, 0, 0) := by decide +kernel
theorem c159_159 : zcod 159 159 = some (.aload_n 0, 1, 0, 0, 0, 0) := by decide +kernel
theorem c159_160 : zcod 159 160 = some (.iload_n 3, 1, 0, 0, 0, 0) := by decide +kernel
theorem c159_161 : zcod 159 161 = some (.iconst 2, 1, 0, 0, 0, 0) := by decide +kernel
theorem c159_162 : zcod 159 162 = some (.iadd, 1, 0, 0, 0, 0) := by decide +kernel
theorem c159_163 : zcod 159 163 = some (.iaload, 1, 0, 0, 0, 0) := by decide +kernel
theorem c159_164 : zcod 159 164 = some (.i2l, 1, 0, 0, 0, 0) := by decide +kernel
theorem c159_165 : zcod 159 165 = some (.bipush 32, 2, 0, 0, 0, 0) := by decide +kernel
theorem c159_167 : zcod 159 167 = some (.lshl, 1, 0, 0, 0, 0) := by decide +kernel
theorem c159_168 : zcod 159 168 = some (.aload_n 0, 1, 0, 0, 0, 0) := by decide +kernel
theorem c159_169 : zcod 159 169 = some (.iload_n 3, 1, 0, 0, 0, 0) := by decide +kernel
theorem c159_170 : zcod 159 170 = some (.iconst 3, 1, 0, 0, 0, 0) := by decide +kernel
theorem c159_171 : zcod 159 171 = some (.iadd, 1, 0, 0, 0, 0) := by decide +kernel
theorem c159_172 : zcod 159 172 = some (.iaload, 1, 0, 0, 0, 0) := by decide +kernel
theorem c159_173 : zcod 159 173 = some (.i2l, 1, 0, 0, 0, 0) := by decide +kernel
theorem c159_174 : zcod 159 174 = some (.ldc2_w 13, 3, 0, 0, 1114, 4294967295) := by decide +kernel
theorem c159_177 : zcod 159 177 = some (.land, 1, 0, 0, 0, 0) := by decide +kernel
theorem c159_178 : zcod 159 178 = some (.lor, 1, 0, 0, 0, 0) := by decide +kernel
theorem c159_179 : zcod 159 179 = some (.invokevirtual 19, 3, 112, 2, 920, 0) := by decide +kernel
theorem c159_182 : zcod 159 182 = some (.if_icmp .eq 519, 3, 701, 0, 0, 0) := by decide +kernel
theorem c159_185 : zcod 159 185 = some (.iconst 0, 1, 0, 0, 0, 0) := by decide +kernel
theorem c159_186 : zcod 159 186 = some (.ireturn, 1, 0, 0, 0, 0) := by decide +kernel
theorem c159_187 : zcod 159 187 = some (.aload_n 1, 1, 0, 0, 0, 0) := by decide +kernel
theorem c159_188 : zcod 159 188 = some (.invokevirtual 20, 3, 12, 0, 234, 0) := by decide +kernel
theorem c159_191 : zcod 159 191 = some (.aload_n 2, 1, 0, 0, 0, 0) := by decide +kernel
theorem c159_192 : zcod 159 192 = some (.invokevirtual 24, 3, 114, 0, 929, 0) := by decide +kernel
theorem c159_195 : zcod 159 195 = some (.if_icmp .eq 506, 3, 701, 0, 0, 0) := by decide +kernel
theorem c159_198 : zcod 159 198 = some (.iconst 0, 1, 0, 0, 0, 0) := by decide +kernel
theorem c159_199 : zcod 159 199 = some (.ireturn, 1, 0, 0, 0, 0) := by decide +kernel
theorem c159_200 : zcod 159 200 = some (.aload_n 1, 1, 0, 0, 0, 0) := by decide +kernel
theorem c159_201 : zcod 159 201 = some (.invokevirtual 25, 3, 47, 0, 485, 0) := by decide +kernel
theorem c159_204 : zcod 159 204 = some (.aload_n 2, 1, 0, 0, 0, 0) := by decide +kernel
theorem c159_205 : zcod 159 205 = some (.invokevirtual 28, 3, 125, 0, 973, 0) := by decide +kernel
theorem c159_208 : zcod 159 208 = some (.if_icmp .eq 493, 3, 701, 0, 0, 0) := by decide +kernel
theorem c159_211 : zcod 159 211 = some (.iconst 0, 1, 0, 0, 0, 0) := by decide +kernel
theorem c159_212 : zcod 159 212 = some (.ireturn, 1, 0, 0, 0, 0) := by decide +kernel
theorem c159_213 : zcod 159 213 = some (.aload_n 1, 1, 0, 0, 0, 0) := by decide +kernel
theorem c159_214 : zcod 159 214 = some (.aload_n 0, 1, 0, 0, 0, 0) := by decide +kernel
theorem c159_215 : zcod 159 215 = some (.iload_n 3, 1, 0, 0, 0, 0) := by decide +kernel
theorem c159_216 : zcod 159 216 = some (.iconst 1, 1, 0, 0, 0, 0) := by decide +kernel
theorem c159_217 : zcod 159 217 = some (.iadd, 1, 0, 0, 0, 0) := by decide +kernel
theorem c159_218 : zcod 159 218 = some (.iaload, 1, 0, 0, 0, 0) := by decide +kernel
theorem c159_219 : zcod 159 219 = some (.aload_n 0, 1, 0, 0, 0, 0) := by decide +kernel
theorem c159_220 : zcod 159 220 = some (.iload_n 3, 1, 0, 0, 0, 0) := by decide +kernel
theorem c159_221 : zcod 159 221 = some (.iconst 2, 1, 0, 0, 0, 0) := by decide +kernel
theorem c159_222 : zcod 159 222 = some (.iadd, 1, 0, 0, 0, 0) := by decide +kernel
theorem c159_223 : zcod 159 223 = some (.iaload, 1, 0, 0, 0, 0) := by decide +kernel
theorem c159_224 : zcod 159 224 = some (.invokevirtual 29, 3, 48, 2, 489, 0) := by decide +kernel
theorem c159_227 : zcod 159 227 = some (.aload_n 2, 1, 0, 0, 0, 0) := by decide +kernel
theorem c159_228 : zcod 159 228 = some (.aload_n 0, 1, 0, 0, 0, 0) := by decide +kernel
theorem c159_229 : zcod 159 229 = some (.iload_n 3, 1, 0, 0, 0, 0) := by decide +kernel
theorem c159_230 : zcod 159 230 = some (.iconst 1, 1, 0, 0, 0, 0) := by decide +kernel
theorem c159_231 : zcod 159 231 = some (.iadd, 1, 0, 0, 0, 0) := by decide +kernel
theorem c159_232 : zcod 159 232 = some (.iaload, 1, 0, 0, 0, 0) := by decide +kernel
theorem c159_233 : zcod 159 233 = some (.aload_n 0, 1, 0, 0, 0, 0) := by decide +kernel
theorem c159_234 : zcod 159 234 = some (.iload_n 3, 1, 0, 0, 0, 0) := by decide +kernel
theorem c159_235 : zcod 159 235 = some (.iconst 2, 1, 0, 0, 0, 0) := by decide +kernel
theorem c159_236 : zcod 159 236 = some (.iadd, 1, 0, 0, 0, 0) := by decide +kernel
theorem c159_237 : zcod 159 237 = some (.iaload, 1, 0, 0, 0, 0) := by decide +kernel
theorem c159_238 : zcod 159 238 = some (.invokevirtual 33, 3, 126, 2, 977, 0) := by decide +kernel
theorem c159_241 : zcod 159 241 = some (.if_icmp .eq 460, 3, 701, 0, 0, 0) := by decide +kernel
theorem c159_244 : zcod 159 244 = some (.iconst 0, 1, 0, 0, 0, 0) := by decide +kernel
theorem c159_245 : zcod 159 245 = some (.ireturn, 1, 0, 0, 0, 0) := by decide +kernel
theorem c159_246 : zcod 159 246 = some (.aload_n 1, 1, 0, 0, 0, 0) := by decide +kernel
theorem c159_247 : zcod 159 247 = some (.aload_n 0, 1, 0, 0, 0, 0) := by decide +kernel
theorem c159_248 : zcod 159 248 = some (.iload_n 3, 1, 0, 0, 0, 0) := by decide +kernel
theorem c159_249 : zcod 159 249 = some (.iconst 1, 1, 0, 0, 0, 0) := by decide +kernel
theorem c159_250 : zcod 159 250 = some (.iadd, 1, 0, 0, 0, 0) := by decide +kernel
theorem c159_251 : zcod 159 251 = some (.iaload, 1, 0, 0, 0, 0) := by decide +kernel
theorem c159_252 : zcod 159 252 = some (.aload_n 0, 1, 0, 0, 0, 0) := by decide +kernel
theorem c159_253 : zcod 159 253 = some (.iload_n 3, 1, 0, 0, 0, 0) := by decide +kernel
theorem c159_254 : zcod 159 254 = some (.iconst 2, 1, 0, 0, 0, 0) := by decide +kernel
theorem c159_255 : zcod 159 255 = some (.iadd, 1, 0, 0, 0, 0) := by decide +kernel
theorem c159_256 : zcod 159 256 = some (.iaload, 1, 0, 0, 0, 0) := by decide +kernel
theorem c159_257 : zcod 159 257 = some (.invokevirtual 34, 3, 49, 2, 495, 0) := by decide +kernel
theorem c159_260 : zcod 159 260 = some (.aload_n 2, 1, 0, 0, 0, 0) := by decide +kernel
theorem c159_261 : zcod 159 261 = some (.aload_n 0, 1, 0, 0, 0, 0) := by decide +kernel
theorem c159_262 : zcod 159 262 = some (.iload_n 3, 1, 0, 0, 0, 0) := by decide +kernel
theorem c159_263 : zcod 159 263 = some (.iconst 1, 1, 0, 0, 0, 0) := by decide +kernel
theorem c159_264 : zcod 159 264 = some (.iadd, 1, 0, 0, 0, 0) := by decide +kernel
theorem c159_265 : zcod 159 265 = some (.iaload, 1, 0, 0, 0, 0) := by decide +kernel
theorem c159_266 : zcod 159 266 = some (.aload_n 0, 1, 0, 0, 0, 0) := by decide +kernel
theorem c159_267 : zcod 159 267 = some (.iload_n 3, 1, 0, 0, 0, 0) := by decide +kernel
theorem c159_268 : zcod 159 268 = some (.iconst 2, 1, 0, 0, 0, 0) := by decide +kernel
theorem c159_269 : zcod 159 269 = some (.iadd, 1, 0, 0, 0, 0) := by decide +kernel
theorem c159_270 : zcod 159 270 = some (.iaload, 1, 0, 0, 0, 0) := by decide +kernel
theorem c159_271 : zcod 159 271 = some (.invokevirtual 37, 3, 128, 2, 986, 0) := by decide +kernel
theorem c159_274 : zcod 159 274 = some (.if_icmp .eq 427, 3, 701, 0, 0, 0) := by decide +kernel
theorem c159_277 : zcod 159 277 = some (.iconst 0, 1, 0, 0, 0, 0) := by decide +kernel
theorem c159_278 : zcod 159 278 = some (.ireturn, 1, 0, 0, 0, 0) := by decide +kernel
theorem c159_279 : zcod 159 279 = some (.aload_n 1, 1, 0, 0, 0, 0) := by decide +kernel
theorem c159_280 : zcod 159 280 = some (.aload_n 0, 1, 0, 0, 0, 0) := by decide +kernel
theorem c159_281 : zcod 159 281 = some (.iload_n 3, 1, 0, 0, 0, 0) := by decide +kernel
theorem c159_282 : zcod 159 282 = some (.iconst 1, 1, 0, 0, 0, 0) := by decide +kernel
theorem c159_283 : zcod 159 283 = some (.iadd, 1, 0, 0, 0, 0) := by decide +kernel
theorem c159_284 : zcod 159 284 = some (.iaload, 1, 0, 0, 0, 0) := by decide +kernel
theorem c159_285 : zcod 159 285 = some (.invokevirtual 38, 3, 59, 1, 536, 0) := by decide +kernel
theorem c159_288 : zcod 159 288 = some (.aload_n 2, 1, 0, 0, 0, 0) := by decide +kernel
theorem c159_289 : zcod 159 289 = some (.aload_n 0, 1, 0, 0, 0, 0) := by decide +kernel
theorem c159_290 : zcod 159 290 = some (.iload_n 3, 1, 0, 0, 0, 0) := by decide +kernel
theorem c159_291 : zcod 159 291 = some (.iconst 1, 1, 0, 0, 0, 0) := by decide +kernel
theorem c159_292 : zcod 159 292 = some (.iadd, 1, 0, 0, 0, 0) := by decide +kernel
theorem c159_293 : zcod 159 293 = some (.iaload, 1, 0, 0, 0, 0) := by decide +kernel
theorem c159_294 : zcod 159 294 = some (.invokevirtual 42, 3, 136, 1, 1017, 0) := by decide +kernel
theorem c159_297 : zcod 159 297 = some (.if_icmp .eq 404, 3, 701, 0, 0, 0) := by decide +kernel
theorem c159_300 : zcod 159 300 = some (.iconst 0, 1, 0, 0, 0, 0) := by decide +kernel
theorem c159_301 : zcod 159 301 = some (.ireturn, 1, 0, 0, 0, 0) := by decide +kernel
theorem c159_302 : zcod 159 302 = some (.aload_n 1, 1, 0, 0, 0, 0) := by decide +kernel
theorem c159_303 : zcod 159 303 = some (.aload_n 0, 1, 0, 0, 0, 0) := by decide +kernel
theorem c159_304 : zcod 159 304 = some (.iload_n 3, 1, 0, 0, 0, 0) := by decide +kernel
theorem c159_305 : zcod 159 305 = some (.iconst 1, 1, 0, 0, 0, 0) := by decide +kernel
theorem c159_306 : zcod 159 306 = some (.iadd, 1, 0, 0, 0, 0) := by decide +kernel
theorem c159_307 : zcod 159 307 = some (.iaload, 1, 0, 0, 0, 0) := by decide +kernel
theorem c159_308 : zcod 159 308 = some (.aload_n 0, 1, 0, 0, 0, 0) := by decide +kernel
theorem c159_309 : zcod 159 309 = some (.iload_n 3, 1, 0, 0, 0, 0) := by decide +kernel
theorem c159_310 : zcod 159 310 = some (.iconst 2, 1, 0, 0, 0, 0) := by decide +kernel
theorem c159_311 : zcod 159 311 = some (.iadd, 1, 0, 0, 0, 0) := by decide +kernel
theorem c159_312 : zcod 159 312 = some (.iaload, 1, 0, 0, 0, 0) := by decide +kernel
theorem c159_313 : zcod 159 313 = some (.invokevirtual 43, 3, 64, 2, 556, 0) := by decide +kernel
theorem c159_316 : zcod 159 316 = some (.aload_n 2, 1, 0, 0, 0, 0) := by decide +kernel
theorem c159_317 : zcod 159 317 = some (.aload_n 0, 1, 0, 0, 0, 0) := by decide +kernel
theorem c159_318 : zcod 159 318 = some (.iload_n 3, 1, 0, 0, 0, 0) := by decide +kernel
theorem c159_319 : zcod 159 319 = some (.iconst 1, 1, 0, 0, 0, 0) := by decide +kernel
theorem c159_320 : zcod 159 320 = some (.iadd, 1, 0, 0, 0, 0) := by decide +kernel
theorem c159_321 : zcod 159 321 = some (.iaload, 1, 0, 0, 0, 0) := by decide +kernel
theorem c159_322 : zcod 159 322 = some (.aload_n 0, 1, 0, 0, 0, 0) := by decide +kernel
theorem c159_323 : zcod 159 323 = some (.iload_n 3, 1, 0, 0, 0, 0) := by decide +kernel
theorem c159_324 : zcod 159 324 = some (.iconst 2, 1, 0, 0, 0, 0) := by decide +kernel
theorem c159_325 : zcod 159 325 = some (.iadd, 1, 0, 0, 0, 0) := by decide +kernel
theorem c159_326 : zcod 159 326 = some (.iaload, 1, 0, 0, 0, 0) := by decide +kernel
theorem c159_327 : zcod 159 327 = some (.invokevirtual 46, 3, 137, 2, 1021, 0) := by decide +kernel
theorem c159_330 : zcod 159 330 = some (.if_icmp .eq 371, 3, 701, 0, 0, 0) := by decide +kernel
theorem c159_333 : zcod 159 333 = some (.iconst 0, 1, 0, 0, 0, 0) := by decide +kernel
theorem c159_334 : zcod 159 334 = some (.ireturn, 1, 0, 0, 0, 0) := by decide +kernel
theorem c159_335 : zcod 159 335 = some (.aload_n 1, 1, 0, 0, 0, 0) := by decide +kernel
theorem c159_336 : zcod 159 336 = some (.aload_n 0, 1, 0, 0, 0, 0) := by decide +kernel
theorem c159_337 : zcod 159 337 = some (.iload_n 3, 1, 0, 0, 0, 0) := by decide +kernel
theorem c159_338 : zcod 159 338 = some (.iconst 1, 1, 0, 0, 0, 0) := by decide +kernel
theorem c159_339 : zcod 159 339 = some (.iadd, 1, 0, 0, 0, 0) := by decide +kernel
theorem c159_340 : zcod 159 340 = some (.iaload, 1, 0, 0, 0, 0) := by decide +kernel
theorem c159_341 : zcod 159 341 = some (.invokevirtual 47, 3, 65, 1, 560, 0) := by decide +kernel
theorem c159_344 : zcod 159 344 = some (.aload_n 2, 1, 0, 0, 0, 0) := by decide +kernel
theorem c159_345 : zcod 159 345 = some (.aload_n 0, 1, 0, 0, 0, 0) := by decide +kernel
theorem c159_346 : zcod 159 346 = some (.iload_n 3, 1, 0, 0, 0, 0) := by decide +kernel
theorem c159_347 : zcod 159 347 = some (.iconst 1, 1, 0, 0, 0, 0) := by decide +kernel
theorem c159_348 : zcod 159 348 = some (.iadd, 1, 0, 0, 0, 0) := by decide +kernel
theorem c159_349 : zcod 159 349 = some (.iaload, 1, 0, 0, 0, 0) := by decide +kernel
theorem c159_350 : zcod 159 350 = some (.invokevirtual 50, 3, 138, 1, 1025, 0) := by decide +kernel
theorem c159_353 : zcod 159 353 = some (.if_icmp .eq 348, 3, 701, 0, 0, 0) := by decide +kernel
theorem c159_356 : zcod 159 356 = some (.iconst 0, 1, 0, 0, 0, 0) := by decide +kernel
theorem c159_357 : zcod 159 357 = some (.ireturn, 1, 0, 0, 0, 0) := by decide +kernel
theorem c159_358 : zcod 159 358 = some (.aload_n 1, 1, 0, 0, 0, 0) := by decide +kernel
theorem c159_359 : zcod 159 359 = some (.aload_n 0, 1, 0, 0, 0, 0) := by decide +kernel
theorem c159_360 : zcod 159 360 = some (.iload_n 3, 1, 0, 0, 0, 0) := by decide +kernel
theorem c159_361 : zcod 159 361 = some (.iconst 1, 1, 0, 0, 0, 0) := by decide +kernel
theorem c159_362 : zcod 159 362 = some (.iadd, 1, 0, 0, 0, 0) := by decide +kernel
theorem c159_363 : zcod 159 363 = some (.iaload, 1, 0, 0, 0, 0) := by decide +kernel
theorem c159_364 : zcod 159 364 = some (.aload_n 0, 1, 0, 0, 0, 0) := by decide +kernel
theorem c159_365 : zcod 159 365 = some (.iload_n 3, 1, 0, 0, 0, 0) := by decide +kernel
theorem c159_366 : zcod 159 366 = some (.iconst 2, 1, 0, 0, 0, 0) := by decide +kernel
theorem c159_367 : zcod 159 367 = some (.iadd, 1, 0, 0, 0, 0) := by decide +kernel
theorem c159_368 : zcod 159 368 = some (.iaload, 1, 0, 0, 0, 0) := by decide +kernel
theorem c159_369 : zcod 159 369 = some (.invokevirtual 51, 3, 67, 2, 569, 0) := by decide +kernel
theorem c159_372 : zcod 159 372 = some (.aload_n 2, 1, 0, 0, 0, 0) := by decide +kernel
theorem c159_373 : zcod 159 373 = some (.aload_n 0, 1, 0, 0, 0, 0) := by decide +kernel
theorem c159_374 : zcod 159 374 = some (.iload_n 3, 1, 0, 0, 0, 0) := by decide +kernel
theorem c159_375 : zcod 159 375 = some (.iconst 1, 1, 0, 0, 0, 0) := by decide +kernel
theorem c159_376 : zcod 159 376 = some (.iadd, 1, 0, 0, 0, 0) := by decide +kernel
theorem c159_377 : zcod 159 377 = some (.iaload, 1, 0, 0, 0, 0) := by decide +kernel
theorem c159_378 : zcod 159 378 = some (.aload_n 0, 1, 0, 0, 0, 0) := by decide +kernel
theorem c159_379 : zcod 159 379 = some (.iload_n 3, 1, 0, 0, 0, 0) := by decide +kernel
theorem c159_380 : zcod 159 380 = some (.iconst 2, 1, 0, 0, 0, 0) := by decide +kernel
theorem c159_381 : zcod 159 381 = some (.iadd, 1, 0, 0, 0, 0) := by decide +kernel
theorem c159_382 : zcod 159 382 = some (.iaload, 1, 0, 0, 0, 0) := by decide +kernel
theorem c159_383 : zcod 159 383 = some (.invokevirtual 54, 3, 139, 2, 1030, 0) := by decide +kernel
theorem c159_386 : zcod 159 386 = some (.if_icmp .eq 315, 3, 701, 0, 0, 0) := by decide +kernel
theorem c159_389 : zcod 159 389 = some (.iconst 0, 1, 0, 0, 0, 0) := by decide +kernel
theorem c159_390 : zcod 159 390 = some (.ireturn, 1, 0, 0, 0, 0) := by decide +kernel
theorem c159_391 : zcod 159 391 = some (.aload_n 1, 1, 0, 0, 0, 0) := by decide +kernel
theorem c159_392 : zcod 159 392 = some (.aload_n 0, 1, 0, 0, 0, 0) := by decide +kernel
theorem c159_393 : zcod 159 393 = some (.iload_n 3, 1, 0, 0, 0, 0) := by decide +kernel
theorem c159_394 : zcod 159 394 = some (.iconst 1, 1, 0, 0, 0, 0) := by decide +kernel
theorem c159_395 : zcod 159 395 = some (.iadd, 1, 0, 0, 0, 0) := by decide +kernel
theorem c159_396 : zcod 159 396 = some (.iaload, 1, 0, 0, 0, 0) := by decide +kernel
theorem c159_397 : zcod 159 397 = some (.aload_n 0, 1, 0, 0, 0, 0) := by decide +kernel
theorem c159_398 : zcod 159 398 = some (.iload_n 3, 1, 0, 0, 0, 0) := by decide +kernel
theorem c159_399 : zcod 159 399 = some (.iconst 2, 1, 0, 0, 0, 0) := by decide +kernel
theorem c159_400 : zcod 159 400 = some (.iadd, 1, 0, 0, 0, 0) := by decide +kernel
theorem c159_401 : zcod 159 401 = some (.iaload, 1, 0, 0, 0, 0) := by decide +kernel
theorem c159_402 : zcod 159 402 = some (.aload_n 0, 1, 0, 0, 0, 0) := by decide +kernel
theorem c159_403 : zcod 159 403 = some (.iload_n 3, 1, 0, 0, 0, 0) := by decide +kernel
theorem c159_404 : zcod 159 404 = some (.iconst 3, 1, 0, 0, 0, 0) := by decide +kernel
theorem c159_405 : zcod 159 405 = some (.iadd, 1, 0, 0, 0, 0) := by decide +kernel
theorem c159_406 : zcod 159 406 = some (.iaload, 1, 0, 0, 0, 0) := by decide +kernel
theorem c159_407 : zcod 159 407 = some (.invokevirtual 55, 3, 71, 3, 587, 0) := by decide +kernel
theorem c159_410 : zcod 159 410 = some (.aload_n 2, 1, 0, 0, 0, 0) := by decide +kernel
theorem c159_411 : zcod 159 411 = some (.aload_n 0, 1, 0, 0, 0, 0) := by decide +kernel
theorem c159_412 : zcod 159 412 = some (.iload_n 3, 1, 0, 0, 0, 0) := by decide +kernel
theorem c159_413 : zcod 159 413 = some (.iconst 1, 1, 0, 0, 0, 0) := by decide +kernel
theorem c159_414 : zcod 159 414 = some (.iadd, 1, 0, 0, 0, 0) := by decide +kernel
theorem c159_415 : zcod 159 415 = some (.iaload, 1, 0, 0, 0, 0) := by decide +kernel
theorem c159_416 : zcod 159 416 = some (.aload_n 0, 1, 0, 0, 0, 0) := by decide +kernel
theorem c159_417 : zcod 159 417 = some (.iload_n 3, 1, 0, 0, 0, 0) := by decide +kernel
theorem c159_418 : zcod 159 418 = some (.iconst 2, 1, 0, 0, 0, 0) := by decide +kernel
theorem c159_419 : zcod 159 419 = some (.iadd, 1, 0, 0, 0, 0) := by decide +kernel
theorem c159_420 : zcod 159 420 = some (.iaload, 1, 0, 0, 0, 0) := by decide +kernel
theorem c159_421 : zcod 159 421 = some (.aload_n 0, 1, 0, 0, 0, 0) := by decide +kernel
theorem c159_422 : zcod 159 422 = some (.iload_n 3, 1, 0, 0, 0, 0) := by decide +kernel
theorem c159_423 : zcod 159 423 = some (.iconst 3, 1, 0, 0, 0, 0) := by decide +kernel
theorem c159_424 : zcod 159 424 = some (.iadd, 1, 0, 0, 0, 0) := by decide +kernel
theorem c159_425 : zcod 159 425 = some (.iaload, 1, 0, 0, 0, 0) := by decide +kernel
theorem c159_426 : zcod 159 426 = some (.invokevirtual 59, 3, 141, 3, 1039, 0) := by decide +kernel
theorem c159_429 : zcod 159 429 = some (.if_icmp .eq 272, 3, 701, 0, 0, 0) := by decide +kernel
theorem c159_432 : zcod 159 432 = some (.iconst 0, 1, 0, 0, 0, 0) := by decide +kernel
theorem c159_433 : zcod 159 433 = some (.ireturn, 1, 0, 0, 0, 0) := by decide +kernel
theorem c159_434 : zcod 159 434 = some (.aload_n 1, 1, 0, 0, 0, 0) := by decide +kernel
theorem c159_435 : zcod 159 435 = some (.aload_n 0, 1, 0, 0, 0, 0) := by decide +kernel
theorem c159_436 : zcod 159 436 = some (.iload_n 3, 1, 0, 0, 0, 0) := by decide +kernel
theorem c159_437 : zcod 159 437 = some (.iconst 1, 1, 0, 0, 0, 0) := by decide +kernel
theorem c159_438 : zcod 159 438 = some (.iadd, 1, 0, 0, 0, 0) := by decide +kernel
theorem c159_439 : zcod 159 439 = some (.iaload, 1, 0, 0, 0, 0) := by decide +kernel
theorem c159_440 : zcod 159 440 = some (.invokevirtual 60, 3, 74, 1, 615, 0) := by decide +kernel
theorem c159_443 : zcod 159 443 = some (.aload_n 2, 1, 0, 0, 0, 0) := by decide +kernel
theorem c159_444 : zcod 159 444 = some (.aload_n 0, 1, 0, 0, 0, 0) := by decide +kernel
theorem c159_445 : zcod 159 445 = some (.iload_n 3, 1, 0, 0, 0, 0) := by decide +kernel
theorem c159_446 : zcod 159 446 = some (.iconst 1, 1, 0, 0, 0, 0) := by decide +kernel
theorem c159_447 : zcod 159 447 = some (.iadd, 1, 0, 0, 0, 0) := by decide +kernel
theorem c159_448 : zcod 159 448 = some (.iaload, 1, 0, 0, 0, 0) := by decide +kernel
theorem c159_449 : zcod 159 449 = some (.invokevirtual 63, 3, 142, 1, 1043, 0) := by decide +kernel
theorem c159_452 : zcod 159 452 = some (.if_icmp .eq 249, 3, 701, 0, 0, 0) := by decide +kernel
theorem c159_455 : zcod 159 455 = some (.iconst 0, 1, 0, 0, 0, 0) := by decide +kernel
theorem c159_456 : zcod 159 456 = some (.ireturn, 1, 0, 0, 0, 0) := by decide +kernel
theorem c159_457 : zcod 159 457 = some (.aload_n 1, 1, 0, 0, 0, 0) := by decide +kernel
theorem c159_458 : zcod 159 458 = some (.aload_n 0, 1, 0, 0, 0, 0) := by decide +kernel
theorem c159_459 : zcod 159 459 = some (.iload_n 3, 1, 0, 0, 0, 0) := by decide +kernel
theorem c159_460 : zcod 159 460 = some (.iconst 1, 1, 0, 0, 0, 0) := by decide +kernel
theorem c159_461 : zcod 159 461 = some (.iadd, 1, 0, 0, 0, 0) := by decide +kernel
theorem c159_462 : zcod 159 462 = some (.iaload, 1, 0, 0, 0, 0) := by decide +kernel
theorem c159_463 : zcod 159 463 = some (.aload_n 0, 1, 0, 0, 0, 0) := by decide +kernel
theorem c159_464 : zcod 159 464 = some (.iload_n 3, 1, 0, 0, 0, 0) := by decide +kernel
theorem c159_465 : zcod 159 465 = some (.iconst 2, 1, 0, 0, 0, 0) := by decide +kernel
theorem c159_466 : zcod 159 466 = some (.iadd, 1, 0, 0, 0, 0) := by decide +kernel
theorem c159_467 : zcod 159 467 = some (.iaload, 1, 0, 0, 0, 0) := by decide +kernel
theorem c159_468 : zcod 159 468 = some (.invokevirtual 64, 3, 86, 2, 684, 0) := by decide +kernel
theorem c159_471 : zcod 159 471 = some (.aload_n 2, 1, 0, 0, 0, 0) := by decide +kernel
theorem c159_472 : zcod 159 472 = some (.aload_n 0, 1, 0, 0, 0, 0) := by decide +kernel
theorem c159_473 : zcod 159 473 = some (.iload_n 3, 1, 0, 0, 0, 0) := by decide +kernel
theorem c159_474 : zcod 159 474 = some (.iconst 1, 1, 0, 0, 0, 0) := by decide +kernel
theorem c159_475 : zcod 159 475 = some (.iadd, 1, 0, 0, 0, 0) := by decide +kernel
theorem c159_476 : zcod 159 476 = some (.iaload, 1, 0, 0, 0, 0) := by decide +kernel
theorem c159_477 : zcod 159 477 = some (.aload_n 0, 1, 0, 0, 0, 0) := by decide +kernel
theorem c159_478 : zcod 159 478 = some (.iload_n 3, 1, 0, 0, 0, 0) := by decide +kernel
theorem c159_479 : zcod 159 479 = some (.iconst 2, 1, 0, 0, 0, 0) := by decide +kernel
theorem c159_480 : zcod 159 480 = some (.iadd, 1, 0, 0, 0, 0) := by decide +kernel
theorem c159_481 : zcod 159 481 = some (.iaload, 1, 0, 0, 0, 0) := by decide +kernel
theorem c159_482 : zcod 159 482 = some (.invokevirtual 67, 3, 144, 2, 1051, 0) := by decide +kernel
theorem c159_485 : zcod 159 485 = some (.if_icmp .eq 216, 3, 701, 0, 0, 0) := by decide +kernel
theorem c159_488 : zcod 159 488 = some (.iconst 0, 1, 0, 0, 0, 0) := by decide +kernel
theorem c159_489 : zcod 159 489 = some (.ireturn, 1, 0, 0, 0, 0) := by decide +kernel
theorem c159_490 : zcod 159 490 = some (.aload_n 1, 1, 0, 0, 0, 0) := by decide +kernel
theorem c159_491 : zcod 159 491 = some (.aload_n 0, 1, 0, 0, 0, 0) := by decide +kernel
theorem c159_492 : zcod 159 492 = some (.iload_n 3, 1, 0, 0, 0, 0) := by decide +kernel
theorem c159_493 : zcod 159 493 = some (.iconst 1, 1, 0, 0, 0, 0) := by decide +kernel
theorem c159_494 : zcod 159 494 = some (.iadd, 1, 0, 0, 0, 0) := by decide +kernel
theorem c159_495 : zcod 159 495 = some (.iaload, 1, 0, 0, 0, 0) := by decide +kernel
theorem c159_496 : zcod 159 496 = some (.aload_n 0, 1, 0, 0, 0, 0) := by decide +kernel
theorem c159_497 : zcod 159 497 = some (.iload_n 3, 1, 0, 0, 0, 0) := by decide +kernel
theorem c159_498 : zcod 159 498 = some (.iconst 2, 1, 0, 0, 0, 0) := by decide +kernel
theorem c159_499 : zcod 159 499 = some (.iadd, 1, 0, 0, 0, 0) := by decide +kernel
theorem c159_500 : zcod 159 500 = some (.iaload, 1, 0, 0, 0, 0) := by decide +kernel
theorem c159_501 : zcod 159 501 = some (.aload_n 0, 1, 0, 0, 0, 0) := by decide +kernel
theorem c159_502 : zcod 159 502 = some (.iload_n 3, 1, 0, 0, 0, 0) := by decide +kernel
theorem c159_503 : zcod 159 503 = some (.iconst 3, 1, 0, 0, 0, 0) := by decide +kernel
theorem c159_504 : zcod 159 504 = some (.iadd, 1, 0, 0, 0, 0) := by decide +kernel
theorem c159_505 : zcod 159 505 = some (.iaload, 1, 0, 0, 0, 0) := by decide +kernel
theorem c159_506 : zcod 159 506 = some (.invokevirtual 68, 3, 87, 3, 689, 0) := by decide +kernel
theorem c159_509 : zcod 159 509 = some (.aload_n 2, 1, 0, 0, 0, 0) := by decide +kernel
theorem c159_510 : zcod 159 510 = some (.aload_n 0, 1, 0, 0, 0, 0) := by decide +kernel
theorem c159_511 : zcod 159 511 = some (.iload_n 3, 1, 0, 0, 0, 0) := by decide +kernel
theorem c159_512 : zcod 159 512 = some (.iconst 1, 1, 0, 0, 0, 0) := by decide +kernel
theorem c159_513 : zcod 159 513 = some (.iadd, 1, 0, 0, 0, 0) := by decide +kernel
theorem c159_514 : zcod 159 514 = some (.iaload, 1, 0, 0, 0, 0) := by decide +kernel
theorem c159_515 : zcod 159 515 = some (.aload_n 0, 1, 0, 0, 0, 0) := by decide +kernel
theorem c159_516 : zcod 159 516 = some (.iload_n 3, 1, 0, 0, 0, 0) := by decide +kernel
theorem c159_517 : zcod 159 517 = some (.iconst 2, 1, 0, 0, 0, 0) := by decide +kernel
theorem c159_518 : zcod 159 518 = some (.iadd, 1, 0, 0, 0, 0) := by decide +kernel
theorem c159_519 : zcod 159 519 = some (.iaload, 1, 0, 0, 0, 0) := by decide +kernel
theorem c159_520 : zcod 159 520 = some (.aload_n 0, 1, 0, 0, 0, 0) := by decide +kernel
theorem c159_521 : zcod 159 521 = some (.iload_n 3, 1, 0, 0, 0, 0) := by decide +kernel
theorem c159_522 : zcod 159 522 = some (.iconst 3, 1, 0, 0, 0, 0) := by decide +kernel
theorem c159_523 : zcod 159 523 = some (.iadd, 1, 0, 0, 0, 0) := by decide +kernel
theorem c159_524 : zcod 159 524 = some (.iaload, 1, 0, 0, 0, 0) := by decide +kernel
theorem c159_525 : zcod 159 525 = some (.invokevirtual 71, 3, 145, 3, 1055, 0) := by decide +kernel
theorem c159_528 : zcod 159 528 = some (.if_icmp .eq 173, 3, 701, 0, 0, 0) := by decide +kernel
theorem c159_531 : zcod 159 531 = some (.iconst 0, 1, 0, 0, 0, 0) := by decide +kernel
theorem c159_532 : zcod 159 532 = some (.ireturn, 1, 0, 0, 0, 0) := by decide +kernel
theorem c159_533 : zcod 159 533 = some (.aload_n 1, 1, 0, 0, 0, 0) := by decide +kernel
theorem c159_534 : zcod 159 534 = some (.aload_n 0, 1, 0, 0, 0, 0) := by decide +kernel
theorem c159_535 : zcod 159 535 = some (.iload_n 3, 1, 0, 0, 0, 0) := by decide +kernel
theorem c159_536 : zcod 159 536 = some (.iconst 1, 1, 0, 0, 0, 0) := by decide +kernel
theorem c159_537 : zcod 159 537 = some (.iadd, 1, 0, 0, 0, 0) := by decide +kernel
theorem c159_538 : zcod 159 538 = some (.iaload, 1, 0, 0, 0, 0) := by decide +kernel
theorem c159_539 : zcod 159 539 = some (.invokevirtual 72, 3, 88, 1, 693, 0) := by decide +kernel
theorem c159_542 : zcod 159 542 = some (.aload_n 2, 1, 0, 0, 0, 0) := by decide +kernel
theorem c159_543 : zcod 159 543 = some (.aload_n 0, 1, 0, 0, 0, 0) := by decide +kernel
theorem c159_544 : zcod 159 544 = some (.iload_n 3, 1, 0, 0, 0, 0) := by decide +kernel
theorem c159_545 : zcod 159 545 = some (.iconst 1, 1, 0, 0, 0, 0) := by decide +kernel
theorem c159_546 : zcod 159 546 = some (.iadd, 1, 0, 0, 0, 0) := by decide +kernel
theorem c159_547 : zcod 159 547 = some (.iaload, 1, 0, 0, 0, 0) := by decide +kernel
theorem c159_548 : zcod 159 548 = some (.invokevirtual 75, 3, 146, 1, 1060, 0) := by decide +kernel
theorem c159_551 : zcod 159 551 = some (.if_icmp .eq 150, 3, 701, 0, 0, 0) := by decide +kernel
theorem c159_554 : zcod 159 554 = some (.iconst 0, 1, 0, 0, 0, 0) := by decide +kernel
theorem c159_555 : zcod 159 555 = some (.ireturn, 1, 0, 0, 0, 0) := by decide +kernel
theorem c159_556 : zcod 159 556 = some (.aload_n 1, 1, 0, 0, 0, 0) := by decide +kernel
theorem c159_557 : zcod 159 557 = some (.aload_n 0, 1, 0, 0, 0, 0) := by decide +kernel
theorem c159_558 : zcod 159 558 = some (.iload_n 3, 1, 0, 0, 0, 0) := by decide +kernel
theorem c159_559 : zcod 159 559 = some (.iconst 1, 1, 0, 0, 0, 0) := by decide +kernel
theorem c159_560 : zcod 159 560 = some (.iadd, 1, 0, 0, 0, 0) := by decide +kernel
theorem c159_561 : zcod 159 561 = some (.iaload, 1, 0, 0, 0, 0) := by decide +kernel
theorem c159_562 : zcod 159 562 = some (.invokevirtual 76, 3, 89, 1, 697, 0) := by decide +kernel
theorem c159_565 : zcod 159 565 = some (.aload_n 2, 1, 0, 0, 0, 0) := by decide +kernel
theorem c159_566 : zcod 159 566 = some (.aload_n 0, 1, 0, 0, 0, 0) := by decide +kernel
theorem c159_567 : zcod 159 567 = some (.iload_n 3, 1, 0, 0, 0, 0) := by decide +kernel
theorem c159_568 : zcod 159 568 = some (.iconst 1, 1, 0, 0, 0, 0) := by decide +kernel
theorem c159_569 : zcod 159 569 = some (.iadd, 1, 0, 0, 0, 0) := by decide +kernel
theorem c159_570 : zcod 159 570 = some (.iaload, 1, 0, 0, 0, 0) := by decide +kernel
theorem c159_571 : zcod 159 571 = some (.invokevirtual 79, 3, 147, 1, 1065, 0) := by decide +kernel
theorem c159_574 : zcod 159 574 = some (.if_icmp .eq 127, 3, 701, 0, 0, 0) := by decide +kernel
theorem c159_577 : zcod 159 577 = some (.iconst 0, 1, 0, 0, 0, 0) := by decide +kernel
theorem c159_578 : zcod 159 578 = some (.ireturn, 1, 0, 0, 0, 0) := by decide +kernel
theorem c159_579 : zcod 159 579 = some (.aload_n 1, 1, 0, 0, 0, 0) := by decide +kernel
theorem c159_580 : zcod 159 580 = some (.aload_n 0, 1, 0, 0, 0, 0) := by decide +kernel
theorem c159_581 : zcod 159 581 = some (.iload_n 3, 1, 0, 0, 0, 0) := by decide +kernel
theorem c159_582 : zcod 159 582 = some (.iconst 1, 1, 0, 0, 0, 0) := by decide +kernel
theorem c159_583 : zcod 159 583 = some (.iadd, 1, 0, 0, 0, 0) := by decide +kernel
theorem c159_584 : zcod 159 584 = some (.iaload, 1, 0, 0, 0, 0) := by decide +kernel
theorem c159_585 : zcod 159 585 = some (.aload_n 0, 1, 0, 0, 0, 0) := by decide +kernel
theorem c159_586 : zcod 159 586 = some (.iload_n 3, 1, 0, 0, 0, 0) := by decide +kernel
theorem c159_587 : zcod 159 587 = some (.iconst 2, 1, 0, 0, 0, 0) := by decide +kernel
theorem c159_588 : zcod 159 588 = some (.iadd, 1, 0, 0, 0, 0) := by decide +kernel
theorem c159_589 : zcod 159 589 = some (.iaload, 1, 0, 0, 0, 0) := by decide +kernel
theorem c159_590 : zcod 159 590 = some (.invokevirtual 80, 3, 101, 2, 749, 0) := by decide +kernel
theorem c159_593 : zcod 159 593 = some (.aload_n 2, 1, 0, 0, 0, 0) := by decide +kernel
theorem c159_594 : zcod 159 594 = some (.aload_n 0, 1, 0, 0, 0, 0) := by decide +kernel
theorem c159_595 : zcod 159 595 = some (.iload_n 3, 1, 0, 0, 0, 0) := by decide +kernel
theorem c159_596 : zcod 159 596 = some (.iconst 1, 1, 0, 0, 0, 0) := by decide +kernel
theorem c159_597 : zcod 159 597 = some (.iadd, 1, 0, 0, 0, 0) := by decide +kernel
theorem c159_598 : zcod 159 598 = some (.iaload, 1, 0, 0, 0, 0) := by decide +kernel
theorem c159_599 : zcod 159 599 = some (.aload_n 0, 1, 0, 0, 0, 0) := by decide +kernel
theorem c159_600 : zcod 159 600 = some (.iload_n 3, 1, 0, 0, 0, 0) := by decide +kernel
theorem c159_601 : zcod 159 601 = some (.iconst 2, 1, 0, 0, 0, 0) := by decide +kernel
theorem c159_602 : zcod 159 602 = some (.iadd, 1, 0, 0, 0, 0) := by decide +kernel
theorem c159_603 : zcod 159 603 = some (.iaload, 1, 0, 0, 0, 0) := by decide +kernel
theorem c159_604 : zcod 159 604 = some (.invokevirtual 83, 3, 153, 2, 1090, 0) := by decide +kernel
theorem c159_607 : zcod 159 607 = some (.if_icmp .eq 94, 3, 701, 0, 0, 0) := by decide +kernel
theorem c159_610 : zcod 159 610 = some (.iconst 0, 1, 0, 0, 0, 0) := by decide +kernel
theorem c159_611 : zcod 159 611 = some (.ireturn, 1, 0, 0, 0, 0) := by decide +kernel
theorem c159_612 : zcod 159 612 = some (.aload_n 1, 1, 0, 0, 0, 0) := by decide +kernel
theorem c159_613 : zcod 159 613 = some (.aload_n 0, 1, 0, 0, 0, 0) := by decide +kernel
theorem c159_614 : zcod 159 614 = some (.iload_n 3, 1, 0, 0, 0, 0) := by decide +kernel
theorem c159_615 : zcod 159 615 = some (.iconst 1, 1, 0, 0, 0, 0) := by decide +kernel
theorem c159_616 : zcod 159 616 = some (.iadd, 1, 0, 0, 0, 0) := by decide +kernel
theorem c159_617 : zcod 159 617 = some (.iaload, 1, 0, 0, 0, 0) := by decide +kernel
theorem c159_618 : zcod 159 618 = some (.aload_n 0, 1, 0, 0, 0, 0) := by decide +kernel
theorem c159_619 : zcod 159 619 = some (.iload_n 3, 1, 0, 0, 0, 0) := by decide +kernel
theorem c159_620 : zcod 159 620 = some (.iconst 2, 1, 0, 0, 0, 0) := by decide +kernel
theorem c159_621 : zcod 159 621 = some (.iadd, 1, 0, 0, 0, 0) := by decide +kernel
theorem c159_622 : zcod 159 622 = some (.iaload, 1, 0, 0, 0, 0) := by decide +kernel
theorem c159_623 : zcod 159 623 = some (.invokevirtual 84, 3, 103, 2, 757, 0) := by decide +kernel
theorem c159_626 : zcod 159 626 = some (.aload_n 2, 1, 0, 0, 0, 0) := by decide +kernel
theorem c159_627 : zcod 159 627 = some (.aload_n 0, 1, 0, 0, 0, 0) := by decide +kernel
theorem c159_628 : zcod 159 628 = some (.iload_n 3, 1, 0, 0, 0, 0) := by decide +kernel
theorem c159_629 : zcod 159 629 = some (.iconst 1, 1, 0, 0, 0, 0) := by decide +kernel
theorem c159_630 : zcod 159 630 = some (.iadd, 1, 0, 0, 0, 0) := by decide +kernel
theorem c159_631 : zcod 159 631 = some (.iaload, 1, 0, 0, 0, 0) := by decide +kernel
theorem c159_632 : zcod 159 632 = some (.aload_n 0, 1, 0, 0, 0, 0) := by decide +kernel
theorem c159_633 : zcod 159 633 = some (.iload_n 3, 1, 0, 0, 0, 0) := by decide +kernel
theorem c159_634 : zcod 159 634 = some (.iconst 2, 1, 0, 0, 0, 0) := by decide +kernel
theorem c159_635 : zcod 159 635 = some (.iadd, 1, 0, 0, 0, 0) := by decide +kernel
theorem c159_636 : zcod 159 636 = some (.iaload, 1, 0, 0, 0, 0) := by decide +kernel
theorem c159_637 : zcod 159 637 = some (.invokevirtual 87, 3, 154, 2, 1094, 0) := by decide +kernel
theorem c159_640 : zcod 159 640 = some (.if_icmp .eq 61, 3, 701, 0, 0, 0) := by decide +kernel
theorem c159_643 : zcod 159 643 = some (.iconst 0, 1, 0, 0, 0, 0) := by decide +kernel
theorem c159_644 : zcod 159 644 = some (.ireturn, 1, 0, 0, 0, 0) := by decide +kernel
theorem c159_645 : zcod 159 645 = some (.aload_n 1, 1, 0, 0, 0, 0) := by decide +kernel
theorem c159_646 : zcod 159 646 = some (.aload_n 0, 1, 0, 0, 0, 0) := by decide +kernel
theorem c159_647 : zcod 159 647 = some (.iload_n 3, 1, 0, 0, 0, 0) := by decide +kernel
theorem c159_648 : zcod 159 648 = some (.iconst 1, 1, 0, 0, 0, 0) := by decide +kernel
theorem c159_649 : zcod 159 649 = some (.iadd, 1, 0, 0, 0, 0) := by decide +kernel
theorem c159_650 : zcod 159 650 = some (.iaload, 1, 0, 0, 0, 0) := by decide +kernel
theorem c159_651 : zcod 159 651 = some (.invokevirtual 88, 3, 106, 1, 770, 0) := by decide +kernel
theorem c159_654 : zcod 159 654 = some (.aload_n 2, 1, 0, 0, 0, 0) := by decide +kernel
theorem c159_655 : zcod 159 655 = some (.aload_n 0, 1, 0, 0, 0, 0) := by decide +kernel
theorem c159_656 : zcod 159 656 = some (.iload_n 3, 1, 0, 0, 0, 0) := by decide +kernel
theorem c159_657 : zcod 159 657 = some (.iconst 1, 1, 0, 0, 0, 0) := by decide +kernel
theorem c159_658 : zcod 159 658 = some (.iadd, 1, 0, 0, 0, 0) := by decide +kernel
theorem c159_659 : zcod 159 659 = some (.iaload, 1, 0, 0, 0, 0) := by decide +kernel
theorem c159_660 : zcod 159 660 = some (.invokevirtual 91, 3, 156, 1, 1102, 0) := by decide +kernel
theorem c159_663 : zcod 159 663 = some (.if_icmp .eq 38, 3, 701, 0, 0, 0) := by decide +kernel
theorem c159_666 : zcod 159 666 = some (.iconst 0, 1, 0, 0, 0, 0) := by decide +kernel
theorem c159_667 : zcod 159 667 = some (.ireturn, 1, 0, 0, 0, 0) := by decide +kernel
theorem c159_668 : zcod 159 668 = some (.aload_n 1, 1, 0, 0, 0, 0) := by decide +kernel
theorem c159_669 : zcod 159 669 = some (.aload_n 0, 1, 0, 0, 0, 0) := by decide +kernel
theorem c159_670 : zcod 159 670 = some (.iload_n 3, 1, 0, 0, 0, 0) := by decide +kernel
theorem c159_671 : zcod 159 671 = some (.iconst 1, 1, 0, 0, 0, 0) := by decide +kernel
theorem c159_672 : zcod 159 672 = some (.iadd, 1, 0, 0, 0, 0) := by decide +kernel
theorem c159_673 : zcod 159 673 = some (.iaload, 1, 0, 0, 0, 0) := by decide +kernel
theorem c159_674 : zcod 159 674 = some (.aload_n 0, 1, 0, 0, 0, 0) := by decide +kernel
theorem c159_675 : zcod 159 675 = some (.iload_n 3, 1, 0, 0, 0, 0) := by decide +kernel
theorem c159_676 : zcod 159 676 = some (.iconst 2, 1, 0, 0, 0, 0) := by decide +kernel
theorem c159_677 : zcod 159 677 = some (.iadd, 1, 0, 0, 0, 0) := by decide +kernel
theorem c159_678 : zcod 159 678 = some (.iaload, 1, 0, 0, 0, 0) := by decide +kernel
theorem c159_679 : zcod 159 679 = some (.invokevirtual 92, 3, 109, 2, 782, 0) := by decide +kernel
theorem c159_682 : zcod 159 682 = some (.aload_n 2, 1, 0, 0, 0, 0) := by decide +kernel
theorem c159_683 : zcod 159 683 = some (.aload_n 0, 1, 0, 0, 0, 0) := by decide +kernel
theorem c159_684 : zcod 159 684 = some (.iload_n 3, 1, 0, 0, 0, 0) := by decide +kernel
theorem c159_685 : zcod 159 685 = some (.iconst 1, 1, 0, 0, 0, 0) := by decide +kernel
theorem c159_686 : zcod 159 686 = some (.iadd, 1, 0, 0, 0, 0) := by decide +kernel
theorem c159_687 : zcod 159 687 = some (.iaload, 1, 0, 0, 0, 0) := by decide +kernel
theorem c159_688 : zcod 159 688 = some (.aload_n 0, 1, 0, 0, 0, 0) := by decide +kernel
theorem c159_689 : zcod 159 689 = some (.iload_n 3, 1, 0, 0, 0, 0) := by decide +kernel
theorem c159_690 : zcod 159 690 = some (.iconst 2, 1, 0, 0, 0, 0) := by decide +kernel
theorem c159_691 : zcod 159 691 = some (.iadd, 1, 0, 0, 0, 0) := by decide +kernel
theorem c159_692 : zcod 159 692 = some (.iaload, 1, 0, 0, 0, 0) := by decide +kernel
theorem c159_693 : zcod 159 693 = some (.invokevirtual 95, 3, 158, 2, 1110, 0) := by decide +kernel
theorem c159_696 : zcod 159 696 = some (.if_icmp .eq 5, 3, 701, 0, 0, 0) := by decide +kernel
theorem c159_699 : zcod 159 699 = some (.iconst 0, 1, 0, 0, 0, 0) := by decide +kernel
theorem c159_700 : zcod 159 700 = some (.ireturn, 1, 0, 0, 0, 0) := by decide +kernel
theorem c159_701 : zcod 159 701 = some (.iinc 3 4, 3, 0, 0, 0, 0) := by decide +kernel
theorem c159_704 : zcod 159 704 = some (.goto (-686), 3, 18, 0, 0, 0) := by decide +kernel
theorem c159_707 : zcod 159 707 = some (.iconst 1, 1, 0, 0, 0, 0) := by decide +kernel
theorem c159_708 : zcod 159 708 = some (.ireturn, 1, 0, 0, 0, 0) := by decide +kernel
set_option maxRecDepth 100000 in
theorem b159_0 (l0 : Option Nat) (h : zH) : zev 159 0 [some (vR l0), none, none, none] [] h = (zno h 8 fun x1 h2 => (zul x1 none (zcV 0 [vR x1] h2 fun h3 => (zno h3 9 fun x4 h5 => (zul x4 none (zcV 111 [vR x4] h5 fun h6 => zev 159 18 [some (vR l0), some (vR x1), some (vR x4), some (vI 0)] [] h6)))))) := by
  refine (zv_new c159_0).trans (zno_c fun x1 h2 => ?_)
  refine (zv_dup c159_3 rfl).trans ?_
  refine (zv_spV c159_4 (by decide) rfl zL_0 zrt_0 rfl rfl).trans (zul_c rfl (zcV_c fun h3 => ?_))
  refine (zv_at c159_7 rfl).trans ?_
  refine (zv_new c159_8).trans (zno_c fun x4 h5 => ?_)
  refine (zv_dup c159_11 rfl).trans ?_
  refine (zv_spV c159_12 (by decide) rfl zL_111 zrt_111 rfl rfl).trans (zul_c rfl (zcV_c fun h6 => ?_))
  refine (zv_at c159_15 rfl).trans ?_
  refine (zv_k (v := 0) c159_16 (by decide)).trans ?_
  refine (zv_it c159_17 rfl).trans ?_
  rfl
theorem e159 (l0 : Option Nat) (h : zH) : zcall 159 [vR l0] h = (zno h 8 fun x1 h2 => (zul x1 none (zcV 0 [vR x1] h2 fun h3 => (zno h3 9 fun x4 h5 => (zul x4 none (zcV 111 [vR x4] h5 fun h6 => zev 159 18 [some (vR l0), some (vR x1), some (vR x4), some (vI 0)] [] h6)))))) := by
  refine Eq.trans ?_ (b159_0 l0 h)
  unfold zcall zent
  rw [zL_159]
  rfl
set_option maxRecDepth 100000 in
theorem b159_18 (l0 : Option Nat) (l1 : Option Nat) (l2 : Option Nat) (l3 : Int32) (h : zH) : zev 159 18 [some (vR l0), some (vR l1), some (vR l2), some (vI l3)] [] h = (zal h l0 fun x1 => (if (x1 - 4) < l3 then zbo 1 (some (some (vI 1), h)) else (zaI h l0 l3 fun x2 => (if (x2 &&& 31) = 0 then zev 159 124 [some (vR l0), some (vR l1), some (vR l2), some (vI l3)] [] h else (if (x2 &&& 31) = 1 then (zvr h l1 8 (zcI 12 [vR l1] h fun x4 h3 => (zvr h3 l2 9 (zcI 114 [vR l2] h3 fun x6 h5 => (if x4 = x6 then zev 159 18 [some (vR l0), some (vR l1), some (vR l2), some (vI (l3 + 4))] [] h5 else zbo 0 (some (some (vI 0), h5))))))) else (if (x2 &&& 31) = 2 then (zvr h l1 8 (zcI 47 [vR l1] h fun x8 h7 => (zvr h7 l2 9 (zcI 125 [vR l2] h7 fun x10 h9 => (if x8 = x10 then zev 159 18 [some (vR l0), some (vR l1), some (vR l2), some (vI (l3 + 4))] [] h9 else zbo 0 (some (some (vI 0), h9))))))) else (if (x2 &&& 31) = 3 then zev 159 213 [some (vR l0), some (vR l1), some (vR l2), some (vI l3)] [] h else (if (x2 &&& 31) = 4 then zev 159 246 [some (vR l0), some (vR l1), some (vR l2), some (vI l3)] [] h else (if (x2 &&& 31) = 5 then zev 159 279 [some (vR l0), some (vR l1), some (vR l2), some (vI l3)] [] h else (if (x2 &&& 31) = 6 then zev 159 302 [some (vR l0), some (vR l1), some (vR l2), some (vI l3)] [] h else (if (x2 &&& 31) = 7 then zev 159 335 [some (vR l0), some (vR l1), some (vR l2), some (vI l3)] [] h else (if (x2 &&& 31) = 8 then zev 159 358 [some (vR l0), some (vR l1), some (vR l2), some (vI l3)] [] h else (if (x2 &&& 31) = 9 then zev 159 391 [some (vR l0), some (vR l1), some (vR l2), some (vI l3)] [] h else (if (x2 &&& 31) = 10 then zev 159 434 [some (vR l0), some (vR l1), some (vR l2), some (vI l3)] [] h else (if (x2 &&& 31) = 11 then zev 159 457 [some (vR l0), some (vR l1), some (vR l2), some (vI l3)] [] h else (if (x2 &&& 31) = 12 then zev 159 490 [some (vR l0), some (vR l1), some (vR l2), some (vI l3)] [] h else (if (x2 &&& 31) = 13 then zev 159 533 [some (vR l0), some (vR l1), some (vR l2), some (vI l3)] [] h else (if (x2 &&& 31) = 14 then zev 159 556 [some (vR l0), some (vR l1), some (vR l2), some (vI l3)] [] h else (if (x2 &&& 31) = 15 then zev 159 579 [some (vR l0), some (vR l1), some (vR l2), some (vI l3)] [] h else (if (x2 &&& 31) = 16 then zev 159 612 [some (vR l0), some (vR l1), some (vR l2), some (vI l3)] [] h else (if (x2 &&& 31) = 17 then zev 159 645 [some (vR l0), some (vR l1), some (vR l2), some (vI l3)] [] h else (if (x2 &&& 31) = 18 then zev 159 668 [some (vR l0), some (vR l1), some (vR l2), some (vI l3)] [] h else zev 159 18 [some (vR l0), some (vR l1), some (vR l2), some (vI (l3 + 4))] [] h)))))))))))))))))))))) := by
  refine (zv_in c159_18 rfl).trans ?_
  refine (zv_an c159_19 rfl).trans ?_
  refine (zv_al2 c159_20).trans (zal_c fun x1 => ?_)
  refine (zv_k (v := 4) c159_21 (by decide)).trans ?_
  refine (zv_isub c159_22).trans ?_
  refine (zv_icgt c159_23).trans (zif_c ?_ ?_)
  · refine (zv_k (v := 1) c159_707 (by decide)).trans ?_
    exact zv_iz c159_708 zrt_159
  · refine (zv_an c159_26 rfl).trans ?_
    refine (zv_in c159_27 rfl).trans ?_
    refine (zv_aI c159_28).trans (zaI_c fun x2 => ?_)
    refine (zv_bi (v := 31) c159_29 (by decide)).trans ?_
    refine (zv_iand c159_31).trans ?_
    refine (zv_ts c159_32 (dt := 701) (T := [124, 187, 200, 213, 246, 279, 302, 335, 358, 391, 434, 457, 490, 533, 556, 579, 612, 645, 668]) (by decide) (by decide) (by decide) (by decide)).trans ?_
    refine (zsl_k (v := 0) (by decide)).trans (zif_c ?_ ?_)
    · rfl
    · refine (zsl_k (v := 1) (by decide)).trans (zif_c ?_ ?_)
      · refine (zv_an c159_187 rfl).trans ?_
        refine (zv_viI c159_188 zcn_12 rfl zL_12 (Or.inl zrt_12) rfl rfl).trans (zvr_c (zcI_c fun x4 h3 => ?_))
        refine (zv_an c159_191 rfl).trans ?_
        refine (zv_viI c159_192 zcn_114 rfl zL_114 (Or.inl zrt_114) rfl rfl).trans (zvr_c (zcI_c fun x6 h5 => ?_))
        refine (zv_iceq c159_195).trans (zif_c ?_ ?_)
        · refine (zv_inc (y := 4) c159_701 rfl (by decide) rfl).trans ?_
          refine (zv_goto c159_704).trans ?_
          rfl
        · refine (zv_k (v := 0) c159_198 (by decide)).trans ?_
          exact zv_iz c159_199 zrt_159
      · refine (zsl_k (v := 2) (by decide)).trans (zif_c ?_ ?_)
        · refine (zv_an c159_200 rfl).trans ?_
          refine (zv_viI c159_201 zcn_47 rfl zL_47 (Or.inl zrt_47) rfl rfl).trans (zvr_c (zcI_c fun x8 h7 => ?_))
          refine (zv_an c159_204 rfl).trans ?_
          refine (zv_viI c159_205 zcn_125 rfl zL_125 (Or.inl zrt_125) rfl rfl).trans (zvr_c (zcI_c fun x10 h9 => ?_))
          refine (zv_iceq c159_208).trans (zif_c ?_ ?_)
          · refine (zv_inc (y := 4) c159_701 rfl (by decide) rfl).trans ?_
            refine (zv_goto c159_704).trans ?_
            rfl
          · refine (zv_k (v := 0) c159_211 (by decide)).trans ?_
            exact zv_iz c159_212 zrt_159
        · refine (zsl_k (v := 3) (by decide)).trans (zif_c ?_ ?_)
          · rfl
          · refine (zsl_k (v := 4) (by decide)).trans (zif_c ?_ ?_)
            · rfl
            · refine (zsl_k (v := 5) (by decide)).trans (zif_c ?_ ?_)
              · rfl
              · refine (zsl_k (v := 6) (by decide)).trans (zif_c ?_ ?_)
                · rfl
                · refine (zsl_k (v := 7) (by decide)).trans (zif_c ?_ ?_)
                  · rfl
                  · refine (zsl_k (v := 8) (by decide)).trans (zif_c ?_ ?_)
                    · rfl
                    · refine (zsl_k (v := 9) (by decide)).trans (zif_c ?_ ?_)
                      · rfl
                      · refine (zsl_k (v := 10) (by decide)).trans (zif_c ?_ ?_)
                        · rfl
                        · refine (zsl_k (v := 11) (by decide)).trans (zif_c ?_ ?_)
                          · rfl
                          · refine (zsl_k (v := 12) (by decide)).trans (zif_c ?_ ?_)
                            · rfl
                            · refine (zsl_k (v := 13) (by decide)).trans (zif_c ?_ ?_)
                              · rfl
                              · refine (zsl_k (v := 14) (by decide)).trans (zif_c ?_ ?_)
                                · rfl
                                · refine (zsl_k (v := 15) (by decide)).trans (zif_c ?_ ?_)
                                  · rfl
                                  · refine (zsl_k (v := 16) (by decide)).trans (zif_c ?_ ?_)
                                    · rfl
                                    · refine (zsl_k (v := 17) (by decide)).trans (zif_c ?_ ?_)
                                      · rfl
                                      · refine (zsl_k (v := 18) (by decide)).trans (zif_c ?_ ?_)
                                        · rfl
                                        · refine zsl_n.trans ?_
                                          refine (zv_inc (y := 4) c159_701 rfl (by decide) rfl).trans ?_
                                          refine (zv_goto c159_704).trans ?_
                                          rfl
set_option maxRecDepth 100000 in
theorem b159_124 (l0 : Option Nat) (l1 : Option Nat) (l2 : Option Nat) (l3 : Int32) (h : zH) : zev 159 124 [some (vR l0), some (vR l1), some (vR l2), some (vI l3)] [] h = (zaI h l0 (l3 + 1) fun x1 => (zaI h l0 (l3 + 2) fun x2 => (zaI h l0 (l3 + 3) fun x3 => (zvr h l1 8 (zcI 10 [vR l1, vI x1, vL (((Int32.toInt64 x2) <<< (Int32.toInt64 32 &&& 63)) ||| ((Int32.toInt64 x3) &&& 4294967295))] h fun x5 h4 => (zaI h4 l0 (l3 + 1) fun x6 => (zaI h4 l0 (l3 + 2) fun x7 => (zaI h4 l0 (l3 + 3) fun x8 => (zvr h4 l2 9 (zcI 112 [vR l2, vI x6, vL (((Int32.toInt64 x7) <<< (Int32.toInt64 32 &&& 63)) ||| ((Int32.toInt64 x8) &&& 4294967295))] h4 fun x10 h9 => (if x5 = x10 then zev 159 18 [some (vR l0), some (vR l1), some (vR l2), some (vI (l3 + 4))] [] h9 else zbo 0 (some (some (vI 0), h9))))))))))))) := by
  refine (zv_an c159_124 rfl).trans ?_
  refine (zv_an c159_125 rfl).trans ?_
  refine (zv_in c159_126 rfl).trans ?_
  refine (zv_k (v := 1) c159_127 (by decide)).trans ?_
  refine (zv_iadd c159_128).trans ?_
  refine (zv_aI c159_129).trans (zaI_c fun x1 => ?_)
  refine (zv_an c159_130 rfl).trans ?_
  refine (zv_in c159_131 rfl).trans ?_
  refine (zv_k (v := 2) c159_132 (by decide)).trans ?_
  refine (zv_iadd c159_133).trans ?_
  refine (zv_aI c159_134).trans (zaI_c fun x2 => ?_)
  refine (zv_i2l c159_135).trans ?_
  refine (zv_bi (v := 32) c159_136 (by decide)).trans ?_
  refine (zv_lshl c159_138).trans ?_
  refine (zv_an c159_139 rfl).trans ?_
  refine (zv_in c159_140 rfl).trans ?_
  refine (zv_k (v := 3) c159_141 (by decide)).trans ?_
  refine (zv_iadd c159_142).trans ?_
  refine (zv_aI c159_143).trans (zaI_c fun x3 => ?_)
  refine (zv_i2l c159_144).trans ?_
  refine (zv_ld2 (v := 4294967295) c159_145 (by decide)).trans ?_
  refine (zv_land c159_148).trans ?_
  refine (zv_lor c159_149).trans ?_
  refine (zv_viI c159_150 zcn_10 rfl zL_10 (Or.inl zrt_10) rfl rfl).trans (zvr_c (zcI_c fun x5 h4 => ?_))
  refine (zv_an c159_153 rfl).trans ?_
  refine (zv_an c159_154 rfl).trans ?_
  refine (zv_in c159_155 rfl).trans ?_
  refine (zv_k (v := 1) c159_156 (by decide)).trans ?_
  refine (zv_iadd c159_157).trans ?_
  refine (zv_aI c159_158).trans (zaI_c fun x6 => ?_)
  refine (zv_an c159_159 rfl).trans ?_
  refine (zv_in c159_160 rfl).trans ?_
  refine (zv_k (v := 2) c159_161 (by decide)).trans ?_
  refine (zv_iadd c159_162).trans ?_
  refine (zv_aI c159_163).trans (zaI_c fun x7 => ?_)
  refine (zv_i2l c159_164).trans ?_
  refine (zv_bi (v := 32) c159_165 (by decide)).trans ?_
  refine (zv_lshl c159_167).trans ?_
  refine (zv_an c159_168 rfl).trans ?_
  refine (zv_in c159_169 rfl).trans ?_
  refine (zv_k (v := 3) c159_170 (by decide)).trans ?_
  refine (zv_iadd c159_171).trans ?_
  refine (zv_aI c159_172).trans (zaI_c fun x8 => ?_)
  refine (zv_i2l c159_173).trans ?_
  refine (zv_ld2 (v := 4294967295) c159_174 (by decide)).trans ?_
  refine (zv_land c159_177).trans ?_
  refine (zv_lor c159_178).trans ?_
  refine (zv_viI c159_179 zcn_112 rfl zL_112 (Or.inl zrt_112) rfl rfl).trans (zvr_c (zcI_c fun x10 h9 => ?_))
  refine (zv_iceq c159_182).trans (zif_c ?_ ?_)
  · refine (zv_inc (y := 4) c159_701 rfl (by decide) rfl).trans ?_
    refine (zv_goto c159_704).trans ?_
    rfl
  · refine (zv_k (v := 0) c159_185 (by decide)).trans ?_
    exact zv_iz c159_186 zrt_159
set_option maxRecDepth 100000 in
theorem b159_213 (l0 : Option Nat) (l1 : Option Nat) (l2 : Option Nat) (l3 : Int32) (h : zH) : zev 159 213 [some (vR l0), some (vR l1), some (vR l2), some (vI l3)] [] h = (zaI h l0 (l3 + 1) fun x1 => (zaI h l0 (l3 + 2) fun x2 => (zvr h l1 8 (zcI 48 [vR l1, vI x1, vI x2] h fun x4 h3 => (zaI h3 l0 (l3 + 1) fun x5 => (zaI h3 l0 (l3 + 2) fun x6 => (zvr h3 l2 9 (zcI 126 [vR l2, vI x5, vI x6] h3 fun x8 h7 => (if x4 = x8 then zev 159 18 [some (vR l0), some (vR l1), some (vR l2), some (vI (l3 + 4))] [] h7 else zbo 0 (some (some (vI 0), h7))))))))))) := by
  refine (zv_an c159_213 rfl).trans ?_
  refine (zv_an c159_214 rfl).trans ?_
  refine (zv_in c159_215 rfl).trans ?_
  refine (zv_k (v := 1) c159_216 (by decide)).trans ?_
  refine (zv_iadd c159_217).trans ?_
  refine (zv_aI c159_218).trans (zaI_c fun x1 => ?_)
  refine (zv_an c159_219 rfl).trans ?_
  refine (zv_in c159_220 rfl).trans ?_
  refine (zv_k (v := 2) c159_221 (by decide)).trans ?_
  refine (zv_iadd c159_222).trans ?_
  refine (zv_aI c159_223).trans (zaI_c fun x2 => ?_)
  refine (zv_viI c159_224 zcn_48 rfl zL_48 (Or.inl zrt_48) rfl rfl).trans (zvr_c (zcI_c fun x4 h3 => ?_))
  refine (zv_an c159_227 rfl).trans ?_
  refine (zv_an c159_228 rfl).trans ?_
  refine (zv_in c159_229 rfl).trans ?_
  refine (zv_k (v := 1) c159_230 (by decide)).trans ?_
  refine (zv_iadd c159_231).trans ?_
  refine (zv_aI c159_232).trans (zaI_c fun x5 => ?_)
  refine (zv_an c159_233 rfl).trans ?_
  refine (zv_in c159_234 rfl).trans ?_
  refine (zv_k (v := 2) c159_235 (by decide)).trans ?_
  refine (zv_iadd c159_236).trans ?_
  refine (zv_aI c159_237).trans (zaI_c fun x6 => ?_)
  refine (zv_viI c159_238 zcn_126 rfl zL_126 (Or.inl zrt_126) rfl rfl).trans (zvr_c (zcI_c fun x8 h7 => ?_))
  refine (zv_iceq c159_241).trans (zif_c ?_ ?_)
  · refine (zv_inc (y := 4) c159_701 rfl (by decide) rfl).trans ?_
    refine (zv_goto c159_704).trans ?_
    rfl
  · refine (zv_k (v := 0) c159_244 (by decide)).trans ?_
    exact zv_iz c159_245 zrt_159
set_option maxRecDepth 100000 in
theorem b159_246 (l0 : Option Nat) (l1 : Option Nat) (l2 : Option Nat) (l3 : Int32) (h : zH) : zev 159 246 [some (vR l0), some (vR l1), some (vR l2), some (vI l3)] [] h = (zaI h l0 (l3 + 1) fun x1 => (zaI h l0 (l3 + 2) fun x2 => (zvr h l1 8 (zcI 49 [vR l1, vI x1, vI x2] h fun x4 h3 => (zaI h3 l0 (l3 + 1) fun x5 => (zaI h3 l0 (l3 + 2) fun x6 => (zvr h3 l2 9 (zcI 128 [vR l2, vI x5, vI x6] h3 fun x8 h7 => (if x4 = x8 then zev 159 18 [some (vR l0), some (vR l1), some (vR l2), some (vI (l3 + 4))] [] h7 else zbo 0 (some (some (vI 0), h7))))))))))) := by
  refine (zv_an c159_246 rfl).trans ?_
  refine (zv_an c159_247 rfl).trans ?_
  refine (zv_in c159_248 rfl).trans ?_
  refine (zv_k (v := 1) c159_249 (by decide)).trans ?_
  refine (zv_iadd c159_250).trans ?_
  refine (zv_aI c159_251).trans (zaI_c fun x1 => ?_)
  refine (zv_an c159_252 rfl).trans ?_
  refine (zv_in c159_253 rfl).trans ?_
  refine (zv_k (v := 2) c159_254 (by decide)).trans ?_
  refine (zv_iadd c159_255).trans ?_
  refine (zv_aI c159_256).trans (zaI_c fun x2 => ?_)
  refine (zv_viI c159_257 zcn_49 rfl zL_49 (Or.inl zrt_49) rfl rfl).trans (zvr_c (zcI_c fun x4 h3 => ?_))
  refine (zv_an c159_260 rfl).trans ?_
  refine (zv_an c159_261 rfl).trans ?_
  refine (zv_in c159_262 rfl).trans ?_
  refine (zv_k (v := 1) c159_263 (by decide)).trans ?_
  refine (zv_iadd c159_264).trans ?_
  refine (zv_aI c159_265).trans (zaI_c fun x5 => ?_)
  refine (zv_an c159_266 rfl).trans ?_
  refine (zv_in c159_267 rfl).trans ?_
  refine (zv_k (v := 2) c159_268 (by decide)).trans ?_
  refine (zv_iadd c159_269).trans ?_
  refine (zv_aI c159_270).trans (zaI_c fun x6 => ?_)
  refine (zv_viI c159_271 zcn_128 rfl zL_128 (Or.inl zrt_128) rfl rfl).trans (zvr_c (zcI_c fun x8 h7 => ?_))
  refine (zv_iceq c159_274).trans (zif_c ?_ ?_)
  · refine (zv_inc (y := 4) c159_701 rfl (by decide) rfl).trans ?_
    refine (zv_goto c159_704).trans ?_
    rfl
  · refine (zv_k (v := 0) c159_277 (by decide)).trans ?_
    exact zv_iz c159_278 zrt_159
set_option maxRecDepth 100000 in
theorem b159_279 (l0 : Option Nat) (l1 : Option Nat) (l2 : Option Nat) (l3 : Int32) (h : zH) : zev 159 279 [some (vR l0), some (vR l1), some (vR l2), some (vI l3)] [] h = (zaI h l0 (l3 + 1) fun x1 => (zvr h l1 8 (zcI 59 [vR l1, vI x1] h fun x3 h2 => (zaI h2 l0 (l3 + 1) fun x4 => (zvr h2 l2 9 (zcI 136 [vR l2, vI x4] h2 fun x6 h5 => (if x3 = x6 then zev 159 18 [some (vR l0), some (vR l1), some (vR l2), some (vI (l3 + 4))] [] h5 else zbo 0 (some (some (vI 0), h5))))))))) := by
  refine (zv_an c159_279 rfl).trans ?_
  refine (zv_an c159_280 rfl).trans ?_
  refine (zv_in c159_281 rfl).trans ?_
  refine (zv_k (v := 1) c159_282 (by decide)).trans ?_
  refine (zv_iadd c159_283).trans ?_
  refine (zv_aI c159_284).trans (zaI_c fun x1 => ?_)
  refine (zv_viI c159_285 zcn_59 rfl zL_59 (Or.inl zrt_59) rfl rfl).trans (zvr_c (zcI_c fun x3 h2 => ?_))
  refine (zv_an c159_288 rfl).trans ?_
  refine (zv_an c159_289 rfl).trans ?_
  refine (zv_in c159_290 rfl).trans ?_
  refine (zv_k (v := 1) c159_291 (by decide)).trans ?_
  refine (zv_iadd c159_292).trans ?_
  refine (zv_aI c159_293).trans (zaI_c fun x4 => ?_)
  refine (zv_viI c159_294 zcn_136 rfl zL_136 (Or.inl zrt_136) rfl rfl).trans (zvr_c (zcI_c fun x6 h5 => ?_))
  refine (zv_iceq c159_297).trans (zif_c ?_ ?_)
  · refine (zv_inc (y := 4) c159_701 rfl (by decide) rfl).trans ?_
    refine (zv_goto c159_704).trans ?_
    rfl
  · refine (zv_k (v := 0) c159_300 (by decide)).trans ?_
    exact zv_iz c159_301 zrt_159
set_option maxRecDepth 100000 in
theorem b159_302 (l0 : Option Nat) (l1 : Option Nat) (l2 : Option Nat) (l3 : Int32) (h : zH) : zev 159 302 [some (vR l0), some (vR l1), some (vR l2), some (vI l3)] [] h = (zaI h l0 (l3 + 1) fun x1 => (zaI h l0 (l3 + 2) fun x2 => (zvr h l1 8 (zcI 64 [vR l1, vI x1, vI x2] h fun x4 h3 => (zaI h3 l0 (l3 + 1) fun x5 => (zaI h3 l0 (l3 + 2) fun x6 => (zvr h3 l2 9 (zcI 137 [vR l2, vI x5, vI x6] h3 fun x8 h7 => (if x4 = x8 then zev 159 18 [some (vR l0), some (vR l1), some (vR l2), some (vI (l3 + 4))] [] h7 else zbo 0 (some (some (vI 0), h7))))))))))) := by
  refine (zv_an c159_302 rfl).trans ?_
  refine (zv_an c159_303 rfl).trans ?_
  refine (zv_in c159_304 rfl).trans ?_
  refine (zv_k (v := 1) c159_305 (by decide)).trans ?_
  refine (zv_iadd c159_306).trans ?_
  refine (zv_aI c159_307).trans (zaI_c fun x1 => ?_)
  refine (zv_an c159_308 rfl).trans ?_
  refine (zv_in c159_309 rfl).trans ?_
  refine (zv_k (v := 2) c159_310 (by decide)).trans ?_
  refine (zv_iadd c159_311).trans ?_
  refine (zv_aI c159_312).trans (zaI_c fun x2 => ?_)
  refine (zv_viI c159_313 zcn_64 rfl zL_64 (Or.inl zrt_64) rfl rfl).trans (zvr_c (zcI_c fun x4 h3 => ?_))
  refine (zv_an c159_316 rfl).trans ?_
  refine (zv_an c159_317 rfl).trans ?_
  refine (zv_in c159_318 rfl).trans ?_
  refine (zv_k (v := 1) c159_319 (by decide)).trans ?_
  refine (zv_iadd c159_320).trans ?_
  refine (zv_aI c159_321).trans (zaI_c fun x5 => ?_)
  refine (zv_an c159_322 rfl).trans ?_
  refine (zv_in c159_323 rfl).trans ?_
  refine (zv_k (v := 2) c159_324 (by decide)).trans ?_
  refine (zv_iadd c159_325).trans ?_
  refine (zv_aI c159_326).trans (zaI_c fun x6 => ?_)
  refine (zv_viI c159_327 zcn_137 rfl zL_137 (Or.inl zrt_137) rfl rfl).trans (zvr_c (zcI_c fun x8 h7 => ?_))
  refine (zv_iceq c159_330).trans (zif_c ?_ ?_)
  · refine (zv_inc (y := 4) c159_701 rfl (by decide) rfl).trans ?_
    refine (zv_goto c159_704).trans ?_
    rfl
  · refine (zv_k (v := 0) c159_333 (by decide)).trans ?_
    exact zv_iz c159_334 zrt_159
set_option maxRecDepth 100000 in
theorem b159_335 (l0 : Option Nat) (l1 : Option Nat) (l2 : Option Nat) (l3 : Int32) (h : zH) : zev 159 335 [some (vR l0), some (vR l1), some (vR l2), some (vI l3)] [] h = (zaI h l0 (l3 + 1) fun x1 => (zvr h l1 8 (zcI 65 [vR l1, vI x1] h fun x3 h2 => (zaI h2 l0 (l3 + 1) fun x4 => (zvr h2 l2 9 (zcI 138 [vR l2, vI x4] h2 fun x6 h5 => (if x3 = x6 then zev 159 18 [some (vR l0), some (vR l1), some (vR l2), some (vI (l3 + 4))] [] h5 else zbo 0 (some (some (vI 0), h5))))))))) := by
  refine (zv_an c159_335 rfl).trans ?_
  refine (zv_an c159_336 rfl).trans ?_
  refine (zv_in c159_337 rfl).trans ?_
  refine (zv_k (v := 1) c159_338 (by decide)).trans ?_
  refine (zv_iadd c159_339).trans ?_
  refine (zv_aI c159_340).trans (zaI_c fun x1 => ?_)
  refine (zv_viI c159_341 zcn_65 rfl zL_65 (Or.inl zrt_65) rfl rfl).trans (zvr_c (zcI_c fun x3 h2 => ?_))
  refine (zv_an c159_344 rfl).trans ?_
  refine (zv_an c159_345 rfl).trans ?_
  refine (zv_in c159_346 rfl).trans ?_
  refine (zv_k (v := 1) c159_347 (by decide)).trans ?_
  refine (zv_iadd c159_348).trans ?_
  refine (zv_aI c159_349).trans (zaI_c fun x4 => ?_)
  refine (zv_viI c159_350 zcn_138 rfl zL_138 (Or.inl zrt_138) rfl rfl).trans (zvr_c (zcI_c fun x6 h5 => ?_))
  refine (zv_iceq c159_353).trans (zif_c ?_ ?_)
  · refine (zv_inc (y := 4) c159_701 rfl (by decide) rfl).trans ?_
    refine (zv_goto c159_704).trans ?_
    rfl
  · refine (zv_k (v := 0) c159_356 (by decide)).trans ?_
    exact zv_iz c159_357 zrt_159
set_option maxRecDepth 100000 in
theorem b159_358 (l0 : Option Nat) (l1 : Option Nat) (l2 : Option Nat) (l3 : Int32) (h : zH) : zev 159 358 [some (vR l0), some (vR l1), some (vR l2), some (vI l3)] [] h = (zaI h l0 (l3 + 1) fun x1 => (zaI h l0 (l3 + 2) fun x2 => (zvr h l1 8 (zcI 67 [vR l1, vI x1, vI x2] h fun x4 h3 => (zaI h3 l0 (l3 + 1) fun x5 => (zaI h3 l0 (l3 + 2) fun x6 => (zvr h3 l2 9 (zcI 139 [vR l2, vI x5, vI x6] h3 fun x8 h7 => (if x4 = x8 then zev 159 18 [some (vR l0), some (vR l1), some (vR l2), some (vI (l3 + 4))] [] h7 else zbo 0 (some (some (vI 0), h7))))))))))) := by
  refine (zv_an c159_358 rfl).trans ?_
  refine (zv_an c159_359 rfl).trans ?_
  refine (zv_in c159_360 rfl).trans ?_
  refine (zv_k (v := 1) c159_361 (by decide)).trans ?_
  refine (zv_iadd c159_362).trans ?_
  refine (zv_aI c159_363).trans (zaI_c fun x1 => ?_)
  refine (zv_an c159_364 rfl).trans ?_
  refine (zv_in c159_365 rfl).trans ?_
  refine (zv_k (v := 2) c159_366 (by decide)).trans ?_
  refine (zv_iadd c159_367).trans ?_
  refine (zv_aI c159_368).trans (zaI_c fun x2 => ?_)
  refine (zv_viI c159_369 zcn_67 rfl zL_67 (Or.inl zrt_67) rfl rfl).trans (zvr_c (zcI_c fun x4 h3 => ?_))
  refine (zv_an c159_372 rfl).trans ?_
  refine (zv_an c159_373 rfl).trans ?_
  refine (zv_in c159_374 rfl).trans ?_
  refine (zv_k (v := 1) c159_375 (by decide)).trans ?_
  refine (zv_iadd c159_376).trans ?_
  refine (zv_aI c159_377).trans (zaI_c fun x5 => ?_)
  refine (zv_an c159_378 rfl).trans ?_
  refine (zv_in c159_379 rfl).trans ?_
  refine (zv_k (v := 2) c159_380 (by decide)).trans ?_
  refine (zv_iadd c159_381).trans ?_
  refine (zv_aI c159_382).trans (zaI_c fun x6 => ?_)
  refine (zv_viI c159_383 zcn_139 rfl zL_139 (Or.inl zrt_139) rfl rfl).trans (zvr_c (zcI_c fun x8 h7 => ?_))
  refine (zv_iceq c159_386).trans (zif_c ?_ ?_)
  · refine (zv_inc (y := 4) c159_701 rfl (by decide) rfl).trans ?_
    refine (zv_goto c159_704).trans ?_
    rfl
  · refine (zv_k (v := 0) c159_389 (by decide)).trans ?_
    exact zv_iz c159_390 zrt_159
set_option maxRecDepth 100000 in
theorem b159_391 (l0 : Option Nat) (l1 : Option Nat) (l2 : Option Nat) (l3 : Int32) (h : zH) : zev 159 391 [some (vR l0), some (vR l1), some (vR l2), some (vI l3)] [] h = (zaI h l0 (l3 + 1) fun x1 => (zaI h l0 (l3 + 2) fun x2 => (zaI h l0 (l3 + 3) fun x3 => (zvr h l1 8 (zcI 71 [vR l1, vI x1, vI x2, vI x3] h fun x5 h4 => (zaI h4 l0 (l3 + 1) fun x6 => (zaI h4 l0 (l3 + 2) fun x7 => (zaI h4 l0 (l3 + 3) fun x8 => (zvr h4 l2 9 (zcI 141 [vR l2, vI x6, vI x7, vI x8] h4 fun x10 h9 => (if x5 = x10 then zev 159 18 [some (vR l0), some (vR l1), some (vR l2), some (vI (l3 + 4))] [] h9 else zbo 0 (some (some (vI 0), h9))))))))))))) := by
  refine (zv_an c159_391 rfl).trans ?_
  refine (zv_an c159_392 rfl).trans ?_
  refine (zv_in c159_393 rfl).trans ?_
  refine (zv_k (v := 1) c159_394 (by decide)).trans ?_
  refine (zv_iadd c159_395).trans ?_
  refine (zv_aI c159_396).trans (zaI_c fun x1 => ?_)
  refine (zv_an c159_397 rfl).trans ?_
  refine (zv_in c159_398 rfl).trans ?_
  refine (zv_k (v := 2) c159_399 (by decide)).trans ?_
  refine (zv_iadd c159_400).trans ?_
  refine (zv_aI c159_401).trans (zaI_c fun x2 => ?_)
  refine (zv_an c159_402 rfl).trans ?_
  refine (zv_in c159_403 rfl).trans ?_
  refine (zv_k (v := 3) c159_404 (by decide)).trans ?_
  refine (zv_iadd c159_405).trans ?_
  refine (zv_aI c159_406).trans (zaI_c fun x3 => ?_)
  refine (zv_viI c159_407 zcn_71 rfl zL_71 (Or.inl zrt_71) rfl rfl).trans (zvr_c (zcI_c fun x5 h4 => ?_))
  refine (zv_an c159_410 rfl).trans ?_
  refine (zv_an c159_411 rfl).trans ?_
  refine (zv_in c159_412 rfl).trans ?_
  refine (zv_k (v := 1) c159_413 (by decide)).trans ?_
  refine (zv_iadd c159_414).trans ?_
  refine (zv_aI c159_415).trans (zaI_c fun x6 => ?_)
  refine (zv_an c159_416 rfl).trans ?_
  refine (zv_in c159_417 rfl).trans ?_
  refine (zv_k (v := 2) c159_418 (by decide)).trans ?_
  refine (zv_iadd c159_419).trans ?_
  refine (zv_aI c159_420).trans (zaI_c fun x7 => ?_)
  refine (zv_an c159_421 rfl).trans ?_
  refine (zv_in c159_422 rfl).trans ?_
  refine (zv_k (v := 3) c159_423 (by decide)).trans ?_
  refine (zv_iadd c159_424).trans ?_
  refine (zv_aI c159_425).trans (zaI_c fun x8 => ?_)
  refine (zv_viI c159_426 zcn_141 rfl zL_141 (Or.inl zrt_141) rfl rfl).trans (zvr_c (zcI_c fun x10 h9 => ?_))
  refine (zv_iceq c159_429).trans (zif_c ?_ ?_)
  · refine (zv_inc (y := 4) c159_701 rfl (by decide) rfl).trans ?_
    refine (zv_goto c159_704).trans ?_
    rfl
  · refine (zv_k (v := 0) c159_432 (by decide)).trans ?_
    exact zv_iz c159_433 zrt_159
set_option maxRecDepth 100000 in
theorem b159_434 (l0 : Option Nat) (l1 : Option Nat) (l2 : Option Nat) (l3 : Int32) (h : zH) : zev 159 434 [some (vR l0), some (vR l1), some (vR l2), some (vI l3)] [] h = (zaI h l0 (l3 + 1) fun x1 => (zvr h l1 8 (zcI 74 [vR l1, vI x1] h fun x3 h2 => (zaI h2 l0 (l3 + 1) fun x4 => (zvr h2 l2 9 (zcI 142 [vR l2, vI x4] h2 fun x6 h5 => (if x3 = x6 then zev 159 18 [some (vR l0), some (vR l1), some (vR l2), some (vI (l3 + 4))] [] h5 else zbo 0 (some (some (vI 0), h5))))))))) := by
  refine (zv_an c159_434 rfl).trans ?_
  refine (zv_an c159_435 rfl).trans ?_
  refine (zv_in c159_436 rfl).trans ?_
  refine (zv_k (v := 1) c159_437 (by decide)).trans ?_
  refine (zv_iadd c159_438).trans ?_
  refine (zv_aI c159_439).trans (zaI_c fun x1 => ?_)
  refine (zv_viI c159_440 zcn_74 rfl zL_74 (Or.inl zrt_74) rfl rfl).trans (zvr_c (zcI_c fun x3 h2 => ?_))
  refine (zv_an c159_443 rfl).trans ?_
  refine (zv_an c159_444 rfl).trans ?_
  refine (zv_in c159_445 rfl).trans ?_
  refine (zv_k (v := 1) c159_446 (by decide)).trans ?_
  refine (zv_iadd c159_447).trans ?_
  refine (zv_aI c159_448).trans (zaI_c fun x4 => ?_)
  refine (zv_viI c159_449 zcn_142 rfl zL_142 (Or.inl zrt_142) rfl rfl).trans (zvr_c (zcI_c fun x6 h5 => ?_))
  refine (zv_iceq c159_452).trans (zif_c ?_ ?_)
  · refine (zv_inc (y := 4) c159_701 rfl (by decide) rfl).trans ?_
    refine (zv_goto c159_704).trans ?_
    rfl
  · refine (zv_k (v := 0) c159_455 (by decide)).trans ?_
    exact zv_iz c159_456 zrt_159
set_option maxRecDepth 100000 in
theorem b159_457 (l0 : Option Nat) (l1 : Option Nat) (l2 : Option Nat) (l3 : Int32) (h : zH) : zev 159 457 [some (vR l0), some (vR l1), some (vR l2), some (vI l3)] [] h = (zaI h l0 (l3 + 1) fun x1 => (zaI h l0 (l3 + 2) fun x2 => (zvr h l1 8 (zcI 86 [vR l1, vI x1, vI x2] h fun x4 h3 => (zaI h3 l0 (l3 + 1) fun x5 => (zaI h3 l0 (l3 + 2) fun x6 => (zvr h3 l2 9 (zcI 144 [vR l2, vI x5, vI x6] h3 fun x8 h7 => (if x4 = x8 then zev 159 18 [some (vR l0), some (vR l1), some (vR l2), some (vI (l3 + 4))] [] h7 else zbo 0 (some (some (vI 0), h7))))))))))) := by
  refine (zv_an c159_457 rfl).trans ?_
  refine (zv_an c159_458 rfl).trans ?_
  refine (zv_in c159_459 rfl).trans ?_
  refine (zv_k (v := 1) c159_460 (by decide)).trans ?_
  refine (zv_iadd c159_461).trans ?_
  refine (zv_aI c159_462).trans (zaI_c fun x1 => ?_)
  refine (zv_an c159_463 rfl).trans ?_
  refine (zv_in c159_464 rfl).trans ?_
  refine (zv_k (v := 2) c159_465 (by decide)).trans ?_
  refine (zv_iadd c159_466).trans ?_
  refine (zv_aI c159_467).trans (zaI_c fun x2 => ?_)
  refine (zv_viI c159_468 zcn_86 rfl zL_86 (Or.inl zrt_86) rfl rfl).trans (zvr_c (zcI_c fun x4 h3 => ?_))
  refine (zv_an c159_471 rfl).trans ?_
  refine (zv_an c159_472 rfl).trans ?_
  refine (zv_in c159_473 rfl).trans ?_
  refine (zv_k (v := 1) c159_474 (by decide)).trans ?_
  refine (zv_iadd c159_475).trans ?_
  refine (zv_aI c159_476).trans (zaI_c fun x5 => ?_)
  refine (zv_an c159_477 rfl).trans ?_
  refine (zv_in c159_478 rfl).trans ?_
  refine (zv_k (v := 2) c159_479 (by decide)).trans ?_
  refine (zv_iadd c159_480).trans ?_
  refine (zv_aI c159_481).trans (zaI_c fun x6 => ?_)
  refine (zv_viI c159_482 zcn_144 rfl zL_144 (Or.inl zrt_144) rfl rfl).trans (zvr_c (zcI_c fun x8 h7 => ?_))
  refine (zv_iceq c159_485).trans (zif_c ?_ ?_)
  · refine (zv_inc (y := 4) c159_701 rfl (by decide) rfl).trans ?_
    refine (zv_goto c159_704).trans ?_
    rfl
  · refine (zv_k (v := 0) c159_488 (by decide)).trans ?_
    exact zv_iz c159_489 zrt_159
set_option maxRecDepth 100000 in
theorem b159_490 (l0 : Option Nat) (l1 : Option Nat) (l2 : Option Nat) (l3 : Int32) (h : zH) : zev 159 490 [some (vR l0), some (vR l1), some (vR l2), some (vI l3)] [] h = (zaI h l0 (l3 + 1) fun x1 => (zaI h l0 (l3 + 2) fun x2 => (zaI h l0 (l3 + 3) fun x3 => (zvr h l1 8 (zcI 87 [vR l1, vI x1, vI x2, vI x3] h fun x5 h4 => (zaI h4 l0 (l3 + 1) fun x6 => (zaI h4 l0 (l3 + 2) fun x7 => (zaI h4 l0 (l3 + 3) fun x8 => (zvr h4 l2 9 (zcI 145 [vR l2, vI x6, vI x7, vI x8] h4 fun x10 h9 => (if x5 = x10 then zev 159 18 [some (vR l0), some (vR l1), some (vR l2), some (vI (l3 + 4))] [] h9 else zbo 0 (some (some (vI 0), h9))))))))))))) := by
  refine (zv_an c159_490 rfl).trans ?_
  refine (zv_an c159_491 rfl).trans ?_
  refine (zv_in c159_492 rfl).trans ?_
  refine (zv_k (v := 1) c159_493 (by decide)).trans ?_
  refine (zv_iadd c159_494).trans ?_
  refine (zv_aI c159_495).trans (zaI_c fun x1 => ?_)
  refine (zv_an c159_496 rfl).trans ?_
  refine (zv_in c159_497 rfl).trans ?_
  refine (zv_k (v := 2) c159_498 (by decide)).trans ?_
  refine (zv_iadd c159_499).trans ?_
  refine (zv_aI c159_500).trans (zaI_c fun x2 => ?_)
  refine (zv_an c159_501 rfl).trans ?_
  refine (zv_in c159_502 rfl).trans ?_
  refine (zv_k (v := 3) c159_503 (by decide)).trans ?_
  refine (zv_iadd c159_504).trans ?_
  refine (zv_aI c159_505).trans (zaI_c fun x3 => ?_)
  refine (zv_viI c159_506 zcn_87 rfl zL_87 (Or.inl zrt_87) rfl rfl).trans (zvr_c (zcI_c fun x5 h4 => ?_))
  refine (zv_an c159_509 rfl).trans ?_
  refine (zv_an c159_510 rfl).trans ?_
  refine (zv_in c159_511 rfl).trans ?_
  refine (zv_k (v := 1) c159_512 (by decide)).trans ?_
  refine (zv_iadd c159_513).trans ?_
  refine (zv_aI c159_514).trans (zaI_c fun x6 => ?_)
  refine (zv_an c159_515 rfl).trans ?_
  refine (zv_in c159_516 rfl).trans ?_
  refine (zv_k (v := 2) c159_517 (by decide)).trans ?_
  refine (zv_iadd c159_518).trans ?_
  refine (zv_aI c159_519).trans (zaI_c fun x7 => ?_)
  refine (zv_an c159_520 rfl).trans ?_
  refine (zv_in c159_521 rfl).trans ?_
  refine (zv_k (v := 3) c159_522 (by decide)).trans ?_
  refine (zv_iadd c159_523).trans ?_
  refine (zv_aI c159_524).trans (zaI_c fun x8 => ?_)
  refine (zv_viI c159_525 zcn_145 rfl zL_145 (Or.inl zrt_145) rfl rfl).trans (zvr_c (zcI_c fun x10 h9 => ?_))
  refine (zv_iceq c159_528).trans (zif_c ?_ ?_)
  · refine (zv_inc (y := 4) c159_701 rfl (by decide) rfl).trans ?_
    refine (zv_goto c159_704).trans ?_
    rfl
  · refine (zv_k (v := 0) c159_531 (by decide)).trans ?_
    exact zv_iz c159_532 zrt_159
set_option maxRecDepth 100000 in
theorem b159_533 (l0 : Option Nat) (l1 : Option Nat) (l2 : Option Nat) (l3 : Int32) (h : zH) : zev 159 533 [some (vR l0), some (vR l1), some (vR l2), some (vI l3)] [] h = (zaI h l0 (l3 + 1) fun x1 => (zvr h l1 8 (zcI 88 [vR l1, vI x1] h fun x3 h2 => (zaI h2 l0 (l3 + 1) fun x4 => (zvr h2 l2 9 (zcI 146 [vR l2, vI x4] h2 fun x6 h5 => (if x3 = x6 then zev 159 18 [some (vR l0), some (vR l1), some (vR l2), some (vI (l3 + 4))] [] h5 else zbo 0 (some (some (vI 0), h5))))))))) := by
  refine (zv_an c159_533 rfl).trans ?_
  refine (zv_an c159_534 rfl).trans ?_
  refine (zv_in c159_535 rfl).trans ?_
  refine (zv_k (v := 1) c159_536 (by decide)).trans ?_
  refine (zv_iadd c159_537).trans ?_
  refine (zv_aI c159_538).trans (zaI_c fun x1 => ?_)
  refine (zv_viI c159_539 zcn_88 rfl zL_88 (Or.inl zrt_88) rfl rfl).trans (zvr_c (zcI_c fun x3 h2 => ?_))
  refine (zv_an c159_542 rfl).trans ?_
  refine (zv_an c159_543 rfl).trans ?_
  refine (zv_in c159_544 rfl).trans ?_
  refine (zv_k (v := 1) c159_545 (by decide)).trans ?_
  refine (zv_iadd c159_546).trans ?_
  refine (zv_aI c159_547).trans (zaI_c fun x4 => ?_)
  refine (zv_viI c159_548 zcn_146 rfl zL_146 (Or.inl zrt_146) rfl rfl).trans (zvr_c (zcI_c fun x6 h5 => ?_))
  refine (zv_iceq c159_551).trans (zif_c ?_ ?_)
  · refine (zv_inc (y := 4) c159_701 rfl (by decide) rfl).trans ?_
    refine (zv_goto c159_704).trans ?_
    rfl
  · refine (zv_k (v := 0) c159_554 (by decide)).trans ?_
    exact zv_iz c159_555 zrt_159
set_option maxRecDepth 100000 in
theorem b159_556 (l0 : Option Nat) (l1 : Option Nat) (l2 : Option Nat) (l3 : Int32) (h : zH) : zev 159 556 [some (vR l0), some (vR l1), some (vR l2), some (vI l3)] [] h = (zaI h l0 (l3 + 1) fun x1 => (zvr h l1 8 (zcI 89 [vR l1, vI x1] h fun x3 h2 => (zaI h2 l0 (l3 + 1) fun x4 => (zvr h2 l2 9 (zcI 147 [vR l2, vI x4] h2 fun x6 h5 => (if x3 = x6 then zev 159 18 [some (vR l0), some (vR l1), some (vR l2), some (vI (l3 + 4))] [] h5 else zbo 0 (some (some (vI 0), h5))))))))) := by
  refine (zv_an c159_556 rfl).trans ?_
  refine (zv_an c159_557 rfl).trans ?_
  refine (zv_in c159_558 rfl).trans ?_
  refine (zv_k (v := 1) c159_559 (by decide)).trans ?_
  refine (zv_iadd c159_560).trans ?_
  refine (zv_aI c159_561).trans (zaI_c fun x1 => ?_)
  refine (zv_viI c159_562 zcn_89 rfl zL_89 (Or.inl zrt_89) rfl rfl).trans (zvr_c (zcI_c fun x3 h2 => ?_))
  refine (zv_an c159_565 rfl).trans ?_
  refine (zv_an c159_566 rfl).trans ?_
  refine (zv_in c159_567 rfl).trans ?_
  refine (zv_k (v := 1) c159_568 (by decide)).trans ?_
  refine (zv_iadd c159_569).trans ?_
  refine (zv_aI c159_570).trans (zaI_c fun x4 => ?_)
  refine (zv_viI c159_571 zcn_147 rfl zL_147 (Or.inl zrt_147) rfl rfl).trans (zvr_c (zcI_c fun x6 h5 => ?_))
  refine (zv_iceq c159_574).trans (zif_c ?_ ?_)
  · refine (zv_inc (y := 4) c159_701 rfl (by decide) rfl).trans ?_
    refine (zv_goto c159_704).trans ?_
    rfl
  · refine (zv_k (v := 0) c159_577 (by decide)).trans ?_
    exact zv_iz c159_578 zrt_159
set_option maxRecDepth 100000 in
theorem b159_579 (l0 : Option Nat) (l1 : Option Nat) (l2 : Option Nat) (l3 : Int32) (h : zH) : zev 159 579 [some (vR l0), some (vR l1), some (vR l2), some (vI l3)] [] h = (zaI h l0 (l3 + 1) fun x1 => (zaI h l0 (l3 + 2) fun x2 => (zvr h l1 8 (zcI 101 [vR l1, vI x1, vI x2] h fun x4 h3 => (zaI h3 l0 (l3 + 1) fun x5 => (zaI h3 l0 (l3 + 2) fun x6 => (zvr h3 l2 9 (zcI 153 [vR l2, vI x5, vI x6] h3 fun x8 h7 => (if x4 = x8 then zev 159 18 [some (vR l0), some (vR l1), some (vR l2), some (vI (l3 + 4))] [] h7 else zbo 0 (some (some (vI 0), h7))))))))))) := by
  refine (zv_an c159_579 rfl).trans ?_
  refine (zv_an c159_580 rfl).trans ?_
  refine (zv_in c159_581 rfl).trans ?_
  refine (zv_k (v := 1) c159_582 (by decide)).trans ?_
  refine (zv_iadd c159_583).trans ?_
  refine (zv_aI c159_584).trans (zaI_c fun x1 => ?_)
  refine (zv_an c159_585 rfl).trans ?_
  refine (zv_in c159_586 rfl).trans ?_
  refine (zv_k (v := 2) c159_587 (by decide)).trans ?_
  refine (zv_iadd c159_588).trans ?_
  refine (zv_aI c159_589).trans (zaI_c fun x2 => ?_)
  refine (zv_viI c159_590 zcn_101 rfl zL_101 (Or.inl zrt_101) rfl rfl).trans (zvr_c (zcI_c fun x4 h3 => ?_))
  refine (zv_an c159_593 rfl).trans ?_
  refine (zv_an c159_594 rfl).trans ?_
  refine (zv_in c159_595 rfl).trans ?_
  refine (zv_k (v := 1) c159_596 (by decide)).trans ?_
  refine (zv_iadd c159_597).trans ?_
  refine (zv_aI c159_598).trans (zaI_c fun x5 => ?_)
  refine (zv_an c159_599 rfl).trans ?_
  refine (zv_in c159_600 rfl).trans ?_
  refine (zv_k (v := 2) c159_601 (by decide)).trans ?_
  refine (zv_iadd c159_602).trans ?_
  refine (zv_aI c159_603).trans (zaI_c fun x6 => ?_)
  refine (zv_viI c159_604 zcn_153 rfl zL_153 (Or.inl zrt_153) rfl rfl).trans (zvr_c (zcI_c fun x8 h7 => ?_))
  refine (zv_iceq c159_607).trans (zif_c ?_ ?_)
  · refine (zv_inc (y := 4) c159_701 rfl (by decide) rfl).trans ?_
    refine (zv_goto c159_704).trans ?_
    rfl
  · refine (zv_k (v := 0) c159_610 (by decide)).trans ?_
    exact zv_iz c159_611 zrt_159
set_option maxRecDepth 100000 in
theorem b159_612 (l0 : Option Nat) (l1 : Option Nat) (l2 : Option Nat) (l3 : Int32) (h : zH) : zev 159 612 [some (vR l0), some (vR l1), some (vR l2), some (vI l3)] [] h = (zaI h l0 (l3 + 1) fun x1 => (zaI h l0 (l3 + 2) fun x2 => (zvr h l1 8 (zcI 103 [vR l1, vI x1, vI x2] h fun x4 h3 => (zaI h3 l0 (l3 + 1) fun x5 => (zaI h3 l0 (l3 + 2) fun x6 => (zvr h3 l2 9 (zcI 154 [vR l2, vI x5, vI x6] h3 fun x8 h7 => (if x4 = x8 then zev 159 18 [some (vR l0), some (vR l1), some (vR l2), some (vI (l3 + 4))] [] h7 else zbo 0 (some (some (vI 0), h7))))))))))) := by
  refine (zv_an c159_612 rfl).trans ?_
  refine (zv_an c159_613 rfl).trans ?_
  refine (zv_in c159_614 rfl).trans ?_
  refine (zv_k (v := 1) c159_615 (by decide)).trans ?_
  refine (zv_iadd c159_616).trans ?_
  refine (zv_aI c159_617).trans (zaI_c fun x1 => ?_)
  refine (zv_an c159_618 rfl).trans ?_
  refine (zv_in c159_619 rfl).trans ?_
  refine (zv_k (v := 2) c159_620 (by decide)).trans ?_
  refine (zv_iadd c159_621).trans ?_
  refine (zv_aI c159_622).trans (zaI_c fun x2 => ?_)
  refine (zv_viI c159_623 zcn_103 rfl zL_103 (Or.inl zrt_103) rfl rfl).trans (zvr_c (zcI_c fun x4 h3 => ?_))
  refine (zv_an c159_626 rfl).trans ?_
  refine (zv_an c159_627 rfl).trans ?_
  refine (zv_in c159_628 rfl).trans ?_
  refine (zv_k (v := 1) c159_629 (by decide)).trans ?_
  refine (zv_iadd c159_630).trans ?_
  refine (zv_aI c159_631).trans (zaI_c fun x5 => ?_)
  refine (zv_an c159_632 rfl).trans ?_
  refine (zv_in c159_633 rfl).trans ?_
  refine (zv_k (v := 2) c159_634 (by decide)).trans ?_
  refine (zv_iadd c159_635).trans ?_
  refine (zv_aI c159_636).trans (zaI_c fun x6 => ?_)
  refine (zv_viI c159_637 zcn_154 rfl zL_154 (Or.inl zrt_154) rfl rfl).trans (zvr_c (zcI_c fun x8 h7 => ?_))
  refine (zv_iceq c159_640).trans (zif_c ?_ ?_)
  · refine (zv_inc (y := 4) c159_701 rfl (by decide) rfl).trans ?_
    refine (zv_goto c159_704).trans ?_
    rfl
  · refine (zv_k (v := 0) c159_643 (by decide)).trans ?_
    exact zv_iz c159_644 zrt_159
set_option maxRecDepth 100000 in
theorem b159_645 (l0 : Option Nat) (l1 : Option Nat) (l2 : Option Nat) (l3 : Int32) (h : zH) : zev 159 645 [some (vR l0), some (vR l1), some (vR l2), some (vI l3)] [] h = (zaI h l0 (l3 + 1) fun x1 => (zvr h l1 8 (zcI 106 [vR l1, vI x1] h fun x3 h2 => (zaI h2 l0 (l3 + 1) fun x4 => (zvr h2 l2 9 (zcI 156 [vR l2, vI x4] h2 fun x6 h5 => (if x3 = x6 then zev 159 18 [some (vR l0), some (vR l1), some (vR l2), some (vI (l3 + 4))] [] h5 else zbo 0 (some (some (vI 0), h5))))))))) := by
  refine (zv_an c159_645 rfl).trans ?_
  refine (zv_an c159_646 rfl).trans ?_
  refine (zv_in c159_647 rfl).trans ?_
  refine (zv_k (v := 1) c159_648 (by decide)).trans ?_
  refine (zv_iadd c159_649).trans ?_
  refine (zv_aI c159_650).trans (zaI_c fun x1 => ?_)
  refine (zv_viI c159_651 zcn_106 rfl zL_106 (Or.inl zrt_106) rfl rfl).trans (zvr_c (zcI_c fun x3 h2 => ?_))
  refine (zv_an c159_654 rfl).trans ?_
  refine (zv_an c159_655 rfl).trans ?_
  refine (zv_in c159_656 rfl).trans ?_
  refine (zv_k (v := 1) c159_657 (by decide)).trans ?_
  refine (zv_iadd c159_658).trans ?_
  refine (zv_aI c159_659).trans (zaI_c fun x4 => ?_)
  refine (zv_viI c159_660 zcn_156 rfl zL_156 (Or.inl zrt_156) rfl rfl).trans (zvr_c (zcI_c fun x6 h5 => ?_))
  refine (zv_iceq c159_663).trans (zif_c ?_ ?_)
  · refine (zv_inc (y := 4) c159_701 rfl (by decide) rfl).trans ?_
    refine (zv_goto c159_704).trans ?_
    rfl
  · refine (zv_k (v := 0) c159_666 (by decide)).trans ?_
    exact zv_iz c159_667 zrt_159
set_option maxRecDepth 100000 in
theorem b159_668 (l0 : Option Nat) (l1 : Option Nat) (l2 : Option Nat) (l3 : Int32) (h : zH) : zev 159 668 [some (vR l0), some (vR l1), some (vR l2), some (vI l3)] [] h = (zaI h l0 (l3 + 1) fun x1 => (zaI h l0 (l3 + 2) fun x2 => (zvr h l1 8 (zcI 109 [vR l1, vI x1, vI x2] h fun x4 h3 => (zaI h3 l0 (l3 + 1) fun x5 => (zaI h3 l0 (l3 + 2) fun x6 => (zvr h3 l2 9 (zcI 158 [vR l2, vI x5, vI x6] h3 fun x8 h7 => (if x4 = x8 then zev 159 18 [some (vR l0), some (vR l1), some (vR l2), some (vI (l3 + 4))] [] h7 else zbo 0 (some (some (vI 0), h7))))))))))) := by
  refine (zv_an c159_668 rfl).trans ?_
  refine (zv_an c159_669 rfl).trans ?_
  refine (zv_in c159_670 rfl).trans ?_
  refine (zv_k (v := 1) c159_671 (by decide)).trans ?_
  refine (zv_iadd c159_672).trans ?_
  refine (zv_aI c159_673).trans (zaI_c fun x1 => ?_)
  refine (zv_an c159_674 rfl).trans ?_
  refine (zv_in c159_675 rfl).trans ?_
  refine (zv_k (v := 2) c159_676 (by decide)).trans ?_
  refine (zv_iadd c159_677).trans ?_
  refine (zv_aI c159_678).trans (zaI_c fun x2 => ?_)
  refine (zv_viI c159_679 zcn_109 rfl zL_109 (Or.inl zrt_109) rfl rfl).trans (zvr_c (zcI_c fun x4 h3 => ?_))
  refine (zv_an c159_682 rfl).trans ?_
  refine (zv_an c159_683 rfl).trans ?_
  refine (zv_in c159_684 rfl).trans ?_
  refine (zv_k (v := 1) c159_685 (by decide)).trans ?_
  refine (zv_iadd c159_686).trans ?_
  refine (zv_aI c159_687).trans (zaI_c fun x5 => ?_)
  refine (zv_an c159_688 rfl).trans ?_
  refine (zv_in c159_689 rfl).trans ?_
  refine (zv_k (v := 2) c159_690 (by decide)).trans ?_
  refine (zv_iadd c159_691).trans ?_
  refine (zv_aI c159_692).trans (zaI_c fun x6 => ?_)
  refine (zv_viI c159_693 zcn_158 rfl zL_158 (Or.inl zrt_158) rfl rfl).trans (zvr_c (zcI_c fun x8 h7 => ?_))
  refine (zv_iceq c159_696).trans (zif_c ?_ ?_)
  · refine (zv_inc (y := 4) c159_701 rfl (by decide) rfl).trans ?_
    refine (zv_goto c159_704).trans ?_
    rfl
  · refine (zv_k (v := 0) c159_699 (by decide)).trans ?_
    exact zv_iz c159_700 zrt_159
