theorem c120_0 : zcod 120 0 = some (.iload_n 0, 1, 0, 0, 0, 0) := by decide +kernel
theorem c120_1 : zcod 120 1 = some (.bipush 115, 2, 0, 0, 0, 0) := by decide +kernel
theorem c120_3 : zcod 120 3 = some (.if_icmp .ne 16, 3, 19, 0, 0, 0) := by decide +kernel
theorem c120_6 : zcod 120 6 = some (.iload_n 1, 1, 0, 0, 0, 0) := by decide +kernel
theorem c120_7 : zcod 120 7 = some (.iconst 3, 1, 0, 0, 0, 0) := by decide +kernel
theorem c120_8 : zcod 120 8 = some (.if_icmp .ne 7, 3, 15, 0, 0, 0) := by decide +kernel
theorem c120_11 : zcod 120 11 = some (.iconst 1, 1, 0, 0, 0, 0) := by decide +kernel
theorem c120_12 : zcod 120 12 = some (.goto 17, 3, 29, 0, 0, 0) := by decide +kernel
theorem c120_15 : zcod 120 15 = some (.iconst 0, 1, 0, 0, 0, 0) := by decide +kernel
theorem c120_16 : zcod 120 16 = some (.goto 13, 3, 29, 0, 0, 0) := by decide +kernel
theorem c120_19 : zcod 120 19 = some (.iload_n 1, 1, 0, 0, 0, 0) := by decide +kernel
theorem c120_20 : zcod 120 20 = some (.iconst 1, 1, 0, 0, 0, 0) := by decide +kernel
theorem c120_21 : zcod 120 21 = some (.if_icmp .le 7, 3, 28, 0, 0, 0) := by decide +kernel
theorem c120_24 : zcod 120 24 = some (.iconst 1, 1, 0, 0, 0, 0) := by decide +kernel
theorem c120_25 : zcod 120 25 = some (.goto 4, 3, 29, 0, 0, 0) := by decide +kernel
theorem c120_28 : zcod 120 28 = some (.iconst 0, 1, 0, 0, 0, 0) := by decide +kernel
theorem c120_29 : zcod 120 29 = some (.ireturn, 1, 0, 0, 0, 0) := by decide +kernel
set_option maxRecDepth 100000 in
theorem b120_0 (l0 : Int32) (l1 : Int32) (h : zH) : zev 120 0 [some (vI l0), some (vI l1)] [] h = (if l0 = 115 then (if l1 = 3 then some (some (vI 1), h) else some (some (vI 0), h)) else (if 1 < l1 then some (some (vI 1), h) else some (some (vI 0), h))) := by
  refine (zv_in c120_0 rfl).trans ?_
  refine (zv_bi (v := 115) c120_1 (by decide)).trans ?_
  refine (zv_icne c120_3).trans (zif_c ?_ ?_)
  · refine (zv_in c120_6 rfl).trans ?_
    refine (zv_k (v := 3) c120_7 (by decide)).trans ?_
    refine (zv_icne c120_8).trans (zif_c ?_ ?_)
    · refine (zv_k (v := 1) c120_11 (by decide)).trans ?_
      refine (zv_goto c120_12).trans ?_
      exact zv_ir c120_29 zrt_120
    · refine (zv_k (v := 0) c120_15 (by decide)).trans ?_
      refine (zv_goto c120_16).trans ?_
      exact zv_ir c120_29 zrt_120
  · refine (zv_in c120_19 rfl).trans ?_
    refine (zv_k (v := 1) c120_20 (by decide)).trans ?_
    refine (zv_icle c120_21).trans (zif_c ?_ ?_)
    · refine (zv_k (v := 1) c120_24 (by decide)).trans ?_
      refine (zv_goto c120_25).trans ?_
      exact zv_ir c120_29 zrt_120
    · refine (zv_k (v := 0) c120_28 (by decide)).trans ?_
      exact zv_ir c120_29 zrt_120
theorem e120 (l0 : Int32) (l1 : Int32) (h : zH) : zcall 120 [vI l0, vI l1] h = (if l0 = 115 then (if l1 = 3 then some (some (vI 1), h) else some (some (vI 0), h)) else (if 1 < l1 then some (some (vI 1), h) else some (some (vI 0), h))) := by
  refine Eq.trans ?_ (b120_0 l0 l1 h)
  unfold zcall zent
  rw [zL_120]
  rfl
theorem c121_0 : zcod 121 0 = some (.iload_n 1, 1, 0, 0, 0, 0) := by decide +kernel
theorem c121_1 : zcod 121 1 = some (.ifCond .ne 8, 3, 9, 0, 0, 0) := by decide +kernel
theorem c121_4 : zcod 121 4 = some (.bipush 19, 2, 0, 0, 0, 0) := by decide +kernel
theorem c121_6 : zcod 121 6 = some (.goto 35, 3, 41, 0, 0, 0) := by decide +kernel
theorem c121_9 : zcod 121 9 = some (.iload_n 1, 1, 0, 0, 0, 0) := by decide +kernel
theorem c121_10 : zcod 121 10 = some (.iconst 1, 1, 0, 0, 0, 0) := by decide +kernel
theorem c121_11 : zcod 121 11 = some (.if_icmp .ne 8, 3, 19, 0, 0, 0) := by decide +kernel
theorem c121_14 : zcod 121 14 = some (.bipush 15, 2, 0, 0, 0, 0) := by decide +kernel
theorem c121_16 : zcod 121 16 = some (.goto 25, 3, 41, 0, 0, 0) := by decide +kernel
theorem c121_19 : zcod 121 19 = some (.iload_n 0, 1, 0, 0, 0, 0) := by decide +kernel
theorem c121_20 : zcod 121 20 = some (.bipush 115, 2, 0, 0, 0, 0) := by decide +kernel
theorem c121_22 : zcod 121 22 = some (.if_icmp .ne 17, 3, 39, 0, 0, 0) := by decide +kernel
theorem c121_25 : zcod 121 25 = some (.iload_n 1, 1, 0, 0, 0, 0) := by decide +kernel
theorem c121_26 : zcod 121 26 = some (.iconst 2, 1, 0, 0, 0, 0) := by decide +kernel
theorem c121_27 : zcod 121 27 = some (.if_icmp .ne 7, 3, 34, 0, 0, 0) := by decide +kernel
theorem c121_30 : zcod 121 30 = some (.iconst 1, 1, 0, 0, 0, 0) := by decide +kernel
theorem c121_31 : zcod 121 31 = some (.goto 10, 3, 41, 0, 0, 0) := by decide +kernel
theorem c121_34 : zcod 121 34 = some (.bipush 20, 2, 0, 0, 0, 0) := by decide +kernel
theorem c121_36 : zcod 121 36 = some (.goto 5, 3, 41, 0, 0, 0) := by decide +kernel
theorem c121_39 : zcod 121 39 = some (.bipush 9, 2, 0, 0, 0, 0) := by decide +kernel
theorem c121_41 : zcod 121 41 = some (.ireturn, 1, 0, 0, 0, 0) := by decide +kernel
set_option maxRecDepth 100000 in
theorem b121_0 (l0 : Int32) (l1 : Int32) (h : zH) : zev 121 0 [some (vI l0), some (vI l1)] [] h = (if l1 = 0 then some (some (vI 19), h) else (if l1 = 1 then some (some (vI 15), h) else (if l0 = 115 then (if l1 = 2 then some (some (vI 1), h) else some (some (vI 20), h)) else some (some (vI 9), h)))) := by
  refine (zv_in c121_0 rfl).trans ?_
  refine (zv_ifne c121_1).trans (zif_c ?_ ?_)
  · refine (zv_bi (v := 19) c121_4 (by decide)).trans ?_
    refine (zv_goto c121_6).trans ?_
    exact zv_ir c121_41 zrt_121
  · refine (zv_in c121_9 rfl).trans ?_
    refine (zv_k (v := 1) c121_10 (by decide)).trans ?_
    refine (zv_icne c121_11).trans (zif_c ?_ ?_)
    · refine (zv_bi (v := 15) c121_14 (by decide)).trans ?_
      refine (zv_goto c121_16).trans ?_
      exact zv_ir c121_41 zrt_121
    · refine (zv_in c121_19 rfl).trans ?_
      refine (zv_bi (v := 115) c121_20 (by decide)).trans ?_
      refine (zv_icne c121_22).trans (zif_c ?_ ?_)
      · refine (zv_in c121_25 rfl).trans ?_
        refine (zv_k (v := 2) c121_26 (by decide)).trans ?_
        refine (zv_icne c121_27).trans (zif_c ?_ ?_)
        · refine (zv_k (v := 1) c121_30 (by decide)).trans ?_
          refine (zv_goto c121_31).trans ?_
          exact zv_ir c121_41 zrt_121
        · refine (zv_bi (v := 20) c121_34 (by decide)).trans ?_
          refine (zv_goto c121_36).trans ?_
          exact zv_ir c121_41 zrt_121
      · refine (zv_bi (v := 9) c121_39 (by decide)).trans ?_
        exact zv_ir c121_41 zrt_121
theorem e121 (l0 : Int32) (l1 : Int32) (h : zH) : zcall 121 [vI l0, vI l1] h = (if l1 = 0 then some (some (vI 19), h) else (if l1 = 1 then some (some (vI 15), h) else (if l0 = 115 then (if l1 = 2 then some (some (vI 1), h) else some (some (vI 20), h)) else some (some (vI 9), h)))) := by
  refine Eq.trans ?_ (b121_0 l0 l1 h)
  unfold zcall zent
  rw [zL_121]
  rfl
theorem c122_0 : zcod 122 0 = some (.iconst 1, 1, 0, 0, 0, 0) := by decide +kernel
theorem c122_1 : zcod 122 1 = some (.istore_n 1, 1, 0, 0, 0, 0) := by decide +kernel
theorem c122_2 : zcod 122 2 = some (.iconst 0, 1, 0, 0, 0, 0) := by decide +kernel
theorem c122_3 : zcod 122 3 = some (.istore_n 2, 1, 0, 0, 0, 0) := by decide +kernel
theorem c122_4 : zcod 122 4 = some (.iload_n 2, 1, 0, 0, 0, 0) := by decide +kernel
theorem c122_5 : zcod 122 5 = some (.aload_n 0, 1, 0, 0, 0, 0) := by decide +kernel
theorem c122_6 : zcod 122 6 = some (.getfield 81, 3, 9, 38, 834, 0) := by decide +kernel
theorem c122_9 : zcod 122 9 = some (.iconst 3, 1, 0, 0, 0, 0) := by decide +kernel
theorem c122_10 : zcod 122 10 = some (.iaload, 1, 0, 0, 0, 0) := by decide +kernel
theorem c122_11 : zcod 122 11 = some (.if_icmp .ge 150, 3, 161, 0, 0, 0) := by decide +kernel
theorem c122_14 : zcod 122 14 = some (.iload_n 1, 1, 0, 0, 0, 0) := by decide +kernel
theorem c122_15 : zcod 122 15 = some (.ifCond .eq 146, 3, 161, 0, 0, 0) := by decide +kernel
theorem c122_18 : zcod 122 18 = some (.aload_n 0, 1, 0, 0, 0, 0) := by decide +kernel
theorem c122_19 : zcod 122 19 = some (.getfield 81, 3, 9, 38, 834, 0) := by decide +kernel
theorem c122_22 : zcod 122 22 = some (.iconst 0, 1, 0, 0, 0, 0) := by decide +kernel
theorem c122_23 : zcod 122 23 = some (.iaload, 1, 0, 0, 0, 0) := by decide +kernel
theorem c122_24 : zcod 122 24 = some (.aload_n 0, 1, 0, 0, 0, 0) := by decide +kernel
theorem c122_25 : zcod 122 25 = some (.getfield 81, 3, 9, 38, 834, 0) := by decide +kernel
theorem c122_28 : zcod 122 28 = some (.iconst 2, 1, 0, 0, 0, 0) := by decide +kernel
theorem c122_29 : zcod 122 29 = some (.iaload, 1, 0, 0, 0, 0) := by decide +kernel
theorem c122_30 : zcod 122 30 = some (.ifCond .ne 7, 3, 37, 0, 0, 0) := by decide +kernel
theorem c122_33 : zcod 122 33 = some (.iload_n 2, 1, 0, 0, 0, 0) := by decide +kernel
theorem c122_34 : zcod 122 34 = some (.goto 4, 3, 38, 0, 0, 0) := by decide +kernel
theorem c122_37 : zcod 122 37 = some (.iconst 0, 1, 0, 0, 0, 0) := by decide +kernel
theorem c122_38 : zcod 122 38 = some (.iadd, 1, 0, 0, 0, 0) := by decide +kernel
theorem c122_39 : zcod 122 39 = some (.istore_n 3, 1, 0, 0, 0, 0) := by decide +kernel
theorem c122_40 : zcod 122 40 = some (.aload_n 0, 1, 0, 0, 0, 0) := by decide +kernel
theorem c122_41 : zcod 122 41 = some (.getfield 81, 3, 9, 38, 834, 0) := by decide +kernel
theorem c122_44 : zcod 122 44 = some (.iconst 1, 1, 0, 0, 0, 0) := by decide +kernel
theorem c122_45 : zcod 122 45 = some (.iaload, 1, 0, 0, 0, 0) := by decide +kernel
theorem c122_46 : zcod 122 46 = some (.aload_n 0, 1, 0, 0, 0, 0) := by decide +kernel
theorem c122_47 : zcod 122 47 = some (.getfield 81, 3, 9, 38, 834, 0) := by decide +kernel
theorem c122_50 : zcod 122 50 = some (.iconst 2, 1, 0, 0, 0, 0) := by decide +kernel
theorem c122_51 : zcod 122 51 = some (.iaload, 1, 0, 0, 0, 0) := by decide +kernel
theorem c122_52 : zcod 122 52 = some (.iconst 1, 1, 0, 0, 0, 0) := by decide +kernel
theorem c122_53 : zcod 122 53 = some (.if_icmp .ne 7, 3, 60, 0, 0, 0) := by decide +kernel
theorem c122_56 : zcod 122 56 = some (.iload_n 2, 1, 0, 0, 0, 0) := by decide +kernel
theorem c122_57 : zcod 122 57 = some (.goto 4, 3, 61, 0, 0, 0) := by decide +kernel
theorem c122_60 : zcod 122 60 = some (.iconst 0, 1, 0, 0, 0, 0) := by decide +kernel
theorem c122_61 : zcod 122 61 = some (.iadd, 1, 0, 0, 0, 0) := by decide +kernel
theorem c122_62 : zcod 122 62 = some (.istore 4, 2, 0, 0, 0, 0) := by decide +kernel
theorem c122_64 : zcod 122 64 = some (.iload_n 3, 1, 0, 0, 0, 0) := by decide +kernel
theorem c122_65 : zcod 122 65 = some (.bipush 20, 2, 0, 0, 0, 0) := by decide +kernel
theorem c122_67 : zcod 122 67 = some (.if_icmp .ge 47, 3, 114, 0, 0, 0) := by decide +kernel
theorem c122_70 : zcod 122 70 = some (.iload 4, 2, 0, 0, 0, 0) := by decide +kernel
theorem c122_72 : zcod 122 72 = some (.bipush 16, 2, 0, 0, 0, 0) := by decide +kernel
theorem c122_74 : zcod 122 74 = some (.if_icmp .ge 40, 3, 114, 0, 0, 0) := by decide +kernel
theorem c122_77 : zcod 122 77 = some (.aload_n 0, 1, 0, 0, 0, 0) := by decide +kernel
theorem c122_78 : zcod 122 78 = some (.getfield 20, 3, 9, 4, 800, 0) := by decide +kernel
theorem c122_81 : zcod 122 81 = some (.bipush 20, 2, 0, 0, 0, 0) := by decide +kernel
theorem c122_83 : zcod 122 83 = some (.iload 4, 2, 0, 0, 0, 0) := by decide +kernel
theorem c122_85 : zcod 122 85 = some (.imul, 1, 0, 0, 0, 0) := by decide +kernel
theorem c122_86 : zcod 122 86 = some (.iload_n 3, 1, 0, 0, 0, 0) := by decide +kernel
theorem c122_87 : zcod 122 87 = some (.iadd, 1, 0, 0, 0, 0) := by decide +kernel
theorem c122_88 : zcod 122 88 = some (.iaload, 1, 0, 0, 0, 0) := by decide +kernel
theorem c122_89 : zcod 122 89 = some (.iconst (-1), 1, 0, 0, 0, 0) := by decide +kernel
theorem c122_90 : zcod 122 90 = some (.if_icmp .eq 20, 3, 110, 0, 0, 0) := by decide +kernel
theorem c122_93 : zcod 122 93 = some (.aload_n 0, 1, 0, 0, 0, 0) := by decide +kernel
theorem c122_94 : zcod 122 94 = some (.getfield 20, 3, 9, 4, 800, 0) := by decide +kernel
theorem c122_97 : zcod 122 97 = some (.bipush 20, 2, 0, 0, 0, 0) := by decide +kernel
theorem c122_99 : zcod 122 99 = some (.iload 4, 2, 0, 0, 0, 0) := by decide +kernel
theorem c122_101 : zcod 122 101 = some (.imul, 1, 0, 0, 0, 0) := by decide +kernel
theorem c122_102 : zcod 122 102 = some (.iload_n 3, 1, 0, 0, 0, 0) := by decide +kernel
theorem c122_103 : zcod 122 103 = some (.iadd, 1, 0, 0, 0, 0) := by decide +kernel
theorem c122_104 : zcod 122 104 = some (.iaload, 1, 0, 0, 0, 0) := by decide +kernel
theorem c122_105 : zcod 122 105 = some (.bipush 100, 2, 0, 0, 0, 0) := by decide +kernel
theorem c122_107 : zcod 122 107 = some (.if_icmp .lt 7, 3, 114, 0, 0, 0) := by decide +kernel
theorem c122_110 : zcod 122 110 = some (.iconst 1, 1, 0, 0, 0, 0) := by decide +kernel
theorem c122_111 : zcod 122 111 = some (.goto 4, 3, 115, 0, 0, 0) := by decide +kernel
theorem c122_114 : zcod 122 114 = some (.iconst 0, 1, 0, 0, 0, 0) := by decide +kernel
theorem c122_115 : zcod 122 115 = some (.istore_n 1, 1, 0, 0, 0, 0) := by decide +kernel
theorem c122_116 : zcod 122 116 = some (.iload_n 1, 1, 0, 0, 0, 0) := by decide +kernel
theorem c122_117 : zcod 122 117 = some (.ifCond .eq 38, 3, 155, 0, 0, 0) := by decide +kernel
theorem c122_120 : zcod 122 120 = some (.aload_n 0, 1, 0, 0, 0, 0) := by decide +kernel
theorem c122_121 : zcod 122 121 = some (.getfield 20, 3, 9, 4, 800, 0) := by decide +kernel
theorem c122_124 : zcod 122 124 = some (.bipush 20, 2, 0, 0, 0, 0) := by decide +kernel
theorem c122_126 : zcod 122 126 = some (.iload 4, 2, 0, 0, 0, 0) := by decide +kernel
theorem c122_128 : zcod 122 128 = some (.imul, 1, 0, 0, 0, 0) := by decide +kernel
theorem c122_129 : zcod 122 129 = some (.iload_n 3, 1, 0, 0, 0, 0) := by decide +kernel
theorem c122_130 : zcod 122 130 = some (.iadd, 1, 0, 0, 0, 0) := by decide +kernel
theorem c122_131 : zcod 122 131 = some (.iaload, 1, 0, 0, 0, 0) := by decide +kernel
theorem c122_132 : zcod 122 132 = some (.iconst (-1), 1, 0, 0, 0, 0) := by decide +kernel
theorem c122_133 : zcod 122 133 = some (.if_icmp .ne 22, 3, 155, 0, 0, 0) := by decide +kernel
theorem c122_136 : zcod 122 136 = some (.aload_n 0, 1, 0, 0, 0, 0) := by decide +kernel
theorem c122_137 : zcod 122 137 = some (.getfield 20, 3, 9, 4, 800, 0) := by decide +kernel
theorem c122_140 : zcod 122 140 = some (.bipush 20, 2, 0, 0, 0, 0) := by decide +kernel
theorem c122_142 : zcod 122 142 = some (.iload 4, 2, 0, 0, 0, 0) := by decide +kernel
theorem c122_144 : zcod 122 144 = some (.imul, 1, 0, 0, 0, 0) := by decide +kernel
theorem c122_145 : zcod 122 145 = some (.iload_n 3, 1, 0, 0, 0, 0) := by decide +kernel
theorem c122_146 : zcod 122 146 = some (.iadd, 1, 0, 0, 0, 0) := by decide +kernel
theorem c122_147 : zcod 122 147 = some (.bipush 100, 2, 0, 0, 0, 0) := by decide +kernel
theorem c122_149 : zcod 122 149 = some (.aload_n 0, 1, 0, 0, 0, 0) := by decide +kernel
theorem c122_150 : zcod 122 150 = some (.getfield 128, 3, 9, 37, 833, 0) := by decide +kernel
theorem c122_153 : zcod 122 153 = some (.iadd, 1, 0, 0, 0, 0) := by decide +kernel
theorem c122_154 : zcod 122 154 = some (.iastore, 1, 0, 0, 0, 0) := by decide +kernel
theorem c122_155 : zcod 122 155 = some (.iinc 2 1, 3, 0, 0, 0, 0) := by decide +kernel
theorem c122_158 : zcod 122 158 = some (.goto (-154), 3, 4, 0, 0, 0) := by decide +kernel
theorem c122_161 : zcod 122 161 = some (.iload_n 1, 1, 0, 0, 0, 0) := by decide +kernel
theorem c122_162 : zcod 122 162 = some (.ireturn, 1, 0, 0, 0, 0) := by decide +kernel
set_option maxRecDepth 100000 in
theorem b122_0 (l0 : Option Nat) (h : zH) : zev 122 0 [some (vR l0), none, none, none, none] [] h = zev 122 4 [some (vR l0), some (vI 1), some (vI 0), none, none] [] h := by
  refine (zv_k (v := 1) c122_0 (by decide)).trans ?_
  refine (zv_it c122_1 rfl).trans ?_
  refine (zv_k (v := 0) c122_2 (by decide)).trans ?_
  refine (zv_it c122_3 rfl).trans ?_
  rfl
theorem e122 (l0 : Option Nat) (h : zH) : zcall 122 [vR l0] h = zev 122 4 [some (vR l0), some (vI 1), some (vI 0), none, none] [] h := by
  refine Eq.trans ?_ (b122_0 l0 h)
  unfold zcall zent
  rw [zL_122]
  rfl
set_option maxRecDepth 100000 in
theorem b122_4 (l0 : Option Nat) (l1 : Int32) (l2 : Int32) (l3 : Option zV) (l4 : Option zV) (h : zH) : zev 122 4 [some (vR l0), some (vI l1), some (vI l2), l3, l4] [] h = (zgR h l0 9 38 fun x1 => (zaI h x1 3 fun x2 => (if l2 < x2 then (if l1 = 0 then zbo l1 (some (some (vI l1), h)) else (zgR h l0 9 38 fun x3 => (zaI h x3 0 fun x4 => (zgR h l0 9 38 fun x5 => (zaI h x5 2 fun x6 => (if x6 = 0 then zev 122 38 [some (vR l0), some (vI l1), some (vI l2), l3, l4] [vI l2, vI x4] h else zev 122 38 [some (vR l0), some (vI l1), some (vI l2), l3, l4] [vI 0, vI x4] h)))))) else zbo l1 (some (some (vI l1), h))))) := by
  refine (zv_in c122_4 rfl).trans ?_
  refine (zv_an c122_5 rfl).trans ?_
  refine (zv_gR c122_6 zf9_38).trans (zgR_c fun x1 => ?_)
  refine (zv_k (v := 3) c122_9 (by decide)).trans ?_
  refine (zv_aI c122_10).trans (zaI_c fun x2 => ?_)
  refine (zv_icge c122_11).trans (zif_c ?_ ?_)
  · refine (zv_in c122_14 rfl).trans ?_
    refine (zv_ifeq c122_15).trans (zif_c ?_ ?_)
    · refine (zv_in c122_161 rfl).trans ?_
      exact zv_iz c122_162 zrt_122
    · refine (zv_an c122_18 rfl).trans ?_
      refine (zv_gR c122_19 zf9_38).trans (zgR_c fun x3 => ?_)
      refine (zv_k (v := 0) c122_22 (by decide)).trans ?_
      refine (zv_aI c122_23).trans (zaI_c fun x4 => ?_)
      refine (zv_an c122_24 rfl).trans ?_
      refine (zv_gR c122_25 zf9_38).trans (zgR_c fun x5 => ?_)
      refine (zv_k (v := 2) c122_28 (by decide)).trans ?_
      refine (zv_aI c122_29).trans (zaI_c fun x6 => ?_)
      refine (zv_ifne c122_30).trans (zif_c ?_ ?_)
      · refine (zv_in c122_33 rfl).trans ?_
        refine (zv_goto c122_34).trans ?_
        rfl
      · refine (zv_k (v := 0) c122_37 (by decide)).trans ?_
        rfl
  · refine (zv_in c122_161 rfl).trans ?_
    exact zv_iz c122_162 zrt_122
set_option maxRecDepth 100000 in
theorem b122_38 (l0 : Option Nat) (l1 : Int32) (l2 : Int32) (l3 : Option zV) (l4 : Option zV) (s0 : Int32) (s1 : Int32) (h : zH) : zev 122 38 [some (vR l0), some (vI l1), some (vI l2), l3, l4] [vI s1, vI s0] h = (zgR h l0 9 38 fun x1 => (zaI h x1 1 fun x2 => (zgR h l0 9 38 fun x3 => (zaI h x3 2 fun x4 => (if x4 = 1 then zev 122 61 [some (vR l0), some (vI l1), some (vI l2), some (vI (s0 + s1)), l4] [vI l2, vI x2] h else zev 122 61 [some (vR l0), some (vI l1), some (vI l2), some (vI (s0 + s1)), l4] [vI 0, vI x2] h))))) := by
  refine (zv_iadd c122_38).trans ?_
  refine (zv_it c122_39 rfl).trans ?_
  refine (zv_an c122_40 rfl).trans ?_
  refine (zv_gR c122_41 zf9_38).trans (zgR_c fun x1 => ?_)
  refine (zv_k (v := 1) c122_44 (by decide)).trans ?_
  refine (zv_aI c122_45).trans (zaI_c fun x2 => ?_)
  refine (zv_an c122_46 rfl).trans ?_
  refine (zv_gR c122_47 zf9_38).trans (zgR_c fun x3 => ?_)
  refine (zv_k (v := 2) c122_50 (by decide)).trans ?_
  refine (zv_aI c122_51).trans (zaI_c fun x4 => ?_)
  refine (zv_k (v := 1) c122_52 (by decide)).trans ?_
  refine (zv_icne c122_53).trans (zif_c ?_ ?_)
  · refine (zv_in c122_56 rfl).trans ?_
    refine (zv_goto c122_57).trans ?_
    rfl
  · refine (zv_k (v := 0) c122_60 (by decide)).trans ?_
    rfl
set_option maxRecDepth 100000 in
theorem b122_61 (l0 : Option Nat) (l1 : Int32) (l2 : Int32) (l3 : Int32) (l4 : Option zV) (s0 : Int32) (s1 : Int32) (h : zH) : zev 122 61 [some (vR l0), some (vI l1), some (vI l2), some (vI l3), l4] [vI s1, vI s0] h = (if l3 < 20 then (if (s0 + s1) < 16 then (zgR h l0 9 4 fun x1 => (zaI h x1 ((20 * (s0 + s1)) + l3) fun x2 => (if x2 = (-1) then zev 122 115 [some (vR l0), some (vI l1), some (vI l2), some (vI l3), some (vI (s0 + s1))] [vI 1] h else (zgR h l0 9 4 fun x3 => (zaI h x3 ((20 * (s0 + s1)) + l3) fun x4 => (if x4 < 100 then zev 122 115 [some (vR l0), some (vI l1), some (vI l2), some (vI l3), some (vI (s0 + s1))] [vI 0] h else zev 122 115 [some (vR l0), some (vI l1), some (vI l2), some (vI l3), some (vI (s0 + s1))] [vI 1] h)))))) else zev 122 115 [some (vR l0), some (vI l1), some (vI l2), some (vI l3), some (vI (s0 + s1))] [vI 0] h) else zev 122 115 [some (vR l0), some (vI l1), some (vI l2), some (vI l3), some (vI (s0 + s1))] [vI 0] h) := by
  refine (zv_iadd c122_61).trans ?_
  refine (zv_is c122_62 rfl).trans ?_
  refine (zv_in c122_64 rfl).trans ?_
  refine (zv_bi (v := 20) c122_65 (by decide)).trans ?_
  refine (zv_icge c122_67).trans (zif_c ?_ ?_)
  · refine (zv_il c122_70 rfl).trans ?_
    refine (zv_bi (v := 16) c122_72 (by decide)).trans ?_
    refine (zv_icge c122_74).trans (zif_c ?_ ?_)
    · refine (zv_an c122_77 rfl).trans ?_
      refine (zv_gR c122_78 zf9_4).trans (zgR_c fun x1 => ?_)
      refine (zv_bi (v := 20) c122_81 (by decide)).trans ?_
      refine (zv_il c122_83 rfl).trans ?_
      refine (zv_imul c122_85).trans ?_
      refine (zv_in c122_86 rfl).trans ?_
      refine (zv_iadd c122_87).trans ?_
      refine (zv_aI c122_88).trans (zaI_c fun x2 => ?_)
      refine (zv_k (v := -1) c122_89 (by decide)).trans ?_
      refine (zv_iceq c122_90).trans (zif_c ?_ ?_)
      · refine (zv_k (v := 1) c122_110 (by decide)).trans ?_
        refine (zv_goto c122_111).trans ?_
        rfl
      · refine (zv_an c122_93 rfl).trans ?_
        refine (zv_gR c122_94 zf9_4).trans (zgR_c fun x3 => ?_)
        refine (zv_bi (v := 20) c122_97 (by decide)).trans ?_
        refine (zv_il c122_99 rfl).trans ?_
        refine (zv_imul c122_101).trans ?_
        refine (zv_in c122_102 rfl).trans ?_
        refine (zv_iadd c122_103).trans ?_
        refine (zv_aI c122_104).trans (zaI_c fun x4 => ?_)
        refine (zv_bi (v := 100) c122_105 (by decide)).trans ?_
        refine (zv_iclt c122_107).trans (zif_c ?_ ?_)
        · refine (zv_k (v := 0) c122_114 (by decide)).trans ?_
          rfl
        · refine (zv_k (v := 1) c122_110 (by decide)).trans ?_
          refine (zv_goto c122_111).trans ?_
          rfl
    · refine (zv_k (v := 0) c122_114 (by decide)).trans ?_
      rfl
  · refine (zv_k (v := 0) c122_114 (by decide)).trans ?_
    rfl
set_option maxRecDepth 100000 in
theorem b122_115 (l0 : Option Nat) (l1 : Int32) (l2 : Int32) (l3 : Int32) (l4 : Int32) (s0 : Int32) (h : zH) : zev 122 115 [some (vR l0), some (vI l1), some (vI l2), some (vI l3), some (vI l4)] [vI s0] h = (if s0 = 0 then zev 122 4 [some (vR l0), some (vI s0), some (vI (l2 + 1)), some (vI l3), some (vI l4)] [] h else (zgR h l0 9 4 fun x1 => (zaI h x1 ((20 * l4) + l3) fun x2 => (if x2 = (-1) then (zgR h l0 9 4 fun x3 => (zgI h l0 9 37 fun x4 => (ztI h x3 ((20 * l4) + l3) (100 + x4) fun h5 => zev 122 4 [some (vR l0), some (vI s0), some (vI (l2 + 1)), some (vI l3), some (vI l4)] [] h5))) else zev 122 4 [some (vR l0), some (vI s0), some (vI (l2 + 1)), some (vI l3), some (vI l4)] [] h)))) := by
  refine (zv_it c122_115 rfl).trans ?_
  refine (zv_in c122_116 rfl).trans ?_
  refine (zv_ifeq c122_117).trans (zif_c ?_ ?_)
  · refine (zv_inc (y := 1) c122_155 rfl (by decide) rfl).trans ?_
    refine (zv_goto c122_158).trans ?_
    rfl
  · refine (zv_an c122_120 rfl).trans ?_
    refine (zv_gR c122_121 zf9_4).trans (zgR_c fun x1 => ?_)
    refine (zv_bi (v := 20) c122_124 (by decide)).trans ?_
    refine (zv_il c122_126 rfl).trans ?_
    refine (zv_imul c122_128).trans ?_
    refine (zv_in c122_129 rfl).trans ?_
    refine (zv_iadd c122_130).trans ?_
    refine (zv_aI c122_131).trans (zaI_c fun x2 => ?_)
    refine (zv_k (v := -1) c122_132 (by decide)).trans ?_
    refine (zv_icne c122_133).trans (zif_c ?_ ?_)
    · refine (zv_an c122_136 rfl).trans ?_
      refine (zv_gR c122_137 zf9_4).trans (zgR_c fun x3 => ?_)
      refine (zv_bi (v := 20) c122_140 (by decide)).trans ?_
      refine (zv_il c122_142 rfl).trans ?_
      refine (zv_imul c122_144).trans ?_
      refine (zv_in c122_145 rfl).trans ?_
      refine (zv_iadd c122_146).trans ?_
      refine (zv_bi (v := 100) c122_147 (by decide)).trans ?_
      refine (zv_an c122_149 rfl).trans ?_
      refine (zv_gI c122_150 zg9_37).trans (zgI_c fun x4 => ?_)
      refine (zv_iadd c122_153).trans ?_
      refine (zv_tI c122_154).trans (ztI_c fun h5 => ?_)
      refine (zv_inc (y := 1) c122_155 rfl (by decide) rfl).trans ?_
      refine (zv_goto c122_158).trans ?_
      rfl
    · refine (zv_inc (y := 1) c122_155 rfl (by decide) rfl).trans ?_
      refine (zv_goto c122_158).trans ?_
      rfl
theorem c123_0 : zcod 123 0 = some (.iconst 1, 1, 0, 0, 0, 0) := by decide +kernel
theorem c123_1 : zcod 123 1 = some (.istore_n 2, 1, 0, 0, 0, 0) := by decide +kernel
theorem c123_2 : zcod 123 2 = some (.iconst 0, 1, 0, 0, 0, 0) := by decide +kernel
theorem c123_3 : zcod 123 3 = some (.istore_n 3, 1, 0, 0, 0, 0) := by decide +kernel
theorem c123_4 : zcod 123 4 = some (.iload_n 3, 1, 0, 0, 0, 0) := by decide +kernel
theorem c123_5 : zcod 123 5 = some (.iload_n 1, 1, 0, 0, 0, 0) := by decide +kernel
theorem c123_6 : zcod 123 6 = some (.if_icmp .ge 57, 3, 63, 0, 0, 0) := by decide +kernel
theorem c123_9 : zcod 123 9 = some (.iload_n 2, 1, 0, 0, 0, 0) := by decide +kernel
theorem c123_10 : zcod 123 10 = some (.ifCond .eq 53, 3, 63, 0, 0, 0) := by decide +kernel
theorem c123_13 : zcod 123 13 = some (.aload_n 0, 1, 0, 0, 0, 0) := by decide +kernel
theorem c123_14 : zcod 123 14 = some (.aload_n 0, 1, 0, 0, 0, 0) := by decide +kernel
theorem c123_15 : zcod 123 15 = some (.getfield 81, 3, 9, 38, 834, 0) := by decide +kernel
theorem c123_18 : zcod 123 18 = some (.iconst 0, 1, 0, 0, 0, 0) := by decide +kernel
theorem c123_19 : zcod 123 19 = some (.iaload, 1, 0, 0, 0, 0) := by decide +kernel
theorem c123_20 : zcod 123 20 = some (.iload_n 3, 1, 0, 0, 0, 0) := by decide +kernel
theorem c123_21 : zcod 123 21 = some (.aload_n 0, 1, 0, 0, 0, 0) := by decide +kernel
theorem c123_22 : zcod 123 22 = some (.getfield 81, 3, 9, 38, 834, 0) := by decide +kernel
theorem c123_25 : zcod 123 25 = some (.iconst 2, 1, 0, 0, 0, 0) := by decide +kernel
theorem c123_26 : zcod 123 26 = some (.iaload, 1, 0, 0, 0, 0) := by decide +kernel
theorem c123_27 : zcod 123 27 = some (.imul, 1, 0, 0, 0, 0) := by decide +kernel
theorem c123_28 : zcod 123 28 = some (.iadd, 1, 0, 0, 0, 0) := by decide +kernel
theorem c123_29 : zcod 123 29 = some (.aload_n 0, 1, 0, 0, 0, 0) := by decide +kernel
theorem c123_30 : zcod 123 30 = some (.getfield 81, 3, 9, 38, 834, 0) := by decide +kernel
theorem c123_33 : zcod 123 33 = some (.iconst 1, 1, 0, 0, 0, 0) := by decide +kernel
theorem c123_34 : zcod 123 34 = some (.iaload, 1, 0, 0, 0, 0) := by decide +kernel
theorem c123_35 : zcod 123 35 = some (.aload_n 0, 1, 0, 0, 0, 0) := by decide +kernel
theorem c123_36 : zcod 123 36 = some (.getfield 81, 3, 9, 38, 834, 0) := by decide +kernel
theorem c123_39 : zcod 123 39 = some (.iconst 2, 1, 0, 0, 0, 0) := by decide +kernel
theorem c123_40 : zcod 123 40 = some (.iaload, 1, 0, 0, 0, 0) := by decide +kernel
theorem c123_41 : zcod 123 41 = some (.aload_n 0, 1, 0, 0, 0, 0) := by decide +kernel
theorem c123_42 : zcod 123 42 = some (.getfield 81, 3, 9, 38, 834, 0) := by decide +kernel
theorem c123_45 : zcod 123 45 = some (.iconst 3, 1, 0, 0, 0, 0) := by decide +kernel
theorem c123_46 : zcod 123 46 = some (.iaload, 1, 0, 0, 0, 0) := by decide +kernel
theorem c123_47 : zcod 123 47 = some (.aload_n 0, 1, 0, 0, 0, 0) := by decide +kernel
theorem c123_48 : zcod 123 48 = some (.getfield 121, 3, 9, 36, 832, 0) := by decide +kernel
theorem c123_51 : zcod 123 51 = some (.iload_n 3, 1, 0, 0, 0, 0) := by decide +kernel
theorem c123_52 : zcod 123 52 = some (.iadd, 1, 0, 0, 0, 0) := by decide +kernel
theorem c123_53 : zcod 123 53 = some (.invokevirtual 124, 3, 124, 5, 969, 0) := by decide +kernel
theorem c123_56 : zcod 123 56 = some (.istore_n 2, 1, 0, 0, 0, 0) := by decide +kernel
theorem c123_57 : zcod 123 57 = some (.iinc 3 1, 3, 0, 0, 0, 0) := by decide +kernel
theorem c123_60 : zcod 123 60 = some (.goto (-56), 3, 4, 0, 0, 0) := by decide +kernel
theorem c123_63 : zcod 123 63 = some (.iload_n 2, 1, 0, 0, 0, 0) := by decide +kernel
theorem c123_64 : zcod 123 64 = some (.ireturn, 1, 0, 0, 0, 0) := by decide +kernel
set_option maxRecDepth 100000 in
theorem b123_0 (l0 : Option Nat) (l1 : Int32) (h : zH) : zev 123 0 [some (vR l0), some (vI l1), none, none] [] h = zev 123 4 [some (vR l0), some (vI l1), some (vI 1), some (vI 0)] [] h := by
  refine (zv_k (v := 1) c123_0 (by decide)).trans ?_
  refine (zv_it c123_1 rfl).trans ?_
  refine (zv_k (v := 0) c123_2 (by decide)).trans ?_
  refine (zv_it c123_3 rfl).trans ?_
  rfl
theorem e123 (l0 : Option Nat) (l1 : Int32) (h : zH) : zcall 123 [vR l0, vI l1] h = zev 123 4 [some (vR l0), some (vI l1), some (vI 1), some (vI 0)] [] h := by
  refine Eq.trans ?_ (b123_0 l0 l1 h)
  unfold zcall zent
  rw [zL_123]
  rfl
set_option maxRecDepth 100000 in
theorem b123_4 (l0 : Option Nat) (l1 : Int32) (l2 : Int32) (l3 : Int32) (h : zH) : zev 123 4 [some (vR l0), some (vI l1), some (vI l2), some (vI l3)] [] h = (if l3 < l1 then (if l2 = 0 then zbo l2 (some (some (vI l2), h)) else (zgR h l0 9 38 fun x1 => (zaI h x1 0 fun x2 => (zgR h l0 9 38 fun x3 => (zaI h x3 2 fun x4 => (zgR h l0 9 38 fun x5 => (zaI h x5 1 fun x6 => (zgR h l0 9 38 fun x7 => (zaI h x7 2 fun x8 => (zgR h l0 9 38 fun x9 => (zaI h x9 3 fun x10 => (zgI h l0 9 36 fun x11 => (zvr h l0 9 (zcI 124 [vR l0, vI (x2 + (l3 * x4)), vI x6, vI x8, vI x10, vI (x11 + l3)] h fun x13 h12 => zev 123 4 [some (vR l0), some (vI l1), some (vI x13), some (vI (l3 + 1))] [] h12)))))))))))))) else zbo l2 (some (some (vI l2), h))) := by
  refine (zv_in c123_4 rfl).trans ?_
  refine (zv_in c123_5 rfl).trans ?_
  refine (zv_icge c123_6).trans (zif_c ?_ ?_)
  · refine (zv_in c123_9 rfl).trans ?_
    refine (zv_ifeq c123_10).trans (zif_c ?_ ?_)
    · refine (zv_in c123_63 rfl).trans ?_
      exact zv_iz c123_64 zrt_123
    · refine (zv_an c123_13 rfl).trans ?_
      refine (zv_an c123_14 rfl).trans ?_
      refine (zv_gR c123_15 zf9_38).trans (zgR_c fun x1 => ?_)
      refine (zv_k (v := 0) c123_18 (by decide)).trans ?_
      refine (zv_aI c123_19).trans (zaI_c fun x2 => ?_)
      refine (zv_in c123_20 rfl).trans ?_
      refine (zv_an c123_21 rfl).trans ?_
      refine (zv_gR c123_22 zf9_38).trans (zgR_c fun x3 => ?_)
      refine (zv_k (v := 2) c123_25 (by decide)).trans ?_
      refine (zv_aI c123_26).trans (zaI_c fun x4 => ?_)
      refine (zv_imul c123_27).trans ?_
      refine (zv_iadd c123_28).trans ?_
      refine (zv_an c123_29 rfl).trans ?_
      refine (zv_gR c123_30 zf9_38).trans (zgR_c fun x5 => ?_)
      refine (zv_k (v := 1) c123_33 (by decide)).trans ?_
      refine (zv_aI c123_34).trans (zaI_c fun x6 => ?_)
      refine (zv_an c123_35 rfl).trans ?_
      refine (zv_gR c123_36 zf9_38).trans (zgR_c fun x7 => ?_)
      refine (zv_k (v := 2) c123_39 (by decide)).trans ?_
      refine (zv_aI c123_40).trans (zaI_c fun x8 => ?_)
      refine (zv_an c123_41 rfl).trans ?_
      refine (zv_gR c123_42 zf9_38).trans (zgR_c fun x9 => ?_)
      refine (zv_k (v := 3) c123_45 (by decide)).trans ?_
      refine (zv_aI c123_46).trans (zaI_c fun x10 => ?_)
      refine (zv_an c123_47 rfl).trans ?_
      refine (zv_gI c123_48 zg9_36).trans (zgI_c fun x11 => ?_)
      refine (zv_in c123_51 rfl).trans ?_
      refine (zv_iadd c123_52).trans ?_
      refine (zv_viI c123_53 zcn_124 rfl zL_124 (Or.inr zrt_124) rfl rfl).trans (zvr_c (zcI_c fun x13 h12 => ?_))
      refine (zv_it c123_56 rfl).trans ?_
      refine (zv_inc (y := 1) c123_57 rfl (by decide) rfl).trans ?_
      refine (zv_goto c123_60).trans ?_
      rfl
  · refine (zv_in c123_63 rfl).trans ?_
    exact zv_iz c123_64 zrt_123
theorem c124_0 : zcod 124 0 = some (.iload_n 1, 1, 0, 0, 0, 0) := by decide +kernel
theorem c124_1 : zcod 124 1 = some (.iload_n 3, 1, 0, 0, 0, 0) := by decide +kernel
theorem c124_2 : zcod 124 2 = some (.iadd, 1, 0, 0, 0, 0) := by decide +kernel
theorem c124_3 : zcod 124 3 = some (.bipush 20, 2, 0, 0, 0, 0) := by decide +kernel
theorem c124_5 : zcod 124 5 = some (.if_icmp .gt 16, 3, 21, 0, 0, 0) := by decide +kernel
theorem c124_8 : zcod 124 8 = some (.iload_n 2, 1, 0, 0, 0, 0) := by decide +kernel
theorem c124_9 : zcod 124 9 = some (.iload 4, 2, 0, 0, 0, 0) := by decide +kernel
theorem c124_11 : zcod 124 11 = some (.iadd, 1, 0, 0, 0, 0) := by decide +kernel
theorem c124_12 : zcod 124 12 = some (.bipush 16, 2, 0, 0, 0, 0) := by decide +kernel
theorem c124_14 : zcod 124 14 = some (.if_icmp .gt 7, 3, 21, 0, 0, 0) := by decide +kernel
theorem c124_17 : zcod 124 17 = some (.iconst 1, 1, 0, 0, 0, 0) := by decide +kernel
theorem c124_18 : zcod 124 18 = some (.goto 4, 3, 22, 0, 0, 0) := by decide +kernel
theorem c124_21 : zcod 124 21 = some (.iconst 0, 1, 0, 0, 0, 0) := by decide +kernel
theorem c124_22 : zcod 124 22 = some (.istore 6, 2, 0, 0, 0, 0) := by decide +kernel
theorem c124_24 : zcod 124 24 = some (.iload_n 2, 1, 0, 0, 0, 0) := by decide +kernel
theorem c124_25 : zcod 124 25 = some (.istore 7, 2, 0, 0, 0, 0) := by decide +kernel
theorem c124_27 : zcod 124 27 = some (.iload 7, 2, 0, 0, 0, 0) := by decide +kernel
theorem c124_29 : zcod 124 29 = some (.iload_n 2, 1, 0, 0, 0, 0) := by decide +kernel
theorem c124_30 : zcod 124 30 = some (.iload 4, 2, 0, 0, 0, 0) := by decide +kernel
theorem c124_32 : zcod 124 32 = some (.iadd, 1, 0, 0, 0, 0) := by decide +kernel
theorem c124_33 : zcod 124 33 = some (.if_icmp .ge 75, 3, 108, 0, 0, 0) := by decide +kernel
theorem c124_36 : zcod 124 36 = some (.iload 6, 2, 0, 0, 0, 0) := by decide +kernel
theorem c124_38 : zcod 124 38 = some (.ifCond .eq 70, 3, 108, 0, 0, 0) := by decide +kernel
theorem c124_41 : zcod 124 41 = some (.iload_n 1, 1, 0, 0, 0, 0) := by decide +kernel
theorem c124_42 : zcod 124 42 = some (.istore 8, 2, 0, 0, 0, 0) := by decide +kernel
theorem c124_44 : zcod 124 44 = some (.iload 8, 2, 0, 0, 0, 0) := by decide +kernel
theorem c124_46 : zcod 124 46 = some (.iload_n 1, 1, 0, 0, 0, 0) := by decide +kernel
theorem c124_47 : zcod 124 47 = some (.iload_n 3, 1, 0, 0, 0, 0) := by decide +kernel
theorem c124_48 : zcod 124 48 = some (.iadd, 1, 0, 0, 0, 0) := by decide +kernel
theorem c124_49 : zcod 124 49 = some (.if_icmp .ge 53, 3, 102, 0, 0, 0) := by decide +kernel
theorem c124_52 : zcod 124 52 = some (.iload 6, 2, 0, 0, 0, 0) := by decide +kernel
theorem c124_54 : zcod 124 54 = some (.ifCond .eq 48, 3, 102, 0, 0, 0) := by decide +kernel
theorem c124_57 : zcod 124 57 = some (.aload_n 0, 1, 0, 0, 0, 0) := by decide +kernel
theorem c124_58 : zcod 124 58 = some (.getfield 20, 3, 9, 4, 800, 0) := by decide +kernel
theorem c124_61 : zcod 124 61 = some (.bipush 20, 2, 0, 0, 0, 0) := by decide +kernel
theorem c124_63 : zcod 124 63 = some (.iload 7, 2, 0, 0, 0, 0) := by decide +kernel
theorem c124_65 : zcod 124 65 = some (.imul, 1, 0, 0, 0, 0) := by decide +kernel
theorem c124_66 : zcod 124 66 = some (.iload 8, 2, 0, 0, 0, 0) := by decide +kernel
theorem c124_68 : zcod 124 68 = some (.iadd, 1, 0, 0, 0, 0) := by decide +kernel
theorem c124_69 : zcod 124 69 = some (.iaload, 1, 0, 0, 0, 0) := by decide +kernel
theorem c124_70 : zcod 124 70 = some (.iconst (-1), 1, 0, 0, 0, 0) := by decide +kernel
theorem c124_71 : zcod 124 71 = some (.if_icmp .ne 7, 3, 78, 0, 0, 0) := by decide +kernel
theorem c124_74 : zcod 124 74 = some (.iconst 1, 1, 0, 0, 0, 0) := by decide +kernel
theorem c124_75 : zcod 124 75 = some (.goto 4, 3, 79, 0, 0, 0) := by decide +kernel
theorem c124_78 : zcod 124 78 = some (.iconst 0, 1, 0, 0, 0, 0) := by decide +kernel
theorem c124_79 : zcod 124 79 = some (.istore 6, 2, 0, 0, 0, 0) := by decide +kernel
theorem c124_81 : zcod 124 81 = some (.aload_n 0, 1, 0, 0, 0, 0) := by decide +kernel
theorem c124_82 : zcod 124 82 = some (.getfield 20, 3, 9, 4, 800, 0) := by decide +kernel
theorem c124_85 : zcod 124 85 = some (.bipush 20, 2, 0, 0, 0, 0) := by decide +kernel
theorem c124_87 : zcod 124 87 = some (.iload 7, 2, 0, 0, 0, 0) := by decide +kernel
theorem c124_89 : zcod 124 89 = some (.imul, 1, 0, 0, 0, 0) := by decide +kernel
theorem c124_90 : zcod 124 90 = some (.iload 8, 2, 0, 0, 0, 0) := by decide +kernel
theorem c124_92 : zcod 124 92 = some (.iadd, 1, 0, 0, 0, 0) := by decide +kernel
theorem c124_93 : zcod 124 93 = some (.iload 5, 2, 0, 0, 0, 0) := by decide +kernel
theorem c124_95 : zcod 124 95 = some (.iastore, 1, 0, 0, 0, 0) := by decide +kernel
theorem c124_96 : zcod 124 96 = some (.iinc 8 1, 3, 0, 0, 0, 0) := by decide +kernel
theorem c124_99 : zcod 124 99 = some (.goto (-55), 3, 44, 0, 0, 0) := by decide +kernel
theorem c124_102 : zcod 124 102 = some (.iinc 7 1, 3, 0, 0, 0, 0) := by decide +kernel
theorem c124_105 : zcod 124 105 = some (.goto (-78), 3, 27, 0, 0, 0) := by decide +kernel
theorem c124_108 : zcod 124 108 = some (.iload 6, 2, 0, 0, 0, 0) := by decide +kernel
theorem c124_110 : zcod 124 110 = some (.ireturn, 1, 0, 0, 0, 0) := by decide +kernel
set_option maxRecDepth 100000 in
theorem b124_0 (l0 : Option Nat) (l1 : Int32) (l2 : Int32) (l3 : Int32) (l4 : Int32) (l5 : Int32) (h : zH) : zev 124 0 [some (vR l0), some (vI l1), some (vI l2), some (vI l3), some (vI l4), some (vI l5), none, none, none] [] h = (if 20 < (l1 + l3) then zev 124 27 [some (vR l0), some (vI l1), some (vI l2), some (vI l3), some (vI l4), some (vI l5), some (vI 0), some (vI l2), none] [] h else (if 16 < (l2 + l4) then zev 124 27 [some (vR l0), some (vI l1), some (vI l2), some (vI l3), some (vI l4), some (vI l5), some (vI 0), some (vI l2), none] [] h else zev 124 27 [some (vR l0), some (vI l1), some (vI l2), some (vI l3), some (vI l4), some (vI l5), some (vI 1), some (vI l2), none] [] h)) := by
  refine (zv_in c124_0 rfl).trans ?_
  refine (zv_in c124_1 rfl).trans ?_
  refine (zv_iadd c124_2).trans ?_
  refine (zv_bi (v := 20) c124_3 (by decide)).trans ?_
  refine (zv_icgt c124_5).trans (zif_c ?_ ?_)
  · refine (zv_k (v := 0) c124_21 (by decide)).trans ?_
    refine (zv_is c124_22 rfl).trans ?_
    refine (zv_in c124_24 rfl).trans ?_
    refine (zv_is c124_25 rfl).trans ?_
    rfl
  · refine (zv_in c124_8 rfl).trans ?_
    refine (zv_il c124_9 rfl).trans ?_
    refine (zv_iadd c124_11).trans ?_
    refine (zv_bi (v := 16) c124_12 (by decide)).trans ?_
    refine (zv_icgt c124_14).trans (zif_c ?_ ?_)
    · refine (zv_k (v := 0) c124_21 (by decide)).trans ?_
      refine (zv_is c124_22 rfl).trans ?_
      refine (zv_in c124_24 rfl).trans ?_
      refine (zv_is c124_25 rfl).trans ?_
      rfl
    · refine (zv_k (v := 1) c124_17 (by decide)).trans ?_
      refine (zv_goto c124_18).trans ?_
      refine (zv_is c124_22 rfl).trans ?_
      refine (zv_in c124_24 rfl).trans ?_
      refine (zv_is c124_25 rfl).trans ?_
      rfl
theorem e124 (l0 : Option Nat) (l1 : Int32) (l2 : Int32) (l3 : Int32) (l4 : Int32) (l5 : Int32) (h : zH) : zcall 124 [vR l0, vI l1, vI l2, vI l3, vI l4, vI l5] h = (if 20 < (l1 + l3) then zev 124 27 [some (vR l0), some (vI l1), some (vI l2), some (vI l3), some (vI l4), some (vI l5), some (vI 0), some (vI l2), none] [] h else (if 16 < (l2 + l4) then zev 124 27 [some (vR l0), some (vI l1), some (vI l2), some (vI l3), some (vI l4), some (vI l5), some (vI 0), some (vI l2), none] [] h else zev 124 27 [some (vR l0), some (vI l1), some (vI l2), some (vI l3), some (vI l4), some (vI l5), some (vI 1), some (vI l2), none] [] h)) := by
  refine Eq.trans ?_ (b124_0 l0 l1 l2 l3 l4 l5 h)
  unfold zcall zent
  rw [zL_124]
  rfl
set_option maxRecDepth 100000 in
theorem b124_27 (l0 : Option Nat) (l1 : Int32) (l2 : Int32) (l3 : Int32) (l4 : Int32) (l5 : Int32) (l6 : Int32) (l7 : Int32) (l8 : Option zV) (h : zH) : zev 124 27 [some (vR l0), some (vI l1), some (vI l2), some (vI l3), some (vI l4), some (vI l5), some (vI l6), some (vI l7), l8] [] h = (if l7 < (l2 + l4) then (if l6 = 0 then zbo l6 (some (some (vI l6), h)) else zev 124 44 [some (vR l0), some (vI l1), some (vI l2), some (vI l3), some (vI l4), some (vI l5), some (vI l6), some (vI l7), some (vI l1)] [] h) else zbo l6 (some (some (vI l6), h))) := by
  refine (zv_il c124_27 rfl).trans ?_
  refine (zv_in c124_29 rfl).trans ?_
  refine (zv_il c124_30 rfl).trans ?_
  refine (zv_iadd c124_32).trans ?_
  refine (zv_icge c124_33).trans (zif_c ?_ ?_)
  · refine (zv_il c124_36 rfl).trans ?_
    refine (zv_ifeq c124_38).trans (zif_c ?_ ?_)
    · refine (zv_il c124_108 rfl).trans ?_
      exact zv_iz c124_110 zrt_124
    · refine (zv_in c124_41 rfl).trans ?_
      refine (zv_is c124_42 rfl).trans ?_
      rfl
  · refine (zv_il c124_108 rfl).trans ?_
    exact zv_iz c124_110 zrt_124
set_option maxRecDepth 100000 in
theorem b124_44 (l0 : Option Nat) (l1 : Int32) (l2 : Int32) (l3 : Int32) (l4 : Int32) (l5 : Int32) (l6 : Int32) (l7 : Int32) (l8 : Int32) (h : zH) : zev 124 44 [some (vR l0), some (vI l1), some (vI l2), some (vI l3), some (vI l4), some (vI l5), some (vI l6), some (vI l7), some (vI l8)] [] h = (if l8 < (l1 + l3) then (if l6 = 0 then zev 124 27 [some (vR l0), some (vI l1), some (vI l2), some (vI l3), some (vI l4), some (vI l5), some (vI l6), some (vI (l7 + 1)), some (vI l8)] [] h else (zgR h l0 9 4 fun x1 => (zaI h x1 ((20 * l7) + l8) fun x2 => (if x2 = (-1) then (zgR h l0 9 4 fun x3 => (ztI h x3 ((20 * l7) + l8) l5 fun h4 => zev 124 44 [some (vR l0), some (vI l1), some (vI l2), some (vI l3), some (vI l4), some (vI l5), some (vI 1), some (vI l7), some (vI (l8 + 1))] [] h4)) else (zgR h l0 9 4 fun x5 => (ztI h x5 ((20 * l7) + l8) l5 fun h6 => zev 124 44 [some (vR l0), some (vI l1), some (vI l2), some (vI l3), some (vI l4), some (vI l5), some (vI 0), some (vI l7), some (vI (l8 + 1))] [] h6)))))) else zev 124 27 [some (vR l0), some (vI l1), some (vI l2), some (vI l3), some (vI l4), some (vI l5), some (vI l6), some (vI (l7 + 1)), some (vI l8)] [] h) := by
  refine (zv_il c124_44 rfl).trans ?_
  refine (zv_in c124_46 rfl).trans ?_
  refine (zv_in c124_47 rfl).trans ?_
  refine (zv_iadd c124_48).trans ?_
  refine (zv_icge c124_49).trans (zif_c ?_ ?_)
  · refine (zv_il c124_52 rfl).trans ?_
    refine (zv_ifeq c124_54).trans (zif_c ?_ ?_)
    · refine (zv_inc (y := 1) c124_102 rfl (by decide) rfl).trans ?_
      refine (zv_goto c124_105).trans ?_
      rfl
    · refine (zv_an c124_57 rfl).trans ?_
      refine (zv_gR c124_58 zf9_4).trans (zgR_c fun x1 => ?_)
      refine (zv_bi (v := 20) c124_61 (by decide)).trans ?_
      refine (zv_il c124_63 rfl).trans ?_
      refine (zv_imul c124_65).trans ?_
      refine (zv_il c124_66 rfl).trans ?_
      refine (zv_iadd c124_68).trans ?_
      refine (zv_aI c124_69).trans (zaI_c fun x2 => ?_)
      refine (zv_k (v := -1) c124_70 (by decide)).trans ?_
      refine (zv_icne c124_71).trans (zif_c ?_ ?_)
      · refine (zv_k (v := 1) c124_74 (by decide)).trans ?_
        refine (zv_goto c124_75).trans ?_
        refine (zv_is c124_79 rfl).trans ?_
        refine (zv_an c124_81 rfl).trans ?_
        refine (zv_gR c124_82 zf9_4).trans (zgR_c fun x3 => ?_)
        refine (zv_bi (v := 20) c124_85 (by decide)).trans ?_
        refine (zv_il c124_87 rfl).trans ?_
        refine (zv_imul c124_89).trans ?_
        refine (zv_il c124_90 rfl).trans ?_
        refine (zv_iadd c124_92).trans ?_
        refine (zv_il c124_93 rfl).trans ?_
        refine (zv_tI c124_95).trans (ztI_c fun h4 => ?_)
        refine (zv_inc (y := 1) c124_96 rfl (by decide) rfl).trans ?_
        refine (zv_goto c124_99).trans ?_
        rfl
      · refine (zv_k (v := 0) c124_78 (by decide)).trans ?_
        refine (zv_is c124_79 rfl).trans ?_
        refine (zv_an c124_81 rfl).trans ?_
        refine (zv_gR c124_82 zf9_4).trans (zgR_c fun x5 => ?_)
        refine (zv_bi (v := 20) c124_85 (by decide)).trans ?_
        refine (zv_il c124_87 rfl).trans ?_
        refine (zv_imul c124_89).trans ?_
        refine (zv_il c124_90 rfl).trans ?_
        refine (zv_iadd c124_92).trans ?_
        refine (zv_il c124_93 rfl).trans ?_
        refine (zv_tI c124_95).trans (ztI_c fun h6 => ?_)
        refine (zv_inc (y := 1) c124_96 rfl (by decide) rfl).trans ?_
        refine (zv_goto c124_99).trans ?_
        rfl
  · refine (zv_inc (y := 1) c124_102 rfl (by decide) rfl).trans ?_
    refine (zv_goto c124_105).trans ?_
    rfl
theorem c125_0 : zcod 125 0 = some (.aload_n 0, 1, 0, 0, 0, 0) := by decide +kernel
theorem c125_1 : zcod 125 1 = some (.getfield 13, 3, 9, 2, 798, 0) := by decide +kernel
theorem c125_4 : zcod 125 4 = some (.ireturn, 1, 0, 0, 0, 0) := by decide +kernel
set_option maxRecDepth 100000 in
theorem b125_0 (l0 : Option Nat) (h : zH) : zev 125 0 [some (vR l0)] [] h = (zgI h l0 9 2 fun x1 => some (some (vI x1), h)) := by
  refine (zv_an c125_0 rfl).trans ?_
  refine (zv_gI c125_1 zg9_2).trans (zgI_c fun x1 => ?_)
  exact zv_ir c125_4 zrt_125
theorem e125 (l0 : Option Nat) (h : zH) : zcall 125 [vR l0] h = (zgI h l0 9 2 fun x1 => some (some (vI x1), h)) := by
  refine Eq.trans ?_ (b125_0 l0 h)
  unfold zcall zent
  rw [zL_125]
  rfl
theorem c126_0 : zcod 126 0 = some (.iload_n 1, 1, 0, 0, 0, 0) := by decide +kernel
theorem c126_1 : zcod 126 1 = some (.iload_n 2, 1, 0, 0, 0, 0) := by decide +kernel
theorem c126_2 : zcod 126 2 = some (.invokestatic 159, 3, 127, 2, 981, 0) := by decide +kernel
theorem c126_5 : zcod 126 5 = some (.ifCond .ne 7, 3, 12, 0, 0, 0) := by decide +kernel
theorem c126_8 : zcod 126 8 = some (.sipush (-1002), 3, 0, 0, 0, 0) := by decide +kernel
theorem c126_11 : zcod 126 11 = some (.ireturn, 1, 0, 0, 0, 0) := by decide +kernel
theorem c126_12 : zcod 126 12 = some (.aload_n 0, 1, 0, 0, 0, 0) := by decide +kernel
theorem c126_13 : zcod 126 13 = some (.getfield 17, 3, 9, 3, 799, 0) := by decide +kernel
theorem c126_16 : zcod 126 16 = some (.bipush 20, 2, 0, 0, 0, 0) := by decide +kernel
theorem c126_18 : zcod 126 18 = some (.iload_n 2, 1, 0, 0, 0, 0) := by decide +kernel
theorem c126_19 : zcod 126 19 = some (.imul, 1, 0, 0, 0, 0) := by decide +kernel
theorem c126_20 : zcod 126 20 = some (.iload_n 1, 1, 0, 0, 0, 0) := by decide +kernel
theorem c126_21 : zcod 126 21 = some (.iadd, 1, 0, 0, 0, 0) := by decide +kernel
theorem c126_22 : zcod 126 22 = some (.iaload, 1, 0, 0, 0, 0) := by decide +kernel
theorem c126_23 : zcod 126 23 = some (.istore_n 3, 1, 0, 0, 0, 0) := by decide +kernel
theorem c126_24 : zcod 126 24 = some (.iload_n 3, 1, 0, 0, 0, 0) := by decide +kernel
theorem c126_25 : zcod 126 25 = some (.bipush 100, 2, 0, 0, 0, 0) := by decide +kernel
theorem c126_27 : zcod 126 27 = some (.if_icmp .lt 22, 3, 49, 0, 0, 0) := by decide +kernel
theorem c126_30 : zcod 126 30 = some (.aload_n 0, 1, 0, 0, 0, 0) := by decide +kernel
theorem c126_31 : zcod 126 31 = some (.getfield 54, 3, 9, 17, 813, 0) := by decide +kernel
theorem c126_34 : zcod 126 34 = some (.iload_n 3, 1, 0, 0, 0, 0) := by decide +kernel
theorem c126_35 : zcod 126 35 = some (.bipush 100, 2, 0, 0, 0, 0) := by decide +kernel
theorem c126_37 : zcod 126 37 = some (.isub, 1, 0, 0, 0, 0) := by decide +kernel
theorem c126_38 : zcod 126 38 = some (.baload, 1, 0, 0, 0, 0) := by decide +kernel
theorem c126_39 : zcod 126 39 = some (.ifCond .eq 10, 3, 49, 0, 0, 0) := by decide +kernel
theorem c126_42 : zcod 126 42 = some (.iload_n 3, 1, 0, 0, 0, 0) := by decide +kernel
theorem c126_43 : zcod 126 43 = some (.bipush 100, 2, 0, 0, 0, 0) := by decide +kernel
theorem c126_45 : zcod 126 45 = some (.iadd, 1, 0, 0, 0, 0) := by decide +kernel
theorem c126_46 : zcod 126 46 = some (.goto 4, 3, 50, 0, 0, 0) := by decide +kernel
theorem c126_49 : zcod 126 49 = some (.iload_n 3, 1, 0, 0, 0, 0) := by decide +kernel
theorem c126_50 : zcod 126 50 = some (.ireturn, 1, 0, 0, 0, 0) := by decide +kernel
set_option maxRecDepth 100000 in
theorem b126_0 (l0 : Option Nat) (l1 : Int32) (l2 : Int32) (h : zH) : zev 126 0 [some (vR l0), some (vI l1), some (vI l2), none] [] h = (zcI 127 [vI l1, vI l2] h fun x2 h1 => (if x2 = 0 then some (some (vI (-1002)), h1) else (zgR h1 l0 9 3 fun x3 => (zaI h1 x3 ((20 * l2) + l1) fun x4 => (if x4 < 100 then some (some (vI x4), h1) else (zgR h1 l0 9 17 fun x5 => (zaB h1 x5 (x4 - 100) fun x6 => (if x6 = 0 then some (some (vI x4), h1) else some (some (vI (x4 + 100)), h1))))))))) := by
  refine (zv_in c126_0 rfl).trans ?_
  refine (zv_in c126_1 rfl).trans ?_
  refine (zv_stI c126_2 (by decide) rfl zL_127 (Or.inr zrt_127) rfl rfl).trans (zcI_c fun x2 h1 => ?_)
  refine (zv_ifne c126_5).trans (zif_c ?_ ?_)
  · refine (zv_si (v := -1002) c126_8 (by decide)).trans ?_
    exact zv_ir c126_11 zrt_126
  · refine (zv_an c126_12 rfl).trans ?_
    refine (zv_gR c126_13 zf9_3).trans (zgR_c fun x3 => ?_)
    refine (zv_bi (v := 20) c126_16 (by decide)).trans ?_
    refine (zv_in c126_18 rfl).trans ?_
    refine (zv_imul c126_19).trans ?_
    refine (zv_in c126_20 rfl).trans ?_
    refine (zv_iadd c126_21).trans ?_
    refine (zv_aI c126_22).trans (zaI_c fun x4 => ?_)
    refine (zv_it c126_23 rfl).trans ?_
    refine (zv_in c126_24 rfl).trans ?_
    refine (zv_bi (v := 100) c126_25 (by decide)).trans ?_
    refine (zv_iclt c126_27).trans (zif_c ?_ ?_)
    · refine (zv_in c126_49 rfl).trans ?_
      exact zv_ir c126_50 zrt_126
    · refine (zv_an c126_30 rfl).trans ?_
      refine (zv_gR c126_31 zf9_17).trans (zgR_c fun x5 => ?_)
      refine (zv_in c126_34 rfl).trans ?_
      refine (zv_bi (v := 100) c126_35 (by decide)).trans ?_
      refine (zv_isub c126_37).trans ?_
      refine (zv_aB c126_38).trans (zaB_c fun x6 => ?_)
      refine (zv_ifeq c126_39).trans (zif_c ?_ ?_)
      · refine (zv_in c126_49 rfl).trans ?_
        exact zv_ir c126_50 zrt_126
      · refine (zv_in c126_42 rfl).trans ?_
        refine (zv_bi (v := 100) c126_43 (by decide)).trans ?_
        refine (zv_iadd c126_45).trans ?_
        refine (zv_goto c126_46).trans ?_
        exact zv_ir c126_50 zrt_126
theorem e126 (l0 : Option Nat) (l1 : Int32) (l2 : Int32) (h : zH) : zcall 126 [vR l0, vI l1, vI l2] h = (zcI 127 [vI l1, vI l2] h fun x2 h1 => (if x2 = 0 then some (some (vI (-1002)), h1) else (zgR h1 l0 9 3 fun x3 => (zaI h1 x3 ((20 * l2) + l1) fun x4 => (if x4 < 100 then some (some (vI x4), h1) else (zgR h1 l0 9 17 fun x5 => (zaB h1 x5 (x4 - 100) fun x6 => (if x6 = 0 then some (some (vI x4), h1) else some (some (vI (x4 + 100)), h1))))))))) := by
  refine Eq.trans ?_ (b126_0 l0 l1 l2 h)
  unfold zcall zent
  rw [zL_126]
  rfl
theorem c127_0 : zcod 127 0 = some (.iload_n 0, 1, 0, 0, 0, 0) := by decide +kernel
theorem c127_1 : zcod 127 1 = some (.i2l, 1, 0, 0, 0, 0) := by decide +kernel
theorem c127_2 : zcod 127 2 = some (.lconst 0, 1, 0, 0, 0, 0) := by decide +kernel
theorem c127_3 : zcod 127 3 = some (.ldc2_w 155, 3, 0, 0, 984, 19) := by decide +kernel
theorem c127_6 : zcod 127 6 = some (.invokestatic 92, 3, 113, 3, 925, 0) := by decide +kernel
theorem c127_9 : zcod 127 9 = some (.ifCond .eq 19, 3, 28, 0, 0, 0) := by decide +kernel
theorem c127_12 : zcod 127 12 = some (.iload_n 1, 1, 0, 0, 0, 0) := by decide +kernel
theorem c127_13 : zcod 127 13 = some (.i2l, 1, 0, 0, 0, 0) := by decide +kernel
theorem c127_14 : zcod 127 14 = some (.lconst 0, 1, 0, 0, 0, 0) := by decide +kernel
theorem c127_15 : zcod 127 15 = some (.ldc2_w 157, 3, 0, 0, 985, 15) := by decide +kernel
theorem c127_18 : zcod 127 18 = some (.invokestatic 92, 3, 113, 3, 925, 0) := by decide +kernel
theorem c127_21 : zcod 127 21 = some (.ifCond .eq 7, 3, 28, 0, 0, 0) := by decide +kernel
theorem c127_24 : zcod 127 24 = some (.iconst 1, 1, 0, 0, 0, 0) := by decide +kernel
theorem c127_25 : zcod 127 25 = some (.goto 4, 3, 29, 0, 0, 0) := by decide +kernel
theorem c127_28 : zcod 127 28 = some (.iconst 0, 1, 0, 0, 0, 0) := by decide +kernel
theorem c127_29 : zcod 127 29 = some (.ireturn, 1, 0, 0, 0, 0) := by decide +kernel
set_option maxRecDepth 100000 in
theorem b127_0 (l0 : Int32) (l1 : Int32) (h : zH) : zev 127 0 [some (vI l0), some (vI l1)] [] h = (zcI 113 [vL (Int32.toInt64 l0), vL 0, vL 19] h fun x2 h1 => (if x2 = 0 then zbo 0 (some (some (vI 0), h1)) else (zcI 113 [vL (Int32.toInt64 l1), vL 0, vL 15] h1 fun x4 h3 => (if x4 = 0 then zbo 0 (some (some (vI 0), h3)) else zbo 1 (some (some (vI 1), h3)))))) := by
  refine (zv_in c127_0 rfl).trans ?_
  refine (zv_i2l c127_1).trans ?_
  refine (zv_lc (v := 0) c127_2 (by decide)).trans ?_
  refine (zv_ld2 (v := 19) c127_3 (by decide)).trans ?_
  refine (zv_stI c127_6 (by decide) rfl zL_113 (Or.inr zrt_113) rfl rfl).trans (zcI_c fun x2 h1 => ?_)
  refine (zv_ifeq c127_9).trans (zif_c ?_ ?_)
  · refine (zv_k (v := 0) c127_28 (by decide)).trans ?_
    exact zv_iz c127_29 zrt_127
  · refine (zv_in c127_12 rfl).trans ?_
    refine (zv_i2l c127_13).trans ?_
    refine (zv_lc (v := 0) c127_14 (by decide)).trans ?_
    refine (zv_ld2 (v := 15) c127_15 (by decide)).trans ?_
    refine (zv_stI c127_18 (by decide) rfl zL_113 (Or.inr zrt_113) rfl rfl).trans (zcI_c fun x4 h3 => ?_)
    refine (zv_ifeq c127_21).trans (zif_c ?_ ?_)
    · refine (zv_k (v := 0) c127_28 (by decide)).trans ?_
      exact zv_iz c127_29 zrt_127
    · refine (zv_k (v := 1) c127_24 (by decide)).trans ?_
      refine (zv_goto c127_25).trans ?_
      exact zv_iz c127_29 zrt_127
theorem e127 (l0 : Int32) (l1 : Int32) (h : zH) : zcall 127 [vI l0, vI l1] h = (zcI 113 [vL (Int32.toInt64 l0), vL 0, vL 19] h fun x2 h1 => (if x2 = 0 then zbo 0 (some (some (vI 0), h1)) else (zcI 113 [vL (Int32.toInt64 l1), vL 0, vL 15] h1 fun x4 h3 => (if x4 = 0 then zbo 0 (some (some (vI 0), h3)) else zbo 1 (some (some (vI 1), h3)))))) := by
  refine Eq.trans ?_ (b127_0 l0 l1 h)
  unfold zcall zent
  rw [zL_127]
  rfl
theorem c128_0 : zcod 128 0 = some (.aload_n 0, 1, 0, 0, 0, 0) := by decide +kernel
theorem c128_1 : zcod 128 1 = some (.iload_n 1, 1, 0, 0, 0, 0) := by decide +kernel
theorem c128_2 : zcod 128 2 = some (.invokevirtual 182, 3, 129, 1, 990, 0) := by decide +kernel
theorem c128_5 : zcod 128 5 = some (.ifCond .ne 7, 3, 12, 0, 0, 0) := by decide +kernel
theorem c128_8 : zcod 128 8 = some (.sipush (-1001), 3, 0, 0, 0, 0) := by decide +kernel
theorem c128_11 : zcod 128 11 = some (.ireturn, 1, 0, 0, 0, 0) := by decide +kernel
theorem c128_12 : zcod 128 12 = some (.iload_n 2, 1, 0, 0, 0, 0) := by decide +kernel
theorem c128_13 : zcod 128 13 = some (.tableswitch 142 0 9 #[55, 62, 69, 84, 90, 96, 102, 122, 129, 135], 55, 0, 0, 0, 0) := by decide +kernel
theorem c128_68 : zcod 128 68 = some (.aload_n 0, 1, 0, 0, 0, 0) := by decide +kernel
theorem c128_69 : zcod 128 69 = some (.getfield 23, 3, 9, 6, 802, 0) := by decide +kernel
theorem c128_72 : zcod 128 72 = some (.iload_n 1, 1, 0, 0, 0, 0) := by decide +kernel
theorem c128_73 : zcod 128 73 = some (.iaload, 1, 0, 0, 0, 0) := by decide +kernel
theorem c128_74 : zcod 128 74 = some (.ireturn, 1, 0, 0, 0, 0) := by decide +kernel
theorem c128_75 : zcod 128 75 = some (.aload_n 0, 1, 0, 0, 0, 0) := by decide +kernel
theorem c128_76 : zcod 128 76 = some (.getfield 26, 3, 9, 7, 803, 0) := by decide +kernel
theorem c128_79 : zcod 128 79 = some (.iload_n 1, 1, 0, 0, 0, 0) := by decide +kernel
theorem c128_80 : zcod 128 80 = some (.iaload, 1, 0, 0, 0, 0) := by decide +kernel
theorem c128_81 : zcod 128 81 = some (.ireturn, 1, 0, 0, 0, 0) := by decide +kernel
theorem c128_82 : zcod 128 82 = some (.aload_n 0, 1, 0, 0, 0, 0) := by decide +kernel
theorem c128_83 : zcod 128 83 = some (.getfield 29, 3, 9, 8, 804, 0) := by decide +kernel
theorem c128_86 : zcod 128 86 = some (.iload_n 1, 1, 0, 0, 0, 0) := by decide +kernel
theorem c128_87 : zcod 128 87 = some (.baload, 1, 0, 0, 0, 0) := by decide +kernel
theorem c128_88 : zcod 128 88 = some (.ifCond .eq 7, 3, 95, 0, 0, 0) := by decide +kernel
theorem c128_91 : zcod 128 91 = some (.iconst 1, 1, 0, 0, 0, 0) := by decide +kernel
theorem c128_92 : zcod 128 92 = some (.goto 4, 3, 96, 0, 0, 0) := by decide +kernel
theorem c128_95 : zcod 128 95 = some (.iconst 0, 1, 0, 0, 0, 0) := by decide +kernel
theorem c128_96 : zcod 128 96 = some (.ireturn, 1, 0, 0, 0, 0) := by decide +kernel
theorem c128_97 : zcod 128 97 = some (.aload_n 0, 1, 0, 0, 0, 0) := by decide +kernel
theorem c128_98 : zcod 128 98 = some (.iload_n 1, 1, 0, 0, 0, 0) := by decide +kernel
theorem c128_99 : zcod 128 99 = some (.invokevirtual 185, 3, 130, 1, 994, 0) := by decide +kernel
theorem c128_102 : zcod 128 102 = some (.ireturn, 1, 0, 0, 0, 0) := by decide +kernel
theorem c128_103 : zcod 128 103 = some (.aload_n 0, 1, 0, 0, 0, 0) := by decide +kernel
theorem c128_104 : zcod 128 104 = some (.iload_n 1, 1, 0, 0, 0, 0) := by decide +kernel
theorem c128_105 : zcod 128 105 = some (.invokevirtual 179, 3, 134, 1, 1009, 0) := by decide +kernel
theorem c128_108 : zcod 128 108 = some (.ireturn, 1, 0, 0, 0, 0) := by decide +kernel
theorem c128_109 : zcod 128 109 = some (.aload_n 0, 1, 0, 0, 0, 0) := by decide +kernel
theorem c128_110 : zcod 128 110 = some (.iload_n 1, 1, 0, 0, 0, 0) := by decide +kernel
theorem c128_111 : zcod 128 111 = some (.invokevirtual 188, 3, 135, 1, 1013, 0) := by decide +kernel
theorem c128_114 : zcod 128 114 = some (.ireturn, 1, 0, 0, 0, 0) := by decide +kernel
theorem c128_115 : zcod 128 115 = some (.aload_n 0, 1, 0, 0, 0, 0) := by decide +kernel
theorem c128_116 : zcod 128 116 = some (.getfield 39, 3, 9, 11, 807, 0) := by decide +kernel
theorem c128_119 : zcod 128 119 = some (.iload_n 1, 1, 0, 0, 0, 0) := by decide +kernel
theorem c128_120 : zcod 128 120 = some (.iaload, 1, 0, 0, 0, 0) := by decide +kernel
theorem c128_121 : zcod 128 121 = some (.ifCond .le 12, 3, 133, 0, 0, 0) := by decide +kernel
theorem c128_124 : zcod 128 124 = some (.aload_n 0, 1, 0, 0, 0, 0) := by decide +kernel
theorem c128_125 : zcod 128 125 = some (.getfield 42, 3, 9, 12, 808, 0) := by decide +kernel
theorem c128_128 : zcod 128 128 = some (.iload_n 1, 1, 0, 0, 0, 0) := by decide +kernel
theorem c128_129 : zcod 128 129 = some (.iaload, 1, 0, 0, 0, 0) := by decide +kernel
theorem c128_130 : zcod 128 130 = some (.goto 4, 3, 134, 0, 0, 0) := by decide +kernel
theorem c128_133 : zcod 128 133 = some (.iconst (-1), 1, 0, 0, 0, 0) := by decide +kernel
theorem c128_134 : zcod 128 134 = some (.ireturn, 1, 0, 0, 0, 0) := by decide +kernel
theorem c128_135 : zcod 128 135 = some (.aload_n 0, 1, 0, 0, 0, 0) := by decide +kernel
theorem c128_136 : zcod 128 136 = some (.getfield 45, 3, 9, 13, 809, 0) := by decide +kernel
theorem c128_139 : zcod 128 139 = some (.iload_n 1, 1, 0, 0, 0, 0) := by decide +kernel
theorem c128_140 : zcod 128 140 = some (.iaload, 1, 0, 0, 0, 0) := by decide +kernel
theorem c128_141 : zcod 128 141 = some (.ireturn, 1, 0, 0, 0, 0) := by decide +kernel
theorem c128_142 : zcod 128 142 = some (.aload_n 0, 1, 0, 0, 0, 0) := by decide +kernel
theorem c128_143 : zcod 128 143 = some (.iload_n 1, 1, 0, 0, 0, 0) := by decide +kernel
theorem c128_144 : zcod 128 144 = some (.invokevirtual 166, 3, 131, 1, 998, 0) := by decide +kernel
theorem c128_147 : zcod 128 147 = some (.ireturn, 1, 0, 0, 0, 0) := by decide +kernel
theorem c128_148 : zcod 128 148 = some (.aload_n 0, 1, 0, 0, 0, 0) := by decide +kernel
theorem c128_149 : zcod 128 149 = some (.getfield 48, 3, 9, 14, 810, 0) := by decide +kernel
theorem c128_152 : zcod 128 152 = some (.iload_n 1, 1, 0, 0, 0, 0) := by decide +kernel
theorem c128_153 : zcod 128 153 = some (.iaload, 1, 0, 0, 0, 0) := by decide +kernel
theorem c128_154 : zcod 128 154 = some (.ireturn, 1, 0, 0, 0, 0) := by decide +kernel
theorem c128_155 : zcod 128 155 = some (.sipush (-1002), 3, 0, 0, 0, 0) := by decide +kernel
theorem c128_158 : zcod 128 158 = some (.ireturn, 1, 0, 0, 0, 0) := by decide +kernel
set_option maxRecDepth 100000 in
theorem b128_0 (l0 : Option Nat) (l1 : Int32) (l2 : Int32) (h : zH) : zev 128 0 [some (vR l0), some (vI l1), some (vI l2)] [] h = (zvr h l0 9 (zcI 129 [vR l0, vI l1] h fun x2 h1 => (if x2 = 0 then some (some (vI (-1001)), h1) else (if l2 = 0 then (zgR h1 l0 9 6 fun x3 => (zaI h1 x3 l1 fun x4 => some (some (vI x4), h1))) else (if l2 = 1 then (zgR h1 l0 9 7 fun x5 => (zaI h1 x5 l1 fun x6 => some (some (vI x6), h1))) else (if l2 = 2 then (zgR h1 l0 9 8 fun x7 => (zaB h1 x7 l1 fun x8 => (if x8 = 0 then some (some (vI 0), h1) else some (some (vI 1), h1)))) else (if l2 = 3 then (zvr h1 l0 9 (zcI 130 [vR l0, vI l1] h1 fun x10 h9 => some (some (vI x10), h9))) else (if l2 = 4 then (zvr h1 l0 9 (zcI 134 [vR l0, vI l1] h1 fun x12 h11 => some (some (vI x12), h11))) else (if l2 = 5 then (zvr h1 l0 9 (zcI 135 [vR l0, vI l1] h1 fun x14 h13 => some (some (vI x14), h13))) else (if l2 = 6 then zev 128 115 [some (vR l0), some (vI l1), some (vI l2)] [] h1 else (if l2 = 7 then (zgR h1 l0 9 13 fun x15 => (zaI h1 x15 l1 fun x16 => some (some (vI x16), h1))) else (if l2 = 8 then (zvr h1 l0 9 (zcI 131 [vR l0, vI l1] h1 fun x18 h17 => some (some (vI x18), h17))) else (if l2 = 9 then (zgR h1 l0 9 14 fun x19 => (zaI h1 x19 l1 fun x20 => some (some (vI x20), h1))) else some (some (vI (-1002)), h1)))))))))))))) := by
  refine (zv_an c128_0 rfl).trans ?_
  refine (zv_in c128_1 rfl).trans ?_
  refine (zv_viI c128_2 zcn_129 rfl zL_129 (Or.inr zrt_129) rfl rfl).trans (zvr_c (zcI_c fun x2 h1 => ?_))
  refine (zv_ifne c128_5).trans (zif_c ?_ ?_)
  · refine (zv_si (v := -1001) c128_8 (by decide)).trans ?_
    exact zv_ir c128_11 zrt_128
  · refine (zv_in c128_12 rfl).trans ?_
    refine (zv_ts c128_13 (dt := 155) (T := [68, 75, 82, 97, 103, 109, 115, 135, 142, 148]) (by decide) (by decide) (by decide) (by decide)).trans ?_
    refine (zsl_k (v := 0) (by decide)).trans (zif_c ?_ ?_)
    · refine (zv_an c128_68 rfl).trans ?_
      refine (zv_gR c128_69 zf9_6).trans (zgR_c fun x3 => ?_)
      refine (zv_in c128_72 rfl).trans ?_
      refine (zv_aI c128_73).trans (zaI_c fun x4 => ?_)
      exact zv_ir c128_74 zrt_128
    · refine (zsl_k (v := 1) (by decide)).trans (zif_c ?_ ?_)
      · refine (zv_an c128_75 rfl).trans ?_
        refine (zv_gR c128_76 zf9_7).trans (zgR_c fun x5 => ?_)
        refine (zv_in c128_79 rfl).trans ?_
        refine (zv_aI c128_80).trans (zaI_c fun x6 => ?_)
        exact zv_ir c128_81 zrt_128
      · refine (zsl_k (v := 2) (by decide)).trans (zif_c ?_ ?_)
        · refine (zv_an c128_82 rfl).trans ?_
          refine (zv_gR c128_83 zf9_8).trans (zgR_c fun x7 => ?_)
          refine (zv_in c128_86 rfl).trans ?_
          refine (zv_aB c128_87).trans (zaB_c fun x8 => ?_)
          refine (zv_ifeq c128_88).trans (zif_c ?_ ?_)
          · refine (zv_k (v := 0) c128_95 (by decide)).trans ?_
            exact zv_ir c128_96 zrt_128
          · refine (zv_k (v := 1) c128_91 (by decide)).trans ?_
            refine (zv_goto c128_92).trans ?_
            exact zv_ir c128_96 zrt_128
        · refine (zsl_k (v := 3) (by decide)).trans (zif_c ?_ ?_)
          · refine (zv_an c128_97 rfl).trans ?_
            refine (zv_in c128_98 rfl).trans ?_
            refine (zv_viI c128_99 zcn_130 rfl zL_130 (Or.inl zrt_130) rfl rfl).trans (zvr_c (zcI_c fun x10 h9 => ?_))
            exact zv_ir c128_102 zrt_128
          · refine (zsl_k (v := 4) (by decide)).trans (zif_c ?_ ?_)
            · refine (zv_an c128_103 rfl).trans ?_
              refine (zv_in c128_104 rfl).trans ?_
              refine (zv_viI c128_105 zcn_134 rfl zL_134 (Or.inl zrt_134) rfl rfl).trans (zvr_c (zcI_c fun x12 h11 => ?_))
              exact zv_ir c128_108 zrt_128
            · refine (zsl_k (v := 5) (by decide)).trans (zif_c ?_ ?_)
              · refine (zv_an c128_109 rfl).trans ?_
                refine (zv_in c128_110 rfl).trans ?_
                refine (zv_viI c128_111 zcn_135 rfl zL_135 (Or.inl zrt_135) rfl rfl).trans (zvr_c (zcI_c fun x14 h13 => ?_))
                exact zv_ir c128_114 zrt_128
              · refine (zsl_k (v := 6) (by decide)).trans (zif_c ?_ ?_)
                · rfl
                · refine (zsl_k (v := 7) (by decide)).trans (zif_c ?_ ?_)
                  · refine (zv_an c128_135 rfl).trans ?_
                    refine (zv_gR c128_136 zf9_13).trans (zgR_c fun x15 => ?_)
                    refine (zv_in c128_139 rfl).trans ?_
                    refine (zv_aI c128_140).trans (zaI_c fun x16 => ?_)
                    exact zv_ir c128_141 zrt_128
                  · refine (zsl_k (v := 8) (by decide)).trans (zif_c ?_ ?_)
                    · refine (zv_an c128_142 rfl).trans ?_
                      refine (zv_in c128_143 rfl).trans ?_
                      refine (zv_viI c128_144 zcn_131 rfl zL_131 (Or.inl zrt_131) rfl rfl).trans (zvr_c (zcI_c fun x18 h17 => ?_))
                      exact zv_ir c128_147 zrt_128
                    · refine (zsl_k (v := 9) (by decide)).trans (zif_c ?_ ?_)
                      · refine (zv_an c128_148 rfl).trans ?_
                        refine (zv_gR c128_149 zf9_14).trans (zgR_c fun x19 => ?_)
                        refine (zv_in c128_152 rfl).trans ?_
                        refine (zv_aI c128_153).trans (zaI_c fun x20 => ?_)
                        exact zv_ir c128_154 zrt_128
                      · refine zsl_n.trans ?_
                        refine (zv_si (v := -1002) c128_155 (by decide)).trans ?_
                        exact zv_ir c128_158 zrt_128
theorem e128 (l0 : Option Nat) (l1 : Int32) (l2 : Int32) (h : zH) : zcall 128 [vR l0, vI l1, vI l2] h = (zvr h l0 9 (zcI 129 [vR l0, vI l1] h fun x2 h1 => (if x2 = 0 then some (some (vI (-1001)), h1) else (if l2 = 0 then (zgR h1 l0 9 6 fun x3 => (zaI h1 x3 l1 fun x4 => some (some (vI x4), h1))) else (if l2 = 1 then (zgR h1 l0 9 7 fun x5 => (zaI h1 x5 l1 fun x6 => some (some (vI x6), h1))) else (if l2 = 2 then (zgR h1 l0 9 8 fun x7 => (zaB h1 x7 l1 fun x8 => (if x8 = 0 then some (some (vI 0), h1) else some (some (vI 1), h1)))) else (if l2 = 3 then (zvr h1 l0 9 (zcI 130 [vR l0, vI l1] h1 fun x10 h9 => some (some (vI x10), h9))) else (if l2 = 4 then (zvr h1 l0 9 (zcI 134 [vR l0, vI l1] h1 fun x12 h11 => some (some (vI x12), h11))) else (if l2 = 5 then (zvr h1 l0 9 (zcI 135 [vR l0, vI l1] h1 fun x14 h13 => some (some (vI x14), h13))) else (if l2 = 6 then zev 128 115 [some (vR l0), some (vI l1), some (vI l2)] [] h1 else (if l2 = 7 then (zgR h1 l0 9 13 fun x15 => (zaI h1 x15 l1 fun x16 => some (some (vI x16), h1))) else (if l2 = 8 then (zvr h1 l0 9 (zcI 131 [vR l0, vI l1] h1 fun x18 h17 => some (some (vI x18), h17))) else (if l2 = 9 then (zgR h1 l0 9 14 fun x19 => (zaI h1 x19 l1 fun x20 => some (some (vI x20), h1))) else some (some (vI (-1002)), h1)))))))))))))) := by
  refine Eq.trans ?_ (b128_0 l0 l1 l2 h)
  unfold zcall zent
  rw [zL_128]
  rfl
set_option maxRecDepth 100000 in
theorem b128_115 (l0 : Option Nat) (l1 : Int32) (l2 : Int32) (h : zH) : zev 128 115 [some (vR l0), some (vI l1), some (vI l2)] [] h = (zgR h l0 9 11 fun x1 => (zaI h x1 l1 fun x2 => (if 0 < x2 then (zgR h l0 9 12 fun x3 => (zaI h x3 l1 fun x4 => some (some (vI x4), h))) else some (some (vI (-1)), h)))) := by
  refine (zv_an c128_115 rfl).trans ?_
  refine (zv_gR c128_116 zf9_11).trans (zgR_c fun x1 => ?_)
  refine (zv_in c128_119 rfl).trans ?_
  refine (zv_aI c128_120).trans (zaI_c fun x2 => ?_)
  refine (zv_ifle c128_121).trans (zif_c ?_ ?_)
  · refine (zv_an c128_124 rfl).trans ?_
    refine (zv_gR c128_125 zf9_12).trans (zgR_c fun x3 => ?_)
    refine (zv_in c128_128 rfl).trans ?_
    refine (zv_aI c128_129).trans (zaI_c fun x4 => ?_)
    refine (zv_goto c128_130).trans ?_
    exact zv_ir c128_134 zrt_128
  · refine (zv_k (v := -1) c128_133 (by decide)).trans ?_
    exact zv_ir c128_134 zrt_128
theorem c129_0 : zcod 129 0 = some (.iload_n 1, 1, 0, 0, 0, 0) := by decide +kernel
theorem c129_1 : zcod 129 1 = some (.i2l, 1, 0, 0, 0, 0) := by decide +kernel
theorem c129_2 : zcod 129 2 = some (.lconst 0, 1, 0, 0, 0, 0) := by decide +kernel
theorem c129_3 : zcod 129 3 = some (.aload_n 0, 1, 0, 0, 0, 0) := by decide +kernel
theorem c129_4 : zcod 129 4 = some (.getfield 142, 3, 9, 5, 801, 0) := by decide +kernel
theorem c129_7 : zcod 129 7 = some (.iconst 1, 1, 0, 0, 0, 0) := by decide +kernel
theorem c129_8 : zcod 129 8 = some (.isub, 1, 0, 0, 0, 0) := by decide +kernel
theorem c129_9 : zcod 129 9 = some (.i2l, 1, 0, 0, 0, 0) := by decide +kernel
theorem c129_10 : zcod 129 10 = some (.invokestatic 92, 3, 113, 3, 925, 0) := by decide +kernel
theorem c129_13 : zcod 129 13 = some (.ireturn, 1, 0, 0, 0, 0) := by decide +kernel
set_option maxRecDepth 100000 in
theorem b129_0 (l0 : Option Nat) (l1 : Int32) (h : zH) : zev 129 0 [some (vR l0), some (vI l1)] [] h = (zgI h l0 9 5 fun x1 => (zcI 113 [vL (Int32.toInt64 l1), vL 0, vL (Int32.toInt64 (x1 - 1))] h fun x3 h2 => zbo x3 (some (some (vI x3), h2)))) := by
  refine (zv_in c129_0 rfl).trans ?_
  refine (zv_i2l c129_1).trans ?_
  refine (zv_lc (v := 0) c129_2 (by decide)).trans ?_
  refine (zv_an c129_3 rfl).trans ?_
  refine (zv_gI c129_4 zg9_5).trans (zgI_c fun x1 => ?_)
  refine (zv_k (v := 1) c129_7 (by decide)).trans ?_
  refine (zv_isub c129_8).trans ?_
  refine (zv_i2l c129_9).trans ?_
  refine (zv_stI c129_10 (by decide) rfl zL_113 (Or.inr zrt_113) rfl rfl).trans (zcI_c fun x3 h2 => ?_)
  exact zv_iz c129_13 zrt_129
theorem e129 (l0 : Option Nat) (l1 : Int32) (h : zH) : zcall 129 [vR l0, vI l1] h = (zgI h l0 9 5 fun x1 => (zcI 113 [vL (Int32.toInt64 l1), vL 0, vL (Int32.toInt64 (x1 - 1))] h fun x3 h2 => zbo x3 (some (some (vI x3), h2)))) := by
  refine Eq.trans ?_ (b129_0 l0 l1 h)
  unfold zcall zent
  rw [zL_129]
  rfl
theorem c130_0 : zcod 130 0 = some (.aload_n 0, 1, 0, 0, 0, 0) := by decide +kernel
theorem c130_1 : zcod 130 1 = some (.iload_n 1, 1, 0, 0, 0, 0) := by decide +kernel
theorem c130_2 : zcod 130 2 = some (.invokevirtual 166, 3, 131, 1, 998, 0) := by decide +kernel
theorem c130_5 : zcod 130 5 = some (.istore_n 2, 1, 0, 0, 0, 0) := by decide +kernel
theorem c130_6 : zcod 130 6 = some (.iload_n 2, 1, 0, 0, 0, 0) := by decide +kernel
theorem c130_7 : zcod 130 7 = some (.bipush 20, 2, 0, 0, 0, 0) := by decide +kernel
theorem c130_9 : zcod 130 9 = some (.irem, 1, 0, 0, 0, 0) := by decide +kernel
theorem c130_10 : zcod 130 10 = some (.aload_n 0, 1, 0, 0, 0, 0) := by decide +kernel
theorem c130_11 : zcod 130 11 = some (.getfield 170, 3, 9, 25, 821, 0) := by decide +kernel
theorem c130_14 : zcod 130 14 = some (.bipush 20, 2, 0, 0, 0, 0) := by decide +kernel
theorem c130_16 : zcod 130 16 = some (.irem, 1, 0, 0, 0, 0) := by decide +kernel
theorem c130_17 : zcod 130 17 = some (.isub, 1, 0, 0, 0, 0) := by decide +kernel
theorem c130_18 : zcod 130 18 = some (.invokestatic 173, 3, 132, 1, 1002, 0) := by decide +kernel
theorem c130_21 : zcod 130 21 = some (.iload_n 2, 1, 0, 0, 0, 0) := by decide +kernel
theorem c130_22 : zcod 130 22 = some (.bipush 20, 2, 0, 0, 0, 0) := by decide +kernel
theorem c130_24 : zcod 130 24 = some (.idiv, 1, 0, 0, 0, 0) := by decide +kernel
theorem c130_25 : zcod 130 25 = some (.aload_n 0, 1, 0, 0, 0, 0) := by decide +kernel
theorem c130_26 : zcod 130 26 = some (.getfield 170, 3, 9, 25, 821, 0) := by decide +kernel
theorem c130_29 : zcod 130 29 = some (.bipush 20, 2, 0, 0, 0, 0) := by decide +kernel
theorem c130_31 : zcod 130 31 = some (.idiv, 1, 0, 0, 0, 0) := by decide +kernel
theorem c130_32 : zcod 130 32 = some (.isub, 1, 0, 0, 0, 0) := by decide +kernel
theorem c130_33 : zcod 130 33 = some (.invokestatic 173, 3, 132, 1, 1002, 0) := by decide +kernel
theorem c130_36 : zcod 130 36 = some (.iadd, 1, 0, 0, 0, 0) := by decide +kernel
theorem c130_37 : zcod 130 37 = some (.istore_n 3, 1, 0, 0, 0, 0) := by decide +kernel
theorem c130_38 : zcod 130 38 = some (.bipush 10, 2, 0, 0, 0, 0) := by decide +kernel
theorem c130_40 : zcod 130 40 = some (.aload_n 0, 1, 0, 0, 0, 0) := by decide +kernel
theorem c130_41 : zcod 130 41 = some (.getfield 23, 3, 9, 6, 802, 0) := by decide +kernel
theorem c130_44 : zcod 130 44 = some (.iload_n 1, 1, 0, 0, 0, 0) := by decide +kernel
theorem c130_45 : zcod 130 45 = some (.iaload, 1, 0, 0, 0, 0) := by decide +kernel
theorem c130_46 : zcod 130 46 = some (.imul, 1, 0, 0, 0, 0) := by decide +kernel
theorem c130_47 : zcod 130 47 = some (.sipush 200, 3, 0, 0, 0, 0) := by decide +kernel
theorem c130_50 : zcod 130 50 = some (.iconst 1, 1, 0, 0, 0, 0) := by decide +kernel
theorem c130_51 : zcod 130 51 = some (.iload_n 3, 1, 0, 0, 0, 0) := by decide +kernel
theorem c130_52 : zcod 130 52 = some (.iadd, 1, 0, 0, 0, 0) := by decide +kernel
theorem c130_53 : zcod 130 53 = some (.idiv, 1, 0, 0, 0, 0) := by decide +kernel
theorem c130_54 : zcod 130 54 = some (.iadd, 1, 0, 0, 0, 0) := by decide +kernel
theorem c130_55 : zcod 130 55 = some (.istore 4, 2, 0, 0, 0, 0) := by decide +kernel
theorem c130_57 : zcod 130 57 = some (.iconst 0, 1, 0, 0, 0, 0) := by decide +kernel
theorem c130_58 : zcod 130 58 = some (.istore 5, 2, 0, 0, 0, 0) := by decide +kernel
theorem c130_60 : zcod 130 60 = some (.lconst 0, 1, 0, 0, 0, 0) := by decide +kernel
theorem c130_61 : zcod 130 61 = some (.lstore 6, 2, 0, 0, 0, 0) := by decide +kernel
theorem c130_63 : zcod 130 63 = some (.iconst 0, 1, 0, 0, 0, 0) := by decide +kernel
theorem c130_64 : zcod 130 64 = some (.istore 8, 2, 0, 0, 0, 0) := by decide +kernel
theorem c130_66 : zcod 130 66 = some (.iload 8, 2, 0, 0, 0, 0) := by decide +kernel
theorem c130_68 : zcod 130 68 = some (.sipush 320, 3, 0, 0, 0, 0) := by decide +kernel
theorem c130_71 : zcod 130 71 = some (.if_icmp .ge 108, 3, 179, 0, 0, 0) := by decide +kernel
theorem c130_74 : zcod 130 74 = some (.iconst 0, 1, 0, 0, 0, 0) := by decide +kernel
theorem c130_75 : zcod 130 75 = some (.istore 9, 2, 0, 0, 0, 0) := by decide +kernel
theorem c130_77 : zcod 130 77 = some (.iload 9, 2, 0, 0, 0, 0) := by decide +kernel
theorem c130_79 : zcod 130 79 = some (.iconst 4, 1, 0, 0, 0, 0) := by decide +kernel
theorem c130_80 : zcod 130 80 = some (.if_icmp .ge 93, 3, 173, 0, 0, 0) := by decide +kernel
theorem c130_83 : zcod 130 83 = some (.aload_n 0, 1, 0, 0, 0, 0) := by decide +kernel
theorem c130_84 : zcod 130 84 = some (.getfield 17, 3, 9, 3, 799, 0) := by decide +kernel
theorem c130_87 : zcod 130 87 = some (.iload 8, 2, 0, 0, 0, 0) := by decide +kernel
theorem c130_89 : zcod 130 89 = some (.iaload, 1, 0, 0, 0, 0) := by decide +kernel
theorem c130_90 : zcod 130 90 = some (.iload_n 1, 1, 0, 0, 0, 0) := by decide +kernel
theorem c130_91 : zcod 130 91 = some (.if_icmp .ne 82, 3, 173, 0, 0, 0) := by decide +kernel
theorem c130_94 : zcod 130 94 = some (.aload_n 0, 1, 0, 0, 0, 0) := by decide +kernel
theorem c130_95 : zcod 130 95 = some (.iload 8, 2, 0, 0, 0, 0) := by decide +kernel
theorem c130_97 : zcod 130 97 = some (.iload 9, 2, 0, 0, 0, 0) := by decide +kernel
theorem c130_99 : zcod 130 99 = some (.invokevirtual 176, 3, 133, 2, 1005, 0) := by decide +kernel
theorem c130_102 : zcod 130 102 = some (.istore 10, 2, 0, 0, 0, 0) := by decide +kernel
theorem c130_104 : zcod 130 104 = some (.lload 6, 2, 0, 0, 0, 0) := by decide +kernel
theorem c130_106 : zcod 130 106 = some (.iload 10, 2, 0, 0, 0, 0) := by decide +kernel
theorem c130_108 : zcod 130 108 = some (.ifCond .lt 23, 3, 131, 0, 0, 0) := by decide +kernel
theorem c130_111 : zcod 130 111 = some (.iload 10, 2, 0, 0, 0, 0) := by decide +kernel
theorem c130_113 : zcod 130 113 = some (.bipush 100, 2, 0, 0, 0, 0) := by decide +kernel
theorem c130_115 : zcod 130 115 = some (.if_icmp .ge 16, 3, 131, 0, 0, 0) := by decide +kernel
theorem c130_118 : zcod 130 118 = some (.iload 10, 2, 0, 0, 0, 0) := by decide +kernel
theorem c130_120 : zcod 130 120 = some (.iload_n 1, 1, 0, 0, 0, 0) := by decide +kernel
theorem c130_121 : zcod 130 121 = some (.if_icmp .eq 10, 3, 131, 0, 0, 0) := by decide +kernel
theorem c130_124 : zcod 130 124 = some (.lconst 1, 1, 0, 0, 0, 0) := by decide +kernel
theorem c130_125 : zcod 130 125 = some (.iload 10, 2, 0, 0, 0, 0) := by decide +kernel
theorem c130_127 : zcod 130 127 = some (.lshl, 1, 0, 0, 0, 0) := by decide +kernel
theorem c130_128 : zcod 130 128 = some (.goto 4, 3, 132, 0, 0, 0) := by decide +kernel
theorem c130_131 : zcod 130 131 = some (.lconst 0, 1, 0, 0, 0, 0) := by decide +kernel
theorem c130_132 : zcod 130 132 = some (.lor, 1, 0, 0, 0, 0) := by decide +kernel
theorem c130_133 : zcod 130 133 = some (.lstore 6, 2, 0, 0, 0, 0) := by decide +kernel
theorem c130_135 : zcod 130 135 = some (.iload 5, 2, 0, 0, 0, 0) := by decide +kernel
theorem c130_137 : zcod 130 137 = some (.ifCond .ne 23, 3, 160, 0, 0, 0) := by decide +kernel
theorem c130_140 : zcod 130 140 = some (.iload 10, 2, 0, 0, 0, 0) := by decide +kernel
theorem c130_142 : zcod 130 142 = some (.bipush 100, 2, 0, 0, 0, 0) := by decide +kernel
theorem c130_144 : zcod 130 144 = some (.if_icmp .lt 20, 3, 164, 0, 0, 0) := by decide +kernel
theorem c130_147 : zcod 130 147 = some (.aload_n 0, 1, 0, 0, 0, 0) := by decide +kernel
theorem c130_148 : zcod 130 148 = some (.getfield 54, 3, 9, 17, 813, 0) := by decide +kernel
theorem c130_151 : zcod 130 151 = some (.iload 10, 2, 0, 0, 0, 0) := by decide +kernel
theorem c130_153 : zcod 130 153 = some (.bipush 100, 2, 0, 0, 0, 0) := by decide +kernel
theorem c130_155 : zcod 130 155 = some (.isub, 1, 0, 0, 0, 0) := by decide +kernel
theorem c130_156 : zcod 130 156 = some (.baload, 1, 0, 0, 0, 0) := by decide +kernel
theorem c130_157 : zcod 130 157 = some (.ifCond .ne 7, 3, 164, 0, 0, 0) := by decide +kernel
theorem c130_160 : zcod 130 160 = some (.iconst 1, 1, 0, 0, 0, 0) := by decide +kernel
theorem c130_161 : zcod 130 161 = some (.goto 4, 3, 165, 0, 0, 0) := by decide +kernel
theorem c130_164 : zcod 130 164 = some (.iconst 0, 1, 0, 0, 0, 0) := by decide +kernel
theorem c130_165 : zcod 130 165 = some (.istore 5, 2, 0, 0, 0, 0) := by decide +kernel
theorem c130_167 : zcod 130 167 = some (.iinc 9 1, 3, 0, 0, 0, 0) := by decide +kernel
theorem c130_170 : zcod 130 170 = some (.goto (-93), 3, 77, 0, 0, 0) := by decide +kernel
theorem c130_173 : zcod 130 173 = some (.iinc 8 1, 3, 0, 0, 0, 0) := by decide +kernel
theorem c130_176 : zcod 130 176 = some (.goto (-110), 3, 66, 0, 0, 0) := by decide +kernel
theorem c130_179 : zcod 130 179 = some (.iconst 0, 1, 0, 0, 0, 0) := by decide +kernel
theorem c130_180 : zcod 130 180 = some (.istore 8, 2, 0, 0, 0, 0) := by decide +kernel
theorem c130_182 : zcod 130 182 = some (.iload 8, 2, 0, 0, 0, 0) := by decide +kernel
theorem c130_184 : zcod 130 184 = some (.aload_n 0, 1, 0, 0, 0, 0) := by decide +kernel
theorem c130_185 : zcod 130 185 = some (.getfield 142, 3, 9, 5, 801, 0) := by decide +kernel
theorem c130_188 : zcod 130 188 = some (.if_icmp .ge 41, 3, 229, 0, 0, 0) := by decide +kernel
theorem c130_191 : zcod 130 191 = some (.iload 4, 2, 0, 0, 0, 0) := by decide +kernel
theorem c130_193 : zcod 130 193 = some (.lload 6, 2, 0, 0, 0, 0) := by decide +kernel
theorem c130_195 : zcod 130 195 = some (.iload 8, 2, 0, 0, 0, 0) := by decide +kernel
theorem c130_197 : zcod 130 197 = some (.lshr, 1, 0, 0, 0, 0) := by decide +kernel
theorem c130_198 : zcod 130 198 = some (.lconst 1, 1, 0, 0, 0, 0) := by decide +kernel
theorem c130_199 : zcod 130 199 = some (.land, 1, 0, 0, 0, 0) := by decide +kernel
theorem c130_200 : zcod 130 200 = some (.lconst 1, 1, 0, 0, 0, 0) := by decide +kernel
theorem c130_201 : zcod 130 201 = some (.lcmp, 1, 0, 0, 0, 0) := by decide +kernel
theorem c130_202 : zcod 130 202 = some (.ifCond .ne 17, 3, 219, 0, 0, 0) := by decide +kernel
theorem c130_205 : zcod 130 205 = some (.aload_n 0, 1, 0, 0, 0, 0) := by decide +kernel
theorem c130_206 : zcod 130 206 = some (.iload 8, 2, 0, 0, 0, 0) := by decide +kernel
theorem c130_208 : zcod 130 208 = some (.invokevirtual 179, 3, 134, 1, 1009, 0) := by decide +kernel
theorem c130_211 : zcod 130 211 = some (.ifCond .lt 8, 3, 219, 0, 0, 0) := by decide +kernel
theorem c130_214 : zcod 130 214 = some (.bipush 15, 2, 0, 0, 0, 0) := by decide +kernel
theorem c130_216 : zcod 130 216 = some (.goto 4, 3, 220, 0, 0, 0) := by decide +kernel
theorem c130_219 : zcod 130 219 = some (.iconst 0, 1, 0, 0, 0, 0) := by decide +kernel
theorem c130_220 : zcod 130 220 = some (.iadd, 1, 0, 0, 0, 0) := by decide +kernel
theorem c130_221 : zcod 130 221 = some (.istore 4, 2, 0, 0, 0, 0) := by decide +kernel
theorem c130_223 : zcod 130 223 = some (.iinc 8 1, 3, 0, 0, 0, 0) := by decide +kernel
theorem c130_226 : zcod 130 226 = some (.goto (-44), 3, 182, 0, 0, 0) := by decide +kernel
theorem c130_229 : zcod 130 229 = some (.iload 4, 2, 0, 0, 0, 0) := by decide +kernel
theorem c130_231 : zcod 130 231 = some (.iload 5, 2, 0, 0, 0, 0) := by decide +kernel
theorem c130_233 : zcod 130 233 = some (.ifCond .eq 8, 3, 241, 0, 0, 0) := by decide +kernel
theorem c130_236 : zcod 130 236 = some (.bipush 30, 2, 0, 0, 0, 0) := by decide +kernel
theorem c130_238 : zcod 130 238 = some (.goto 4, 3, 242, 0, 0, 0) := by decide +kernel
theorem c130_241 : zcod 130 241 = some (.iconst 0, 1, 0, 0, 0, 0) := by decide +kernel
theorem c130_242 : zcod 130 242 = some (.iadd, 1, 0, 0, 0, 0) := by decide +kernel
theorem c130_243 : zcod 130 243 = some (.ireturn, 1, 0, 0, 0, 0) := by decide +kernel
set_option maxRecDepth 100000 in
theorem b130_0 (l0 : Option Nat) (l1 : Int32) (h : zH) : zev 130 0 [some (vR l0), some (vI l1), none, none, none, none, none, none, none, none, none] [] h = (zvr h l0 9 (zcI 131 [vR l0, vI l1] h fun x2 h1 => (zdv 20 ((zgI h1 l0 9 25 fun x3 => (zdv 20 ((zcI 132 [vI ((x2 - x2 / 20 * 20) - (x3 - x3 / 20 * 20))] h1 fun x5 h4 => (zdv 20 ((zgI h4 l0 9 25 fun x6 => (zdv 20 ((zcI 132 [vI ((x2 / 20) - (x6 / 20))] h4 fun x8 h7 => (zgR h7 l0 9 6 fun x9 => (zaI h7 x9 l1 fun x10 => (zdv (1 + (x5 + x8)) (zev 130 66 [some (vR l0), some (vI l1), some (vI x2), some (vI (x5 + x8)), some (vI ((10 * x10) + (200 / (1 + (x5 + x8))))), some (vI 0), some (vL 0), none, some (vI 0), none, none] [] h7)))))))))))))))))) := by
  refine (zv_an c130_0 rfl).trans ?_
  refine (zv_in c130_1 rfl).trans ?_
  refine (zv_viI c130_2 zcn_131 rfl zL_131 (Or.inl zrt_131) rfl rfl).trans (zvr_c (zcI_c fun x2 h1 => ?_))
  refine (zv_it c130_5 rfl).trans ?_
  refine (zv_in c130_6 rfl).trans ?_
  refine (zv_bi (v := 20) c130_7 (by decide)).trans ?_
  refine (zv_rem c130_9).trans (zdv_c ?_)
  refine (zv_an c130_10 rfl).trans ?_
  refine (zv_gI c130_11 zg9_25).trans (zgI_c fun x3 => ?_)
  refine (zv_bi (v := 20) c130_14 (by decide)).trans ?_
  refine (zv_rem c130_16).trans (zdv_c ?_)
  refine (zv_isub c130_17).trans ?_
  refine (zv_stI c130_18 (by decide) rfl zL_132 (Or.inl zrt_132) rfl rfl).trans (zcI_c fun x5 h4 => ?_)
  refine (zv_in c130_21 rfl).trans ?_
  refine (zv_bi (v := 20) c130_22 (by decide)).trans ?_
  refine (zv_div c130_24).trans (zdv_c ?_)
  refine (zv_an c130_25 rfl).trans ?_
  refine (zv_gI c130_26 zg9_25).trans (zgI_c fun x6 => ?_)
  refine (zv_bi (v := 20) c130_29 (by decide)).trans ?_
  refine (zv_div c130_31).trans (zdv_c ?_)
  refine (zv_isub c130_32).trans ?_
  refine (zv_stI c130_33 (by decide) rfl zL_132 (Or.inl zrt_132) rfl rfl).trans (zcI_c fun x8 h7 => ?_)
  refine (zv_iadd c130_36).trans ?_
  refine (zv_it c130_37 rfl).trans ?_
  refine (zv_bi (v := 10) c130_38 (by decide)).trans ?_
  refine (zv_an c130_40 rfl).trans ?_
  refine (zv_gR c130_41 zf9_6).trans (zgR_c fun x9 => ?_)
  refine (zv_in c130_44 rfl).trans ?_
  refine (zv_aI c130_45).trans (zaI_c fun x10 => ?_)
  refine (zv_imul c130_46).trans ?_
  refine (zv_si (v := 200) c130_47 (by decide)).trans ?_
  refine (zv_k (v := 1) c130_50 (by decide)).trans ?_
  refine (zv_in c130_51 rfl).trans ?_
  refine (zv_iadd c130_52).trans ?_
  refine (zv_div c130_53).trans (zdv_c ?_)
  refine (zv_iadd c130_54).trans ?_
  refine (zv_is c130_55 rfl).trans ?_
  refine (zv_k (v := 0) c130_57 (by decide)).trans ?_
  refine (zv_is c130_58 rfl).trans ?_
  refine (zv_lc (v := 0) c130_60 (by decide)).trans ?_
  refine (zv_ls c130_61 rfl).trans ?_
  refine (zv_k (v := 0) c130_63 (by decide)).trans ?_
  refine (zv_is c130_64 rfl).trans ?_
  rfl
theorem e130 (l0 : Option Nat) (l1 : Int32) (h : zH) : zcall 130 [vR l0, vI l1] h = (zvr h l0 9 (zcI 131 [vR l0, vI l1] h fun x2 h1 => (zdv 20 ((zgI h1 l0 9 25 fun x3 => (zdv 20 ((zcI 132 [vI ((x2 - x2 / 20 * 20) - (x3 - x3 / 20 * 20))] h1 fun x5 h4 => (zdv 20 ((zgI h4 l0 9 25 fun x6 => (zdv 20 ((zcI 132 [vI ((x2 / 20) - (x6 / 20))] h4 fun x8 h7 => (zgR h7 l0 9 6 fun x9 => (zaI h7 x9 l1 fun x10 => (zdv (1 + (x5 + x8)) (zev 130 66 [some (vR l0), some (vI l1), some (vI x2), some (vI (x5 + x8)), some (vI ((10 * x10) + (200 / (1 + (x5 + x8))))), some (vI 0), some (vL 0), none, some (vI 0), none, none] [] h7)))))))))))))))))) := by
  refine Eq.trans ?_ (b130_0 l0 l1 h)
  unfold zcall zent
  rw [zL_130]
  rfl
set_option maxRecDepth 100000 in
theorem b130_66 (l0 : Option Nat) (l1 : Int32) (l2 : Int32) (l3 : Int32) (l4 : Int32) (l5 : Int32) (l6 : Int64) (l8 : Int32) (l9 : Option zV) (l10 : Option zV) (h : zH) : zev 130 66 [some (vR l0), some (vI l1), some (vI l2), some (vI l3), some (vI l4), some (vI l5), some (vL l6), none, some (vI l8), l9, l10] [] h = (if l8 < 320 then zev 130 77 [some (vR l0), some (vI l1), some (vI l2), some (vI l3), some (vI l4), some (vI l5), some (vL l6), none, some (vI l8), some (vI 0), l10] [] h else zev 130 182 [some (vR l0), some (vI l1), some (vI l2), some (vI l3), some (vI l4), some (vI l5), some (vL l6), none, some (vI 0), l9, l10] [] h) := by
  refine (zv_il c130_66 rfl).trans ?_
  refine (zv_si (v := 320) c130_68 (by decide)).trans ?_
  refine (zv_icge c130_71).trans (zif_c ?_ ?_)
  · refine (zv_k (v := 0) c130_74 (by decide)).trans ?_
    refine (zv_is c130_75 rfl).trans ?_
    rfl
  · refine (zv_k (v := 0) c130_179 (by decide)).trans ?_
    refine (zv_is c130_180 rfl).trans ?_
    rfl
set_option maxRecDepth 100000 in
theorem b130_77 (l0 : Option Nat) (l1 : Int32) (l2 : Int32) (l3 : Int32) (l4 : Int32) (l5 : Int32) (l6 : Int64) (l8 : Int32) (l9 : Int32) (l10 : Option zV) (h : zH) : zev 130 77 [some (vR l0), some (vI l1), some (vI l2), some (vI l3), some (vI l4), some (vI l5), some (vL l6), none, some (vI l8), some (vI l9), l10] [] h = (if l9 < 4 then (zgR h l0 9 3 fun x1 => (zaI h x1 l8 fun x2 => (if x2 = l1 then (zvr h l0 9 (zcI 133 [vR l0, vI l8, vI l9] h fun x4 h3 => (if x4 < 0 then zev 130 132 [some (vR l0), some (vI l1), some (vI l2), some (vI l3), some (vI l4), some (vI l5), some (vL l6), none, some (vI l8), some (vI l9), some (vI x4)] [vL 0, vL l6] h3 else (if x4 < 100 then (if x4 = l1 then zev 130 132 [some (vR l0), some (vI l1), some (vI l2), some (vI l3), some (vI l4), some (vI l5), some (vL l6), none, some (vI l8), some (vI l9), some (vI x4)] [vL 0, vL l6] h3 else zev 130 132 [some (vR l0), some (vI l1), some (vI l2), some (vI l3), some (vI l4), some (vI l5), some (vL l6), none, some (vI l8), some (vI l9), some (vI x4)] [vL (1 <<< (Int32.toInt64 x4 &&& 63)), vL l6] h3) else zev 130 132 [some (vR l0), some (vI l1), some (vI l2), some (vI l3), some (vI l4), some (vI l5), some (vL l6), none, some (vI l8), some (vI l9), some (vI x4)] [vL 0, vL l6] h3)))) else zev 130 66 [some (vR l0), some (vI l1), some (vI l2), some (vI l3), some (vI l4), some (vI l5), some (vL l6), none, some (vI (l8 + 1)), some (vI l9), l10] [] h))) else zev 130 66 [some (vR l0), some (vI l1), some (vI l2), some (vI l3), some (vI l4), some (vI l5), some (vL l6), none, some (vI (l8 + 1)), some (vI l9), l10] [] h) := by
  refine (zv_il c130_77 rfl).trans ?_
  refine (zv_k (v := 4) c130_79 (by decide)).trans ?_
  refine (zv_icge c130_80).trans (zif_c ?_ ?_)
  · refine (zv_an c130_83 rfl).trans ?_
    refine (zv_gR c130_84 zf9_3).trans (zgR_c fun x1 => ?_)
    refine (zv_il c130_87 rfl).trans ?_
    refine (zv_aI c130_89).trans (zaI_c fun x2 => ?_)
    refine (zv_in c130_90 rfl).trans ?_
    refine (zv_icne c130_91).trans (zif_c ?_ ?_)
    · refine (zv_an c130_94 rfl).trans ?_
      refine (zv_il c130_95 rfl).trans ?_
      refine (zv_il c130_97 rfl).trans ?_
      refine (zv_viI c130_99 zcn_133 rfl zL_133 (Or.inl zrt_133) rfl rfl).trans (zvr_c (zcI_c fun x4 h3 => ?_))
      refine (zv_is c130_102 rfl).trans ?_
      refine (zv_ll c130_104 rfl).trans ?_
      refine (zv_il c130_106 rfl).trans ?_
      refine (zv_iflt c130_108).trans (zif_c ?_ ?_)
      · refine (zv_lc (v := 0) c130_131 (by decide)).trans ?_
        rfl
      · refine (zv_il c130_111 rfl).trans ?_
        refine (zv_bi (v := 100) c130_113 (by decide)).trans ?_
        refine (zv_icge c130_115).trans (zif_c ?_ ?_)
        · refine (zv_il c130_118 rfl).trans ?_
          refine (zv_in c130_120 rfl).trans ?_
          refine (zv_iceq c130_121).trans (zif_c ?_ ?_)
          · refine (zv_lc (v := 0) c130_131 (by decide)).trans ?_
            rfl
          · refine (zv_lc (v := 1) c130_124 (by decide)).trans ?_
            refine (zv_il c130_125 rfl).trans ?_
            refine (zv_lshl c130_127).trans ?_
            refine (zv_goto c130_128).trans ?_
            rfl
        · refine (zv_lc (v := 0) c130_131 (by decide)).trans ?_
          rfl
    · refine (zv_inc (y := 1) c130_173 rfl (by decide) rfl).trans ?_
      refine (zv_goto c130_176).trans ?_
      rfl
  · refine (zv_inc (y := 1) c130_173 rfl (by decide) rfl).trans ?_
    refine (zv_goto c130_176).trans ?_
    rfl
set_option maxRecDepth 100000 in
theorem b130_132 (l0 : Option Nat) (l1 : Int32) (l2 : Int32) (l3 : Int32) (l4 : Int32) (l5 : Int32) (l6 : Int64) (l8 : Int32) (l9 : Int32) (l10 : Int32) (s0 : Int64) (s1 : Int64) (h : zH) : zev 130 132 [some (vR l0), some (vI l1), some (vI l2), some (vI l3), some (vI l4), some (vI l5), some (vL l6), none, some (vI l8), some (vI l9), some (vI l10)] [vL s1, vL s0] h = (if l5 = 0 then (if l10 < 100 then zev 130 77 [some (vR l0), some (vI l1), some (vI l2), some (vI l3), some (vI l4), some (vI 0), some (vL (s0 ||| s1)), none, some (vI l8), some (vI (l9 + 1)), some (vI l10)] [] h else (zgR h l0 9 17 fun x1 => (zaB h x1 (l10 - 100) fun x2 => (if x2 = 0 then zev 130 77 [some (vR l0), some (vI l1), some (vI l2), some (vI l3), some (vI l4), some (vI 1), some (vL (s0 ||| s1)), none, some (vI l8), some (vI (l9 + 1)), some (vI l10)] [] h else zev 130 77 [some (vR l0), some (vI l1), some (vI l2), some (vI l3), some (vI l4), some (vI 0), some (vL (s0 ||| s1)), none, some (vI l8), some (vI (l9 + 1)), some (vI l10)] [] h)))) else zev 130 77 [some (vR l0), some (vI l1), some (vI l2), some (vI l3), some (vI l4), some (vI 1), some (vL (s0 ||| s1)), none, some (vI l8), some (vI (l9 + 1)), some (vI l10)] [] h) := by
  refine (zv_lor c130_132).trans ?_
  refine (zv_ls c130_133 rfl).trans ?_
  refine (zv_il c130_135 rfl).trans ?_
  refine (zv_ifne c130_137).trans (zif_c ?_ ?_)
  · refine (zv_il c130_140 rfl).trans ?_
    refine (zv_bi (v := 100) c130_142 (by decide)).trans ?_
    refine (zv_iclt c130_144).trans (zif_c ?_ ?_)
    · refine (zv_k (v := 0) c130_164 (by decide)).trans ?_
      refine (zv_is c130_165 rfl).trans ?_
      refine (zv_inc (y := 1) c130_167 rfl (by decide) rfl).trans ?_
      refine (zv_goto c130_170).trans ?_
      rfl
    · refine (zv_an c130_147 rfl).trans ?_
      refine (zv_gR c130_148 zf9_17).trans (zgR_c fun x1 => ?_)
      refine (zv_il c130_151 rfl).trans ?_
      refine (zv_bi (v := 100) c130_153 (by decide)).trans ?_
      refine (zv_isub c130_155).trans ?_
      refine (zv_aB c130_156).trans (zaB_c fun x2 => ?_)
      refine (zv_ifne c130_157).trans (zif_c ?_ ?_)
      · refine (zv_k (v := 1) c130_160 (by decide)).trans ?_
        refine (zv_goto c130_161).trans ?_
        refine (zv_is c130_165 rfl).trans ?_
        refine (zv_inc (y := 1) c130_167 rfl (by decide) rfl).trans ?_
        refine (zv_goto c130_170).trans ?_
        rfl
      · refine (zv_k (v := 0) c130_164 (by decide)).trans ?_
        refine (zv_is c130_165 rfl).trans ?_
        refine (zv_inc (y := 1) c130_167 rfl (by decide) rfl).trans ?_
        refine (zv_goto c130_170).trans ?_
        rfl
  · refine (zv_k (v := 1) c130_160 (by decide)).trans ?_
    refine (zv_goto c130_161).trans ?_
    refine (zv_is c130_165 rfl).trans ?_
    refine (zv_inc (y := 1) c130_167 rfl (by decide) rfl).trans ?_
    refine (zv_goto c130_170).trans ?_
    rfl
set_option maxRecDepth 100000 in
theorem b130_182 (l0 : Option Nat) (l1 : Int32) (l2 : Int32) (l3 : Int32) (l4 : Int32) (l5 : Int32) (l6 : Int64) (l8 : Int32) (l9 : Option zV) (l10 : Option zV) (h : zH) : zev 130 182 [some (vR l0), some (vI l1), some (vI l2), some (vI l3), some (vI l4), some (vI l5), some (vL l6), none, some (vI l8), l9, l10] [] h = (zgI h l0 9 5 fun x1 => (if l8 < x1 then (if (lg_cmp ((l6 >>> (Int32.toInt64 l8 &&& 63)) &&& 1) 1) = 0 then (zvr h l0 9 (zcI 134 [vR l0, vI l8] h fun x3 h2 => (if x3 < 0 then zev 130 182 [some (vR l0), some (vI l1), some (vI l2), some (vI l3), some (vI (l4 + 0)), some (vI l5), some (vL l6), none, some (vI (l8 + 1)), l9, l10] [] h2 else zev 130 182 [some (vR l0), some (vI l1), some (vI l2), some (vI l3), some (vI (l4 + 15)), some (vI l5), some (vL l6), none, some (vI (l8 + 1)), l9, l10] [] h2))) else zev 130 182 [some (vR l0), some (vI l1), some (vI l2), some (vI l3), some (vI (l4 + 0)), some (vI l5), some (vL l6), none, some (vI (l8 + 1)), l9, l10] [] h) else (if l5 = 0 then some (some (vI (l4 + 0)), h) else some (some (vI (l4 + 30)), h)))) := by
  refine (zv_il c130_182 rfl).trans ?_
  refine (zv_an c130_184 rfl).trans ?_
  refine (zv_gI c130_185 zg9_5).trans (zgI_c fun x1 => ?_)
  refine (zv_icge c130_188).trans (zif_c ?_ ?_)
  · refine (zv_il c130_191 rfl).trans ?_
    refine (zv_ll c130_193 rfl).trans ?_
    refine (zv_il c130_195 rfl).trans ?_
    refine (zv_lshr c130_197).trans ?_
    refine (zv_lc (v := 1) c130_198 (by decide)).trans ?_
    refine (zv_land c130_199).trans ?_
    refine (zv_lc (v := 1) c130_200 (by decide)).trans ?_
    refine (zv_lcmp c130_201).trans ?_
    refine (zv_ifne c130_202).trans (zif_c ?_ ?_)
    · refine (zv_an c130_205 rfl).trans ?_
      refine (zv_il c130_206 rfl).trans ?_
      refine (zv_viI c130_208 zcn_134 rfl zL_134 (Or.inl zrt_134) rfl rfl).trans (zvr_c (zcI_c fun x3 h2 => ?_))
      refine (zv_iflt c130_211).trans (zif_c ?_ ?_)
      · refine (zv_k (v := 0) c130_219 (by decide)).trans ?_
        refine (zv_iadd c130_220).trans ?_
        refine (zv_is c130_221 rfl).trans ?_
        refine (zv_inc (y := 1) c130_223 rfl (by decide) rfl).trans ?_
        refine (zv_goto c130_226).trans ?_
        rfl
      · refine (zv_bi (v := 15) c130_214 (by decide)).trans ?_
        refine (zv_goto c130_216).trans ?_
        refine (zv_iadd c130_220).trans ?_
        refine (zv_is c130_221 rfl).trans ?_
        refine (zv_inc (y := 1) c130_223 rfl (by decide) rfl).trans ?_
        refine (zv_goto c130_226).trans ?_
        rfl
    · refine (zv_k (v := 0) c130_219 (by decide)).trans ?_
      refine (zv_iadd c130_220).trans ?_
      refine (zv_is c130_221 rfl).trans ?_
      refine (zv_inc (y := 1) c130_223 rfl (by decide) rfl).trans ?_
      refine (zv_goto c130_226).trans ?_
      rfl
  · refine (zv_il c130_229 rfl).trans ?_
    refine (zv_il c130_231 rfl).trans ?_
    refine (zv_ifeq c130_233).trans (zif_c ?_ ?_)
    · refine (zv_k (v := 0) c130_241 (by decide)).trans ?_
      refine (zv_iadd c130_242).trans ?_
      exact zv_ir c130_243 zrt_130
    · refine (zv_bi (v := 30) c130_236 (by decide)).trans ?_
      refine (zv_goto c130_238).trans ?_
      refine (zv_iadd c130_242).trans ?_
      exact zv_ir c130_243 zrt_130
theorem c131_0 : zcod 131 0 = some (.iconst 0, 1, 0, 0, 0, 0) := by decide +kernel
theorem c131_1 : zcod 131 1 = some (.istore_n 2, 1, 0, 0, 0, 0) := by decide +kernel
theorem c131_2 : zcod 131 2 = some (.aload_n 0, 1, 0, 0, 0, 0) := by decide +kernel
theorem c131_3 : zcod 131 3 = some (.getfield 17, 3, 9, 3, 799, 0) := by decide +kernel
theorem c131_6 : zcod 131 6 = some (.iload_n 2, 1, 0, 0, 0, 0) := by decide +kernel
theorem c131_7 : zcod 131 7 = some (.iaload, 1, 0, 0, 0, 0) := by decide +kernel
theorem c131_8 : zcod 131 8 = some (.iload_n 1, 1, 0, 0, 0, 0) := by decide +kernel
theorem c131_9 : zcod 131 9 = some (.if_icmp .eq 9, 3, 18, 0, 0, 0) := by decide +kernel
theorem c131_12 : zcod 131 12 = some (.iinc 2 1, 3, 0, 0, 0, 0) := by decide +kernel
theorem c131_15 : zcod 131 15 = some (.goto (-13), 3, 2, 0, 0, 0) := by decide +kernel
theorem c131_18 : zcod 131 18 = some (.iload_n 2, 1, 0, 0, 0, 0) := by decide +kernel
theorem c131_19 : zcod 131 19 = some (.ireturn, 1, 0, 0, 0, 0) := by decide +kernel
set_option maxRecDepth 100000 in
theorem b131_0 (l0 : Option Nat) (l1 : Int32) (h : zH) : zev 131 0 [some (vR l0), some (vI l1), none] [] h = zev 131 2 [some (vR l0), some (vI l1), some (vI 0)] [] h := by
  refine (zv_k (v := 0) c131_0 (by decide)).trans ?_
  refine (zv_it c131_1 rfl).trans ?_
  rfl
theorem e131 (l0 : Option Nat) (l1 : Int32) (h : zH) : zcall 131 [vR l0, vI l1] h = zev 131 2 [some (vR l0), some (vI l1), some (vI 0)] [] h := by
  refine Eq.trans ?_ (b131_0 l0 l1 h)
  unfold zcall zent
  rw [zL_131]
  rfl
set_option maxRecDepth 100000 in
theorem b131_2 (l0 : Option Nat) (l1 : Int32) (l2 : Int32) (h : zH) : zev 131 2 [some (vR l0), some (vI l1), some (vI l2)] [] h = (zgR h l0 9 3 fun x1 => (zaI h x1 l2 fun x2 => (if x2 = l1 then some (some (vI l2), h) else zev 131 2 [some (vR l0), some (vI l1), some (vI (l2 + 1))] [] h))) := by
  refine (zv_an c131_2 rfl).trans ?_
  refine (zv_gR c131_3 zf9_3).trans (zgR_c fun x1 => ?_)
  refine (zv_in c131_6 rfl).trans ?_
  refine (zv_aI c131_7).trans (zaI_c fun x2 => ?_)
  refine (zv_in c131_8 rfl).trans ?_
  refine (zv_iceq c131_9).trans (zif_c ?_ ?_)
  · refine (zv_in c131_18 rfl).trans ?_
    exact zv_ir c131_19 zrt_131
  · refine (zv_inc (y := 1) c131_12 rfl (by decide) rfl).trans ?_
    refine (zv_goto c131_15).trans ?_
    rfl
theorem c132_0 : zcod 132 0 = some (.iload_n 0, 1, 0, 0, 0, 0) := by decide +kernel
theorem c132_1 : zcod 132 1 = some (.ifCond .ge 8, 3, 9, 0, 0, 0) := by decide +kernel
theorem c132_4 : zcod 132 4 = some (.iload_n 0, 1, 0, 0, 0, 0) := by decide +kernel
theorem c132_5 : zcod 132 5 = some (.ineg, 1, 0, 0, 0, 0) := by decide +kernel
theorem c132_6 : zcod 132 6 = some (.goto 4, 3, 10, 0, 0, 0) := by decide +kernel
theorem c132_9 : zcod 132 9 = some (.iload_n 0, 1, 0, 0, 0, 0) := by decide +kernel
theorem c132_10 : zcod 132 10 = some (.ireturn, 1, 0, 0, 0, 0) := by decide +kernel
set_option maxRecDepth 100000 in
theorem b132_0 (l0 : Int32) (h : zH) : zev 132 0 [some (vI l0)] [] h = (if l0 < 0 then some (some (vI (-l0)), h) else some (some (vI l0), h)) := by
  refine (zv_in c132_0 rfl).trans ?_
  refine (zv_ifge c132_1).trans (zif_c ?_ ?_)
  · refine (zv_in c132_4 rfl).trans ?_
    refine (zv_ineg c132_5).trans ?_
    refine (zv_goto c132_6).trans ?_
    exact zv_ir c132_10 zrt_132
  · refine (zv_in c132_9 rfl).trans ?_
    exact zv_ir c132_10 zrt_132
theorem e132 (l0 : Int32) (h : zH) : zcall 132 [vI l0] h = (if l0 < 0 then some (some (vI (-l0)), h) else some (some (vI l0), h)) := by
  refine Eq.trans ?_ (b132_0 l0 h)
  unfold zcall zent
  rw [zL_132]
  rfl
theorem c133_0 : zcod 133 0 = some (.iload_n 1, 1, 0, 0, 0, 0) := by decide +kernel
theorem c133_1 : zcod 133 1 = some (.bipush 20, 2, 0, 0, 0, 0) := by decide +kernel
theorem c133_3 : zcod 133 3 = some (.irem, 1, 0, 0, 0, 0) := by decide +kernel
theorem c133_4 : zcod 133 4 = some (.iload_n 2, 1, 0, 0, 0, 0) := by decide +kernel
theorem c133_5 : zcod 133 5 = some (.ifCond .ne 7, 3, 12, 0, 0, 0) := by decide +kernel
theorem c133_8 : zcod 133 8 = some (.iconst (-1), 1, 0, 0, 0, 0) := by decide +kernel
theorem c133_9 : zcod 133 9 = some (.goto 13, 3, 22, 0, 0, 0) := by decide +kernel
theorem c133_12 : zcod 133 12 = some (.iload_n 2, 1, 0, 0, 0, 0) := by decide +kernel
theorem c133_13 : zcod 133 13 = some (.iconst 1, 1, 0, 0, 0, 0) := by decide +kernel
theorem c133_14 : zcod 133 14 = some (.if_icmp .ne 7, 3, 21, 0, 0, 0) := by decide +kernel
theorem c133_17 : zcod 133 17 = some (.iconst 1, 1, 0, 0, 0, 0) := by decide +kernel
theorem c133_18 : zcod 133 18 = some (.goto 4, 3, 22, 0, 0, 0) := by decide +kernel
theorem c133_21 : zcod 133 21 = some (.iconst 0, 1, 0, 0, 0, 0) := by decide +kernel
theorem c133_22 : zcod 133 22 = some (.iadd, 1, 0, 0, 0, 0) := by decide +kernel
theorem c133_23 : zcod 133 23 = some (.istore_n 3, 1, 0, 0, 0, 0) := by decide +kernel
theorem c133_24 : zcod 133 24 = some (.iload_n 1, 1, 0, 0, 0, 0) := by decide +kernel
theorem c133_25 : zcod 133 25 = some (.bipush 20, 2, 0, 0, 0, 0) := by decide +kernel
theorem c133_27 : zcod 133 27 = some (.idiv, 1, 0, 0, 0, 0) := by decide +kernel
theorem c133_28 : zcod 133 28 = some (.iload_n 2, 1, 0, 0, 0, 0) := by decide +kernel
theorem c133_29 : zcod 133 29 = some (.iconst 2, 1, 0, 0, 0, 0) := by decide +kernel
theorem c133_30 : zcod 133 30 = some (.if_icmp .ne 7, 3, 37, 0, 0, 0) := by decide +kernel
theorem c133_33 : zcod 133 33 = some (.iconst (-1), 1, 0, 0, 0, 0) := by decide +kernel
theorem c133_34 : zcod 133 34 = some (.goto 13, 3, 47, 0, 0, 0) := by decide +kernel
theorem c133_37 : zcod 133 37 = some (.iload_n 2, 1, 0, 0, 0, 0) := by decide +kernel
theorem c133_38 : zcod 133 38 = some (.iconst 3, 1, 0, 0, 0, 0) := by decide +kernel
theorem c133_39 : zcod 133 39 = some (.if_icmp .ne 7, 3, 46, 0, 0, 0) := by decide +kernel
theorem c133_42 : zcod 133 42 = some (.iconst 1, 1, 0, 0, 0, 0) := by decide +kernel
theorem c133_43 : zcod 133 43 = some (.goto 4, 3, 47, 0, 0, 0) := by decide +kernel
theorem c133_46 : zcod 133 46 = some (.iconst 0, 1, 0, 0, 0, 0) := by decide +kernel
theorem c133_47 : zcod 133 47 = some (.iadd, 1, 0, 0, 0, 0) := by decide +kernel
theorem c133_48 : zcod 133 48 = some (.istore 4, 2, 0, 0, 0, 0) := by decide +kernel
theorem c133_50 : zcod 133 50 = some (.iload_n 3, 1, 0, 0, 0, 0) := by decide +kernel
theorem c133_51 : zcod 133 51 = some (.iload 4, 2, 0, 0, 0, 0) := by decide +kernel
theorem c133_53 : zcod 133 53 = some (.invokestatic 159, 3, 127, 2, 981, 0) := by decide +kernel
theorem c133_56 : zcod 133 56 = some (.ifCond .eq 18, 3, 74, 0, 0, 0) := by decide +kernel
theorem c133_59 : zcod 133 59 = some (.aload_n 0, 1, 0, 0, 0, 0) := by decide +kernel
theorem c133_60 : zcod 133 60 = some (.getfield 17, 3, 9, 3, 799, 0) := by decide +kernel
theorem c133_63 : zcod 133 63 = some (.bipush 20, 2, 0, 0, 0, 0) := by decide +kernel
theorem c133_65 : zcod 133 65 = some (.iload 4, 2, 0, 0, 0, 0) := by decide +kernel
theorem c133_67 : zcod 133 67 = some (.imul, 1, 0, 0, 0, 0) := by decide +kernel
theorem c133_68 : zcod 133 68 = some (.iload_n 3, 1, 0, 0, 0, 0) := by decide +kernel
theorem c133_69 : zcod 133 69 = some (.iadd, 1, 0, 0, 0, 0) := by decide +kernel
theorem c133_70 : zcod 133 70 = some (.iaload, 1, 0, 0, 0, 0) := by decide +kernel
theorem c133_71 : zcod 133 71 = some (.goto 4, 3, 75, 0, 0, 0) := by decide +kernel
theorem c133_74 : zcod 133 74 = some (.iconst (-1), 1, 0, 0, 0, 0) := by decide +kernel
theorem c133_75 : zcod 133 75 = some (.ireturn, 1, 0, 0, 0, 0) := by decide +kernel
set_option maxRecDepth 100000 in
theorem b133_0 (l0 : Option Nat) (l1 : Int32) (l2 : Int32) (h : zH) : zev 133 0 [some (vR l0), some (vI l1), some (vI l2), none, none] [] h = (zdv 20 ((if l2 = 0 then zev 133 22 [some (vR l0), some (vI l1), some (vI l2), none, none] [vI (-1), vI (l1 - l1 / 20 * 20)] h else (if l2 = 1 then zev 133 22 [some (vR l0), some (vI l1), some (vI l2), none, none] [vI 1, vI (l1 - l1 / 20 * 20)] h else zev 133 22 [some (vR l0), some (vI l1), some (vI l2), none, none] [vI 0, vI (l1 - l1 / 20 * 20)] h)))) := by
  refine (zv_in c133_0 rfl).trans ?_
  refine (zv_bi (v := 20) c133_1 (by decide)).trans ?_
  refine (zv_rem c133_3).trans (zdv_c ?_)
  refine (zv_in c133_4 rfl).trans ?_
  refine (zv_ifne c133_5).trans (zif_c ?_ ?_)
  · refine (zv_k (v := -1) c133_8 (by decide)).trans ?_
    refine (zv_goto c133_9).trans ?_
    rfl
  · refine (zv_in c133_12 rfl).trans ?_
    refine (zv_k (v := 1) c133_13 (by decide)).trans ?_
    refine (zv_icne c133_14).trans (zif_c ?_ ?_)
    · refine (zv_k (v := 1) c133_17 (by decide)).trans ?_
      refine (zv_goto c133_18).trans ?_
      rfl
    · refine (zv_k (v := 0) c133_21 (by decide)).trans ?_
      rfl
theorem e133 (l0 : Option Nat) (l1 : Int32) (l2 : Int32) (h : zH) : zcall 133 [vR l0, vI l1, vI l2] h = (zdv 20 ((if l2 = 0 then zev 133 22 [some (vR l0), some (vI l1), some (vI l2), none, none] [vI (-1), vI (l1 - l1 / 20 * 20)] h else (if l2 = 1 then zev 133 22 [some (vR l0), some (vI l1), some (vI l2), none, none] [vI 1, vI (l1 - l1 / 20 * 20)] h else zev 133 22 [some (vR l0), some (vI l1), some (vI l2), none, none] [vI 0, vI (l1 - l1 / 20 * 20)] h)))) := by
  refine Eq.trans ?_ (b133_0 l0 l1 l2 h)
  unfold zcall zent
  rw [zL_133]
  rfl
set_option maxRecDepth 100000 in
theorem b133_22 (l0 : Option Nat) (l1 : Int32) (l2 : Int32) (l3 : Option zV) (l4 : Option zV) (s0 : Int32) (s1 : Int32) (h : zH) : zev 133 22 [some (vR l0), some (vI l1), some (vI l2), l3, l4] [vI s1, vI s0] h = (zdv 20 ((if l2 = 2 then zev 133 47 [some (vR l0), some (vI l1), some (vI l2), some (vI (s0 + s1)), l4] [vI (-1), vI (l1 / 20)] h else (if l2 = 3 then zev 133 47 [some (vR l0), some (vI l1), some (vI l2), some (vI (s0 + s1)), l4] [vI 1, vI (l1 / 20)] h else zev 133 47 [some (vR l0), some (vI l1), some (vI l2), some (vI (s0 + s1)), l4] [vI 0, vI (l1 / 20)] h)))) := by
  refine (zv_iadd c133_22).trans ?_
  refine (zv_it c133_23 rfl).trans ?_
  refine (zv_in c133_24 rfl).trans ?_
  refine (zv_bi (v := 20) c133_25 (by decide)).trans ?_
  refine (zv_div c133_27).trans (zdv_c ?_)
  refine (zv_in c133_28 rfl).trans ?_
  refine (zv_k (v := 2) c133_29 (by decide)).trans ?_
  refine (zv_icne c133_30).trans (zif_c ?_ ?_)
  · refine (zv_k (v := -1) c133_33 (by decide)).trans ?_
    refine (zv_goto c133_34).trans ?_
    rfl
  · refine (zv_in c133_37 rfl).trans ?_
    refine (zv_k (v := 3) c133_38 (by decide)).trans ?_
    refine (zv_icne c133_39).trans (zif_c ?_ ?_)
    · refine (zv_k (v := 1) c133_42 (by decide)).trans ?_
      refine (zv_goto c133_43).trans ?_
      rfl
    · refine (zv_k (v := 0) c133_46 (by decide)).trans ?_
      rfl
set_option maxRecDepth 100000 in
theorem b133_47 (l0 : Option Nat) (l1 : Int32) (l2 : Int32) (l3 : Int32) (l4 : Option zV) (s0 : Int32) (s1 : Int32) (h : zH) : zev 133 47 [some (vR l0), some (vI l1), some (vI l2), some (vI l3), l4] [vI s1, vI s0] h = (zcI 127 [vI l3, vI (s0 + s1)] h fun x2 h1 => (if x2 = 0 then some (some (vI (-1)), h1) else (zgR h1 l0 9 3 fun x3 => (zaI h1 x3 ((20 * (s0 + s1)) + l3) fun x4 => some (some (vI x4), h1))))) := by
  refine (zv_iadd c133_47).trans ?_
  refine (zv_is c133_48 rfl).trans ?_
  refine (zv_in c133_50 rfl).trans ?_
  refine (zv_il c133_51 rfl).trans ?_
  refine (zv_stI c133_53 (by decide) rfl zL_127 (Or.inr zrt_127) rfl rfl).trans (zcI_c fun x2 h1 => ?_)
  refine (zv_ifeq c133_56).trans (zif_c ?_ ?_)
  · refine (zv_k (v := -1) c133_74 (by decide)).trans ?_
    exact zv_ir c133_75 zrt_133
  · refine (zv_an c133_59 rfl).trans ?_
    refine (zv_gR c133_60 zf9_3).trans (zgR_c fun x3 => ?_)
    refine (zv_bi (v := 20) c133_63 (by decide)).trans ?_
    refine (zv_il c133_65 rfl).trans ?_
    refine (zv_imul c133_67).trans ?_
    refine (zv_in c133_68 rfl).trans ?_
    refine (zv_iadd c133_69).trans ?_
    refine (zv_aI c133_70).trans (zaI_c fun x4 => ?_)
    refine (zv_goto c133_71).trans ?_
    exact zv_ir c133_75 zrt_133
theorem c134_0 : zcod 134 0 = some (.iconst (-1), 1, 0, 0, 0, 0) := by decide +kernel
theorem c134_1 : zcod 134 1 = some (.istore_n 2, 1, 0, 0, 0, 0) := by decide +kernel
theorem c134_2 : zcod 134 2 = some (.iconst 0, 1, 0, 0, 0, 0) := by decide +kernel
theorem c134_3 : zcod 134 3 = some (.istore_n 3, 1, 0, 0, 0, 0) := by decide +kernel
theorem c134_4 : zcod 134 4 = some (.iload_n 3, 1, 0, 0, 0, 0) := by decide +kernel
theorem c134_5 : zcod 134 5 = some (.aload_n 0, 1, 0, 0, 0, 0) := by decide +kernel
theorem c134_6 : zcod 134 6 = some (.getfield 163, 3, 9, 18, 814, 0) := by decide +kernel
theorem c134_9 : zcod 134 9 = some (.if_icmp .ge 25, 3, 34, 0, 0, 0) := by decide +kernel
theorem c134_12 : zcod 134 12 = some (.aload_n 0, 1, 0, 0, 0, 0) := by decide +kernel
theorem c134_13 : zcod 134 13 = some (.getfield 60, 3, 9, 20, 816, 0) := by decide +kernel
theorem c134_16 : zcod 134 16 = some (.iload_n 3, 1, 0, 0, 0, 0) := by decide +kernel
theorem c134_17 : zcod 134 17 = some (.iaload, 1, 0, 0, 0, 0) := by decide +kernel
theorem c134_18 : zcod 134 18 = some (.iload_n 1, 1, 0, 0, 0, 0) := by decide +kernel
theorem c134_19 : zcod 134 19 = some (.if_icmp .ne 7, 3, 26, 0, 0, 0) := by decide +kernel
theorem c134_22 : zcod 134 22 = some (.iload_n 3, 1, 0, 0, 0, 0) := by decide +kernel
theorem c134_23 : zcod 134 23 = some (.goto 4, 3, 27, 0, 0, 0) := by decide +kernel
theorem c134_26 : zcod 134 26 = some (.iload_n 2, 1, 0, 0, 0, 0) := by decide +kernel
theorem c134_27 : zcod 134 27 = some (.istore_n 2, 1, 0, 0, 0, 0) := by decide +kernel
theorem c134_28 : zcod 134 28 = some (.iinc 3 1, 3, 0, 0, 0, 0) := by decide +kernel
theorem c134_31 : zcod 134 31 = some (.goto (-27), 3, 4, 0, 0, 0) := by decide +kernel
theorem c134_34 : zcod 134 34 = some (.iload_n 2, 1, 0, 0, 0, 0) := by decide +kernel
theorem c134_35 : zcod 134 35 = some (.ireturn, 1, 0, 0, 0, 0) := by decide +kernel
set_option maxRecDepth 100000 in
theorem b134_0 (l0 : Option Nat) (l1 : Int32) (h : zH) : zev 134 0 [some (vR l0), some (vI l1), none, none] [] h = zev 134 4 [some (vR l0), some (vI l1), some (vI (-1)), some (vI 0)] [] h := by
  refine (zv_k (v := -1) c134_0 (by decide)).trans ?_
  refine (zv_it c134_1 rfl).trans ?_
  refine (zv_k (v := 0) c134_2 (by decide)).trans ?_
  refine (zv_it c134_3 rfl).trans ?_
  rfl
theorem e134 (l0 : Option Nat) (l1 : Int32) (h : zH) : zcall 134 [vR l0, vI l1] h = zev 134 4 [some (vR l0), some (vI l1), some (vI (-1)), some (vI 0)] [] h := by
  refine Eq.trans ?_ (b134_0 l0 l1 h)
  unfold zcall zent
  rw [zL_134]
  rfl
set_option maxRecDepth 100000 in
theorem b134_4 (l0 : Option Nat) (l1 : Int32) (l2 : Int32) (l3 : Int32) (h : zH) : zev 134 4 [some (vR l0), some (vI l1), some (vI l2), some (vI l3)] [] h = (zgI h l0 9 18 fun x1 => (if l3 < x1 then (zgR h l0 9 20 fun x2 => (zaI h x2 l3 fun x3 => (if x3 = l1 then zev 134 4 [some (vR l0), some (vI l1), some (vI l3), some (vI (l3 + 1))] [] h else zev 134 4 [some (vR l0), some (vI l1), some (vI l2), some (vI (l3 + 1))] [] h))) else some (some (vI l2), h))) := by
  refine (zv_in c134_4 rfl).trans ?_
  refine (zv_an c134_5 rfl).trans ?_
  refine (zv_gI c134_6 zg9_18).trans (zgI_c fun x1 => ?_)
  refine (zv_icge c134_9).trans (zif_c ?_ ?_)
  · refine (zv_an c134_12 rfl).trans ?_
    refine (zv_gR c134_13 zf9_20).trans (zgR_c fun x2 => ?_)
    refine (zv_in c134_16 rfl).trans ?_
    refine (zv_aI c134_17).trans (zaI_c fun x3 => ?_)
    refine (zv_in c134_18 rfl).trans ?_
    refine (zv_icne c134_19).trans (zif_c ?_ ?_)
    · refine (zv_in c134_22 rfl).trans ?_
      refine (zv_goto c134_23).trans ?_
      refine (zv_it c134_27 rfl).trans ?_
      refine (zv_inc (y := 1) c134_28 rfl (by decide) rfl).trans ?_
      refine (zv_goto c134_31).trans ?_
      rfl
    · refine (zv_in c134_26 rfl).trans ?_
      refine (zv_it c134_27 rfl).trans ?_
      refine (zv_inc (y := 1) c134_28 rfl (by decide) rfl).trans ?_
      refine (zv_goto c134_31).trans ?_
      rfl
  · refine (zv_in c134_34 rfl).trans ?_
    exact zv_ir c134_35 zrt_134
theorem c135_0 : zcod 135 0 = some (.aload_n 0, 1, 0, 0, 0, 0) := by decide +kernel
theorem c135_1 : zcod 135 1 = some (.getfield 39, 3, 9, 11, 807, 0) := by decide +kernel
theorem c135_4 : zcod 135 4 = some (.iload_n 1, 1, 0, 0, 0, 0) := by decide +kernel
theorem c135_5 : zcod 135 5 = some (.iaload, 1, 0, 0, 0, 0) := by decide +kernel
theorem c135_6 : zcod 135 6 = some (.ifCond .ne 7, 3, 13, 0, 0, 0) := by decide +kernel
theorem c135_9 : zcod 135 9 = some (.iconst 0, 1, 0, 0, 0, 0) := by decide +kernel
theorem c135_10 : zcod 135 10 = some (.goto 25, 3, 35, 0, 0, 0) := by decide +kernel
theorem c135_13 : zcod 135 13 = some (.aload_n 0, 1, 0, 0, 0, 0) := by decide +kernel
theorem c135_14 : zcod 135 14 = some (.getfield 39, 3, 9, 11, 807, 0) := by decide +kernel
theorem c135_17 : zcod 135 17 = some (.iload_n 1, 1, 0, 0, 0, 0) := by decide +kernel
theorem c135_18 : zcod 135 18 = some (.iaload, 1, 0, 0, 0, 0) := by decide +kernel
theorem c135_19 : zcod 135 19 = some (.iconst 1, 1, 0, 0, 0, 0) := by decide +kernel
theorem c135_20 : zcod 135 20 = some (.isub, 1, 0, 0, 0, 0) := by decide +kernel
theorem c135_21 : zcod 135 21 = some (.aload_n 0, 1, 0, 0, 0, 0) := by decide +kernel
theorem c135_22 : zcod 135 22 = some (.getfield 33, 3, 9, 9, 805, 0) := by decide +kernel
theorem c135_25 : zcod 135 25 = some (.iload_n 1, 1, 0, 0, 0, 0) := by decide +kernel
theorem c135_26 : zcod 135 26 = some (.iaload, 1, 0, 0, 0, 0) := by decide +kernel
theorem c135_27 : zcod 135 27 = some (.imul, 1, 0, 0, 0, 0) := by decide +kernel
theorem c135_28 : zcod 135 28 = some (.aload_n 0, 1, 0, 0, 0, 0) := by decide +kernel
theorem c135_29 : zcod 135 29 = some (.getfield 36, 3, 9, 10, 806, 0) := by decide +kernel
theorem c135_32 : zcod 135 32 = some (.iload_n 1, 1, 0, 0, 0, 0) := by decide +kernel
theorem c135_33 : zcod 135 33 = some (.iaload, 1, 0, 0, 0, 0) := by decide +kernel
theorem c135_34 : zcod 135 34 = some (.iadd, 1, 0, 0, 0, 0) := by decide +kernel
theorem c135_35 : zcod 135 35 = some (.ireturn, 1, 0, 0, 0, 0) := by decide +kernel
set_option maxRecDepth 100000 in
theorem b135_0 (l0 : Option Nat) (l1 : Int32) (h : zH) : zev 135 0 [some (vR l0), some (vI l1)] [] h = (zgR h l0 9 11 fun x1 => (zaI h x1 l1 fun x2 => (if x2 = 0 then some (some (vI 0), h) else (zgR h l0 9 11 fun x3 => (zaI h x3 l1 fun x4 => (zgR h l0 9 9 fun x5 => (zaI h x5 l1 fun x6 => (zgR h l0 9 10 fun x7 => (zaI h x7 l1 fun x8 => some (some (vI (((x4 - 1) * x6) + x8)), h)))))))))) := by
  refine (zv_an c135_0 rfl).trans ?_
  refine (zv_gR c135_1 zf9_11).trans (zgR_c fun x1 => ?_)
  refine (zv_in c135_4 rfl).trans ?_
  refine (zv_aI c135_5).trans (zaI_c fun x2 => ?_)
  refine (zv_ifne c135_6).trans (zif_c ?_ ?_)
  · refine (zv_k (v := 0) c135_9 (by decide)).trans ?_
    refine (zv_goto c135_10).trans ?_
    exact zv_ir c135_35 zrt_135
  · refine (zv_an c135_13 rfl).trans ?_
    refine (zv_gR c135_14 zf9_11).trans (zgR_c fun x3 => ?_)
    refine (zv_in c135_17 rfl).trans ?_
    refine (zv_aI c135_18).trans (zaI_c fun x4 => ?_)
    refine (zv_k (v := 1) c135_19 (by decide)).trans ?_
    refine (zv_isub c135_20).trans ?_
    refine (zv_an c135_21 rfl).trans ?_
    refine (zv_gR c135_22 zf9_9).trans (zgR_c fun x5 => ?_)
    refine (zv_in c135_25 rfl).trans ?_
    refine (zv_aI c135_26).trans (zaI_c fun x6 => ?_)
    refine (zv_imul c135_27).trans ?_
    refine (zv_an c135_28 rfl).trans ?_
    refine (zv_gR c135_29 zf9_10).trans (zgR_c fun x7 => ?_)
    refine (zv_in c135_32 rfl).trans ?_
    refine (zv_aI c135_33).trans (zaI_c fun x8 => ?_)
    refine (zv_iadd c135_34).trans ?_
    exact zv_ir c135_35 zrt_135
theorem e135 (l0 : Option Nat) (l1 : Int32) (h : zH) : zcall 135 [vR l0, vI l1] h = (zgR h l0 9 11 fun x1 => (zaI h x1 l1 fun x2 => (if x2 = 0 then some (some (vI 0), h) else (zgR h l0 9 11 fun x3 => (zaI h x3 l1 fun x4 => (zgR h l0 9 9 fun x5 => (zaI h x5 l1 fun x6 => (zgR h l0 9 10 fun x7 => (zaI h x7 l1 fun x8 => some (some (vI (((x4 - 1) * x6) + x8)), h)))))))))) := by
  refine Eq.trans ?_ (b135_0 l0 l1 h)
  unfold zcall zent
  rw [zL_135]
  rfl
theorem c136_0 : zcod 136 0 = some (.iload_n 1, 1, 0, 0, 0, 0) := by decide +kernel
theorem c136_1 : zcod 136 1 = some (.i2l, 1, 0, 0, 0, 0) := by decide +kernel
theorem c136_2 : zcod 136 2 = some (.lconst 0, 1, 0, 0, 0, 0) := by decide +kernel
theorem c136_3 : zcod 136 3 = some (.aload_n 0, 1, 0, 0, 0, 0) := by decide +kernel
theorem c136_4 : zcod 136 4 = some (.getfield 145, 3, 9, 16, 812, 0) := by decide +kernel
theorem c136_7 : zcod 136 7 = some (.iconst 1, 1, 0, 0, 0, 0) := by decide +kernel
theorem c136_8 : zcod 136 8 = some (.isub, 1, 0, 0, 0, 0) := by decide +kernel
theorem c136_9 : zcod 136 9 = some (.i2l, 1, 0, 0, 0, 0) := by decide +kernel
theorem c136_10 : zcod 136 10 = some (.invokestatic 92, 3, 113, 3, 925, 0) := by decide +kernel
theorem c136_13 : zcod 136 13 = some (.ifCond .ne 7, 3, 20, 0, 0, 0) := by decide +kernel
theorem c136_16 : zcod 136 16 = some (.sipush (-1001), 3, 0, 0, 0, 0) := by decide +kernel
theorem c136_19 : zcod 136 19 = some (.ireturn, 1, 0, 0, 0, 0) := by decide +kernel
theorem c136_20 : zcod 136 20 = some (.aload_n 0, 1, 0, 0, 0, 0) := by decide +kernel
theorem c136_21 : zcod 136 21 = some (.getfield 54, 3, 9, 17, 813, 0) := by decide +kernel
theorem c136_24 : zcod 136 24 = some (.iload_n 1, 1, 0, 0, 0, 0) := by decide +kernel
theorem c136_25 : zcod 136 25 = some (.baload, 1, 0, 0, 0, 0) := by decide +kernel
theorem c136_26 : zcod 136 26 = some (.ifCond .eq 7, 3, 33, 0, 0, 0) := by decide +kernel
theorem c136_29 : zcod 136 29 = some (.sipush (-1003), 3, 0, 0, 0, 0) := by decide +kernel
theorem c136_32 : zcod 136 32 = some (.ireturn, 1, 0, 0, 0, 0) := by decide +kernel
theorem c136_33 : zcod 136 33 = some (.aload_n 0, 1, 0, 0, 0, 0) := by decide +kernel
theorem c136_34 : zcod 136 34 = some (.getfield 54, 3, 9, 17, 813, 0) := by decide +kernel
theorem c136_37 : zcod 136 37 = some (.iload_n 1, 1, 0, 0, 0, 0) := by decide +kernel
theorem c136_38 : zcod 136 38 = some (.iconst 1, 1, 0, 0, 0, 0) := by decide +kernel
theorem c136_39 : zcod 136 39 = some (.bastore, 1, 0, 0, 0, 0) := by decide +kernel
theorem c136_40 : zcod 136 40 = some (.iconst 0, 1, 0, 0, 0, 0) := by decide +kernel
theorem c136_41 : zcod 136 41 = some (.istore_n 2, 1, 0, 0, 0, 0) := by decide +kernel
theorem c136_42 : zcod 136 42 = some (.iconst 0, 1, 0, 0, 0, 0) := by decide +kernel
theorem c136_43 : zcod 136 43 = some (.istore_n 3, 1, 0, 0, 0, 0) := by decide +kernel
theorem c136_44 : zcod 136 44 = some (.iload_n 3, 1, 0, 0, 0, 0) := by decide +kernel
theorem c136_45 : zcod 136 45 = some (.sipush 320, 3, 0, 0, 0, 0) := by decide +kernel
theorem c136_48 : zcod 136 48 = some (.if_icmp .ge 144, 3, 192, 0, 0, 0) := by decide +kernel
theorem c136_51 : zcod 136 51 = some (.aload_n 0, 1, 0, 0, 0, 0) := by decide +kernel
theorem c136_52 : zcod 136 52 = some (.getfield 17, 3, 9, 3, 799, 0) := by decide +kernel
theorem c136_55 : zcod 136 55 = some (.iload_n 3, 1, 0, 0, 0, 0) := by decide +kernel
theorem c136_56 : zcod 136 56 = some (.iaload, 1, 0, 0, 0, 0) := by decide +kernel
theorem c136_57 : zcod 136 57 = some (.bipush 100, 2, 0, 0, 0, 0) := by decide +kernel
theorem c136_59 : zcod 136 59 = some (.iload_n 1, 1, 0, 0, 0, 0) := by decide +kernel
theorem c136_60 : zcod 136 60 = some (.iadd, 1, 0, 0, 0, 0) := by decide +kernel
theorem c136_61 : zcod 136 61 = some (.if_icmp .ne 125, 3, 186, 0, 0, 0) := by decide +kernel
theorem c136_64 : zcod 136 64 = some (.bipush 40, 2, 0, 0, 0, 0) := by decide +kernel
theorem c136_66 : zcod 136 66 = some (.istore 4, 2, 0, 0, 0, 0) := by decide +kernel
theorem c136_68 : zcod 136 68 = some (.bipush 40, 2, 0, 0, 0, 0) := by decide +kernel
theorem c136_70 : zcod 136 70 = some (.istore 5, 2, 0, 0, 0, 0) := by decide +kernel
theorem c136_72 : zcod 136 72 = some (.iconst 0, 1, 0, 0, 0, 0) := by decide +kernel
theorem c136_73 : zcod 136 73 = some (.istore 6, 2, 0, 0, 0, 0) := by decide +kernel
theorem c136_75 : zcod 136 75 = some (.iload 6, 2, 0, 0, 0, 0) := by decide +kernel
theorem c136_77 : zcod 136 77 = some (.iconst 4, 1, 0, 0, 0, 0) := by decide +kernel
theorem c136_78 : zcod 136 78 = some (.if_icmp .ge 64, 3, 142, 0, 0, 0) := by decide +kernel
theorem c136_81 : zcod 136 81 = some (.aload_n 0, 1, 0, 0, 0, 0) := by decide +kernel
theorem c136_82 : zcod 136 82 = some (.iload_n 3, 1, 0, 0, 0, 0) := by decide +kernel
theorem c136_83 : zcod 136 83 = some (.iload 6, 2, 0, 0, 0, 0) := by decide +kernel
theorem c136_85 : zcod 136 85 = some (.invokevirtual 176, 3, 133, 2, 1005, 0) := by decide +kernel
theorem c136_88 : zcod 136 88 = some (.istore 7, 2, 0, 0, 0, 0) := by decide +kernel
theorem c136_90 : zcod 136 90 = some (.iload 7, 2, 0, 0, 0, 0) := by decide +kernel
theorem c136_92 : zcod 136 92 = some (.ifCond .lt 21, 3, 113, 0, 0, 0) := by decide +kernel
theorem c136_95 : zcod 136 95 = some (.iload 7, 2, 0, 0, 0, 0) := by decide +kernel
theorem c136_97 : zcod 136 97 = some (.iload 4, 2, 0, 0, 0, 0) := by decide +kernel
theorem c136_99 : zcod 136 99 = some (.if_icmp .ge 14, 3, 113, 0, 0, 0) := by decide +kernel
theorem c136_102 : zcod 136 102 = some (.iload 4, 2, 0, 0, 0, 0) := by decide +kernel
theorem c136_104 : zcod 136 104 = some (.istore 5, 2, 0, 0, 0, 0) := by decide +kernel
theorem c136_106 : zcod 136 106 = some (.iload 7, 2, 0, 0, 0, 0) := by decide +kernel
theorem c136_108 : zcod 136 108 = some (.istore 4, 2, 0, 0, 0, 0) := by decide +kernel
theorem c136_110 : zcod 136 110 = some (.goto 26, 3, 136, 0, 0, 0) := by decide +kernel
theorem c136_113 : zcod 136 113 = some (.iload 7, 2, 0, 0, 0, 0) := by decide +kernel
theorem c136_115 : zcod 136 115 = some (.ifCond .lt 21, 3, 136, 0, 0, 0) := by decide +kernel
theorem c136_118 : zcod 136 118 = some (.iload 7, 2, 0, 0, 0, 0) := by decide +kernel
theorem c136_120 : zcod 136 120 = some (.iload 4, 2, 0, 0, 0, 0) := by decide +kernel
theorem c136_122 : zcod 136 122 = some (.if_icmp .le 14, 3, 136, 0, 0, 0) := by decide +kernel
theorem c136_125 : zcod 136 125 = some (.iload 7, 2, 0, 0, 0, 0) := by decide +kernel
theorem c136_127 : zcod 136 127 = some (.iload 5, 2, 0, 0, 0, 0) := by decide +kernel
theorem c136_129 : zcod 136 129 = some (.if_icmp .ge 7, 3, 136, 0, 0, 0) := by decide +kernel
theorem c136_132 : zcod 136 132 = some (.iload 7, 2, 0, 0, 0, 0) := by decide +kernel
theorem c136_134 : zcod 136 134 = some (.istore 5, 2, 0, 0, 0, 0) := by decide +kernel
theorem c136_136 : zcod 136 136 = some (.iinc 6 1, 3, 0, 0, 0, 0) := by decide +kernel
theorem c136_139 : zcod 136 139 = some (.goto (-64), 3, 75, 0, 0, 0) := by decide +kernel
theorem c136_142 : zcod 136 142 = some (.iload 4, 2, 0, 0, 0, 0) := by decide +kernel
theorem c136_144 : zcod 136 144 = some (.bipush 40, 2, 0, 0, 0, 0) := by decide +kernel
theorem c136_146 : zcod 136 146 = some (.if_icmp .ge 40, 3, 186, 0, 0, 0) := by decide +kernel
theorem c136_149 : zcod 136 149 = some (.aload_n 0, 1, 0, 0, 0, 0) := by decide +kernel
theorem c136_150 : zcod 136 150 = some (.getfield 23, 3, 9, 6, 802, 0) := by decide +kernel
theorem c136_153 : zcod 136 153 = some (.iload 4, 2, 0, 0, 0, 0) := by decide +kernel
theorem c136_155 : zcod 136 155 = some (.dup2, 1, 0, 0, 0, 0) := by decide +kernel
theorem c136_156 : zcod 136 156 = some (.iaload, 1, 0, 0, 0, 0) := by decide +kernel
theorem c136_157 : zcod 136 157 = some (.iconst 1, 1, 0, 0, 0, 0) := by decide +kernel
theorem c136_158 : zcod 136 158 = some (.iadd, 1, 0, 0, 0, 0) := by decide +kernel
theorem c136_159 : zcod 136 159 = some (.iastore, 1, 0, 0, 0, 0) := by decide +kernel
theorem c136_160 : zcod 136 160 = some (.aload_n 0, 1, 0, 0, 0, 0) := by decide +kernel
theorem c136_161 : zcod 136 161 = some (.getfield 23, 3, 9, 6, 802, 0) := by decide +kernel
theorem c136_164 : zcod 136 164 = some (.iload 5, 2, 0, 0, 0, 0) := by decide +kernel
theorem c136_166 : zcod 136 166 = some (.bipush 40, 2, 0, 0, 0, 0) := by decide +kernel
theorem c136_168 : zcod 136 168 = some (.if_icmp .ge 8, 3, 176, 0, 0, 0) := by decide +kernel
theorem c136_171 : zcod 136 171 = some (.iload 5, 2, 0, 0, 0, 0) := by decide +kernel
theorem c136_173 : zcod 136 173 = some (.goto 5, 3, 178, 0, 0, 0) := by decide +kernel
theorem c136_176 : zcod 136 176 = some (.iload 4, 2, 0, 0, 0, 0) := by decide +kernel
theorem c136_178 : zcod 136 178 = some (.dup2, 1, 0, 0, 0, 0) := by decide +kernel
theorem c136_179 : zcod 136 179 = some (.iaload, 1, 0, 0, 0, 0) := by decide +kernel
theorem c136_180 : zcod 136 180 = some (.iconst 1, 1, 0, 0, 0, 0) := by decide +kernel
theorem c136_181 : zcod 136 181 = some (.iadd, 1, 0, 0, 0, 0) := by decide +kernel
theorem c136_182 : zcod 136 182 = some (.iastore, 1, 0, 0, 0, 0) := by decide +kernel
theorem c136_183 : zcod 136 183 = some (.iinc 2 1, 3, 0, 0, 0, 0) := by decide +kernel
theorem c136_186 : zcod 136 186 = some (.iinc 3 1, 3, 0, 0, 0, 0) := by decide +kernel
theorem c136_189 : zcod 136 189 = some (.goto (-145), 3, 44, 0, 0, 0) := by decide +kernel
theorem c136_192 : zcod 136 192 = some (.iload_n 2, 1, 0, 0, 0, 0) := by decide +kernel
theorem c136_193 : zcod 136 193 = some (.ireturn, 1, 0, 0, 0, 0) := by decide +kernel
set_option maxRecDepth 100000 in
theorem b136_0 (l0 : Option Nat) (l1 : Int32) (h : zH) : zev 136 0 [some (vR l0), some (vI l1), none, none, none, none, none, none] [] h = (zgI h l0 9 16 fun x1 => (zcI 113 [vL (Int32.toInt64 l1), vL 0, vL (Int32.toInt64 (x1 - 1))] h fun x3 h2 => (if x3 = 0 then some (some (vI (-1001)), h2) else (zgR h2 l0 9 17 fun x4 => (zaB h2 x4 l1 fun x5 => (if x5 = 0 then (zgR h2 l0 9 17 fun x6 => (ztB h2 x6 l1 1 fun h7 => zev 136 44 [some (vR l0), some (vI l1), some (vI 0), some (vI 0), none, none, none, none] [] h7)) else some (some (vI (-1003)), h2))))))) := by
  refine (zv_in c136_0 rfl).trans ?_
  refine (zv_i2l c136_1).trans ?_
  refine (zv_lc (v := 0) c136_2 (by decide)).trans ?_
  refine (zv_an c136_3 rfl).trans ?_
  refine (zv_gI c136_4 zg9_16).trans (zgI_c fun x1 => ?_)
  refine (zv_k (v := 1) c136_7 (by decide)).trans ?_
  refine (zv_isub c136_8).trans ?_
  refine (zv_i2l c136_9).trans ?_
  refine (zv_stI c136_10 (by decide) rfl zL_113 (Or.inr zrt_113) rfl rfl).trans (zcI_c fun x3 h2 => ?_)
  refine (zv_ifne c136_13).trans (zif_c ?_ ?_)
  · refine (zv_si (v := -1001) c136_16 (by decide)).trans ?_
    exact zv_ir c136_19 zrt_136
  · refine (zv_an c136_20 rfl).trans ?_
    refine (zv_gR c136_21 zf9_17).trans (zgR_c fun x4 => ?_)
    refine (zv_in c136_24 rfl).trans ?_
    refine (zv_aB c136_25).trans (zaB_c fun x5 => ?_)
    refine (zv_ifeq c136_26).trans (zif_c ?_ ?_)
    · refine (zv_an c136_33 rfl).trans ?_
      refine (zv_gR c136_34 zf9_17).trans (zgR_c fun x6 => ?_)
      refine (zv_in c136_37 rfl).trans ?_
      refine (zv_k (v := 1) c136_38 (by decide)).trans ?_
      refine (zv_tB c136_39).trans (ztB_c fun h7 => ?_)
      refine (zv_k (v := 0) c136_40 (by decide)).trans ?_
      refine (zv_it c136_41 rfl).trans ?_
      refine (zv_k (v := 0) c136_42 (by decide)).trans ?_
      refine (zv_it c136_43 rfl).trans ?_
      rfl
    · refine (zv_si (v := -1003) c136_29 (by decide)).trans ?_
      exact zv_ir c136_32 zrt_136
theorem e136 (l0 : Option Nat) (l1 : Int32) (h : zH) : zcall 136 [vR l0, vI l1] h = (zgI h l0 9 16 fun x1 => (zcI 113 [vL (Int32.toInt64 l1), vL 0, vL (Int32.toInt64 (x1 - 1))] h fun x3 h2 => (if x3 = 0 then some (some (vI (-1001)), h2) else (zgR h2 l0 9 17 fun x4 => (zaB h2 x4 l1 fun x5 => (if x5 = 0 then (zgR h2 l0 9 17 fun x6 => (ztB h2 x6 l1 1 fun h7 => zev 136 44 [some (vR l0), some (vI l1), some (vI 0), some (vI 0), none, none, none, none] [] h7)) else some (some (vI (-1003)), h2))))))) := by
  refine Eq.trans ?_ (b136_0 l0 l1 h)
  unfold zcall zent
  rw [zL_136]
  rfl
set_option maxRecDepth 100000 in
theorem b136_44 (l0 : Option Nat) (l1 : Int32) (l2 : Int32) (l3 : Int32) (l4 : Option zV) (l5 : Option zV) (l6 : Option zV) (l7 : Option zV) (h : zH) : zev 136 44 [some (vR l0), some (vI l1), some (vI l2), some (vI l3), l4, l5, l6, l7] [] h = (if l3 < 320 then (zgR h l0 9 3 fun x1 => (zaI h x1 l3 fun x2 => (if x2 = (100 + l1) then zev 136 75 [some (vR l0), some (vI l1), some (vI l2), some (vI l3), some (vI 40), some (vI 40), some (vI 0), l7] [] h else zev 136 44 [some (vR l0), some (vI l1), some (vI l2), some (vI (l3 + 1)), l4, l5, l6, l7] [] h))) else some (some (vI l2), h)) := by
  refine (zv_in c136_44 rfl).trans ?_
  refine (zv_si (v := 320) c136_45 (by decide)).trans ?_
  refine (zv_icge c136_48).trans (zif_c ?_ ?_)
  · refine (zv_an c136_51 rfl).trans ?_
    refine (zv_gR c136_52 zf9_3).trans (zgR_c fun x1 => ?_)
    refine (zv_in c136_55 rfl).trans ?_
    refine (zv_aI c136_56).trans (zaI_c fun x2 => ?_)
    refine (zv_bi (v := 100) c136_57 (by decide)).trans ?_
    refine (zv_in c136_59 rfl).trans ?_
    refine (zv_iadd c136_60).trans ?_
    refine (zv_icne c136_61).trans (zif_c ?_ ?_)
    · refine (zv_bi (v := 40) c136_64 (by decide)).trans ?_
      refine (zv_is c136_66 rfl).trans ?_
      refine (zv_bi (v := 40) c136_68 (by decide)).trans ?_
      refine (zv_is c136_70 rfl).trans ?_
      refine (zv_k (v := 0) c136_72 (by decide)).trans ?_
      refine (zv_is c136_73 rfl).trans ?_
      rfl
    · refine (zv_inc (y := 1) c136_186 rfl (by decide) rfl).trans ?_
      refine (zv_goto c136_189).trans ?_
      rfl
  · refine (zv_in c136_192 rfl).trans ?_
    exact zv_ir c136_193 zrt_136
set_option maxRecDepth 100000 in
theorem b136_75 (l0 : Option Nat) (l1 : Int32) (l2 : Int32) (l3 : Int32) (l4 : Int32) (l5 : Int32) (l6 : Int32) (l7 : Option zV) (h : zH) : zev 136 75 [some (vR l0), some (vI l1), some (vI l2), some (vI l3), some (vI l4), some (vI l5), some (vI l6), l7] [] h = (if l6 < 4 then (zvr h l0 9 (zcI 133 [vR l0, vI l3, vI l6] h fun x2 h1 => (if x2 < 0 then zev 136 113 [some (vR l0), some (vI l1), some (vI l2), some (vI l3), some (vI l4), some (vI l5), some (vI l6), some (vI x2)] [] h1 else (if x2 < l4 then zev 136 75 [some (vR l0), some (vI l1), some (vI l2), some (vI l3), some (vI x2), some (vI l4), some (vI (l6 + 1)), some (vI x2)] [] h1 else zev 136 113 [some (vR l0), some (vI l1), some (vI l2), some (vI l3), some (vI l4), some (vI l5), some (vI l6), some (vI x2)] [] h1)))) else (if l4 < 40 then (zgR h l0 9 6 fun x3 => (zaI h x3 l4 fun x4 => (ztI h x3 l4 (x4 + 1) fun h5 => (zgR h5 l0 9 6 fun x6 => (if l5 < 40 then (zaI h5 x6 l5 fun x7 => (ztI h5 x6 l5 (x7 + 1) fun h8 => zev 136 44 [some (vR l0), some (vI l1), some (vI (l2 + 1)), some (vI (l3 + 1)), some (vI l4), some (vI l5), some (vI l6), l7] [] h8)) else (zaI h5 x6 l4 fun x9 => (ztI h5 x6 l4 (x9 + 1) fun h10 => zev 136 44 [some (vR l0), some (vI l1), some (vI (l2 + 1)), some (vI (l3 + 1)), some (vI l4), some (vI l5), some (vI l6), l7] [] h10))))))) else zev 136 44 [some (vR l0), some (vI l1), some (vI l2), some (vI (l3 + 1)), some (vI l4), some (vI l5), some (vI l6), l7] [] h)) := by
  refine (zv_il c136_75 rfl).trans ?_
  refine (zv_k (v := 4) c136_77 (by decide)).trans ?_
  refine (zv_icge c136_78).trans (zif_c ?_ ?_)
  · refine (zv_an c136_81 rfl).trans ?_
    refine (zv_in c136_82 rfl).trans ?_
    refine (zv_il c136_83 rfl).trans ?_
    refine (zv_viI c136_85 zcn_133 rfl zL_133 (Or.inl zrt_133) rfl rfl).trans (zvr_c (zcI_c fun x2 h1 => ?_))
    refine (zv_is c136_88 rfl).trans ?_
    refine (zv_il c136_90 rfl).trans ?_
    refine (zv_iflt c136_92).trans (zif_c ?_ ?_)
    · rfl
    · refine (zv_il c136_95 rfl).trans ?_
      refine (zv_il c136_97 rfl).trans ?_
      refine (zv_icge c136_99).trans (zif_c ?_ ?_)
      · refine (zv_il c136_102 rfl).trans ?_
        refine (zv_is c136_104 rfl).trans ?_
        refine (zv_il c136_106 rfl).trans ?_
        refine (zv_is c136_108 rfl).trans ?_
        refine (zv_goto c136_110).trans ?_
        refine (zv_inc (y := 1) c136_136 rfl (by decide) rfl).trans ?_
        refine (zv_goto c136_139).trans ?_
        rfl
      · rfl
  · refine (zv_il c136_142 rfl).trans ?_
    refine (zv_bi (v := 40) c136_144 (by decide)).trans ?_
    refine (zv_icge c136_146).trans (zif_c ?_ ?_)
    · refine (zv_an c136_149 rfl).trans ?_
      refine (zv_gR c136_150 zf9_6).trans (zgR_c fun x3 => ?_)
      refine (zv_il c136_153 rfl).trans ?_
      refine (zv_dup2 c136_155 rfl rfl).trans ?_
      refine (zv_aI c136_156).trans (zaI_c fun x4 => ?_)
      refine (zv_k (v := 1) c136_157 (by decide)).trans ?_
      refine (zv_iadd c136_158).trans ?_
      refine (zv_tI c136_159).trans (ztI_c fun h5 => ?_)
      refine (zv_an c136_160 rfl).trans ?_
      refine (zv_gR c136_161 zf9_6).trans (zgR_c fun x6 => ?_)
      refine (zv_il c136_164 rfl).trans ?_
      refine (zv_bi (v := 40) c136_166 (by decide)).trans ?_
      refine (zv_icge c136_168).trans (zif_c ?_ ?_)
      · refine (zv_il c136_171 rfl).trans ?_
        refine (zv_goto c136_173).trans ?_
        refine (zv_dup2 c136_178 rfl rfl).trans ?_
        refine (zv_aI c136_179).trans (zaI_c fun x7 => ?_)
        refine (zv_k (v := 1) c136_180 (by decide)).trans ?_
        refine (zv_iadd c136_181).trans ?_
        refine (zv_tI c136_182).trans (ztI_c fun h8 => ?_)
        refine (zv_inc (y := 1) c136_183 rfl (by decide) rfl).trans ?_
        refine (zv_inc (y := 1) c136_186 rfl (by decide) rfl).trans ?_
        refine (zv_goto c136_189).trans ?_
        rfl
      · refine (zv_il c136_176 rfl).trans ?_
        refine (zv_dup2 c136_178 rfl rfl).trans ?_
        refine (zv_aI c136_179).trans (zaI_c fun x9 => ?_)
        refine (zv_k (v := 1) c136_180 (by decide)).trans ?_
        refine (zv_iadd c136_181).trans ?_
        refine (zv_tI c136_182).trans (ztI_c fun h10 => ?_)
        refine (zv_inc (y := 1) c136_183 rfl (by decide) rfl).trans ?_
        refine (zv_inc (y := 1) c136_186 rfl (by decide) rfl).trans ?_
        refine (zv_goto c136_189).trans ?_
        rfl
    · refine (zv_inc (y := 1) c136_186 rfl (by decide) rfl).trans ?_
      refine (zv_goto c136_189).trans ?_
      rfl
set_option maxRecDepth 100000 in
theorem b136_113 (l0 : Option Nat) (l1 : Int32) (l2 : Int32) (l3 : Int32) (l4 : Int32) (l5 : Int32) (l6 : Int32) (l7 : Int32) (h : zH) : zev 136 113 [some (vR l0), some (vI l1), some (vI l2), some (vI l3), some (vI l4), some (vI l5), some (vI l6), some (vI l7)] [] h = (if l7 < 0 then zev 136 75 [some (vR l0), some (vI l1), some (vI l2), some (vI l3), some (vI l4), some (vI l5), some (vI (l6 + 1)), some (vI l7)] [] h else (if l4 < l7 then (if l7 < l5 then zev 136 75 [some (vR l0), some (vI l1), some (vI l2), some (vI l3), some (vI l4), some (vI l7), some (vI (l6 + 1)), some (vI l7)] [] h else zev 136 75 [some (vR l0), some (vI l1), some (vI l2), some (vI l3), some (vI l4), some (vI l5), some (vI (l6 + 1)), some (vI l7)] [] h) else zev 136 75 [some (vR l0), some (vI l1), some (vI l2), some (vI l3), some (vI l4), some (vI l5), some (vI (l6 + 1)), some (vI l7)] [] h)) := by
  refine (zv_il c136_113 rfl).trans ?_
  refine (zv_iflt c136_115).trans (zif_c ?_ ?_)
  · refine (zv_inc (y := 1) c136_136 rfl (by decide) rfl).trans ?_
    refine (zv_goto c136_139).trans ?_
    rfl
  · refine (zv_il c136_118 rfl).trans ?_
    refine (zv_il c136_120 rfl).trans ?_
    refine (zv_icle c136_122).trans (zif_c ?_ ?_)
    · refine (zv_il c136_125 rfl).trans ?_
      refine (zv_il c136_127 rfl).trans ?_
      refine (zv_icge c136_129).trans (zif_c ?_ ?_)
      · refine (zv_il c136_132 rfl).trans ?_
        refine (zv_is c136_134 rfl).trans ?_
        refine (zv_inc (y := 1) c136_136 rfl (by decide) rfl).trans ?_
        refine (zv_goto c136_139).trans ?_
        rfl
      · refine (zv_inc (y := 1) c136_136 rfl (by decide) rfl).trans ?_
        refine (zv_goto c136_139).trans ?_
        rfl
    · refine (zv_inc (y := 1) c136_136 rfl (by decide) rfl).trans ?_
      refine (zv_goto c136_139).trans ?_
      rfl
theorem c137_0 : zcod 137 0 = some (.iload_n 1, 1, 0, 0, 0, 0) := by decide +kernel
theorem c137_1 : zcod 137 1 = some (.iload_n 2, 1, 0, 0, 0, 0) := by decide +kernel
theorem c137_2 : zcod 137 2 = some (.invokestatic 159, 3, 127, 2, 981, 0) := by decide +kernel
theorem c137_5 : zcod 137 5 = some (.ifCond .ne 7, 3, 12, 0, 0, 0) := by decide +kernel
theorem c137_8 : zcod 137 8 = some (.sipush (-1002), 3, 0, 0, 0, 0) := by decide +kernel
theorem c137_11 : zcod 137 11 = some (.ireturn, 1, 0, 0, 0, 0) := by decide +kernel
theorem c137_12 : zcod 137 12 = some (.aload_n 0, 1, 0, 0, 0, 0) := by decide +kernel
theorem c137_13 : zcod 137 13 = some (.getfield 170, 3, 9, 25, 821, 0) := by decide +kernel
theorem c137_16 : zcod 137 16 = some (.istore_n 3, 1, 0, 0, 0, 0) := by decide +kernel
theorem c137_17 : zcod 137 17 = some (.aload_n 0, 1, 0, 0, 0, 0) := by decide +kernel
theorem c137_18 : zcod 137 18 = some (.bipush 20, 2, 0, 0, 0, 0) := by decide +kernel
theorem c137_20 : zcod 137 20 = some (.iload_n 2, 1, 0, 0, 0, 0) := by decide +kernel
theorem c137_21 : zcod 137 21 = some (.imul, 1, 0, 0, 0, 0) := by decide +kernel
theorem c137_22 : zcod 137 22 = some (.iload_n 1, 1, 0, 0, 0, 0) := by decide +kernel
theorem c137_23 : zcod 137 23 = some (.iadd, 1, 0, 0, 0, 0) := by decide +kernel
theorem c137_24 : zcod 137 24 = some (.putfield 170, 3, 9, 25, 821, 0) := by decide +kernel
theorem c137_27 : zcod 137 27 = some (.iload_n 3, 1, 0, 0, 0, 0) := by decide +kernel
theorem c137_28 : zcod 137 28 = some (.ireturn, 1, 0, 0, 0, 0) := by decide +kernel
set_option maxRecDepth 100000 in
theorem b137_0 (l0 : Option Nat) (l1 : Int32) (l2 : Int32) (h : zH) : zev 137 0 [some (vR l0), some (vI l1), some (vI l2), none] [] h = (zcI 127 [vI l1, vI l2] h fun x2 h1 => (if x2 = 0 then some (some (vI (-1002)), h1) else (zgI h1 l0 9 25 fun x3 => (zpI h1 l0 9 25 ((20 * l2) + l1) fun h4 => some (some (vI x3), h4))))) := by
  refine (zv_in c137_0 rfl).trans ?_
  refine (zv_in c137_1 rfl).trans ?_
  refine (zv_stI c137_2 (by decide) rfl zL_127 (Or.inr zrt_127) rfl rfl).trans (zcI_c fun x2 h1 => ?_)
  refine (zv_ifne c137_5).trans (zif_c ?_ ?_)
  · refine (zv_si (v := -1002) c137_8 (by decide)).trans ?_
    exact zv_ir c137_11 zrt_137
  · refine (zv_an c137_12 rfl).trans ?_
    refine (zv_gI c137_13 zg9_25).trans (zgI_c fun x3 => ?_)
    refine (zv_it c137_16 rfl).trans ?_
    refine (zv_an c137_17 rfl).trans ?_
    refine (zv_bi (v := 20) c137_18 (by decide)).trans ?_
    refine (zv_in c137_20 rfl).trans ?_
    refine (zv_imul c137_21).trans ?_
    refine (zv_in c137_22 rfl).trans ?_
    refine (zv_iadd c137_23).trans ?_
    refine (zv_pI c137_24 zf9_25).trans (zpI_c fun h4 => ?_)
    refine (zv_in c137_27 rfl).trans ?_
    exact zv_ir c137_28 zrt_137
theorem e137 (l0 : Option Nat) (l1 : Int32) (l2 : Int32) (h : zH) : zcall 137 [vR l0, vI l1, vI l2] h = (zcI 127 [vI l1, vI l2] h fun x2 h1 => (if x2 = 0 then some (some (vI (-1002)), h1) else (zgI h1 l0 9 25 fun x3 => (zpI h1 l0 9 25 ((20 * l2) + l1) fun h4 => some (some (vI x3), h4))))) := by
  refine Eq.trans ?_ (b137_0 l0 l1 l2 h)
  unfold zcall zent
  rw [zL_137]
  rfl
theorem c138_0 : zcod 138 0 = some (.iload_n 1, 1, 0, 0, 0, 0) := by decide +kernel
theorem c138_1 : zcod 138 1 = some (.i2l, 1, 0, 0, 0, 0) := by decide +kernel
theorem c138_2 : zcod 138 2 = some (.lconst 0, 1, 0, 0, 0, 0) := by decide +kernel
theorem c138_3 : zcod 138 3 = some (.ldc2_w 191, 3, 0, 0, 1029, 1000000) := by decide +kernel
theorem c138_6 : zcod 138 6 = some (.invokestatic 92, 3, 113, 3, 925, 0) := by decide +kernel
theorem c138_9 : zcod 138 9 = some (.ifCond .ne 7, 3, 16, 0, 0, 0) := by decide +kernel
theorem c138_12 : zcod 138 12 = some (.sipush (-1002), 3, 0, 0, 0, 0) := by decide +kernel
theorem c138_15 : zcod 138 15 = some (.ireturn, 1, 0, 0, 0, 0) := by decide +kernel
theorem c138_16 : zcod 138 16 = some (.aload_n 0, 1, 0, 0, 0, 0) := by decide +kernel
theorem c138_17 : zcod 138 17 = some (.getfield 163, 3, 9, 18, 814, 0) := by decide +kernel
theorem c138_20 : zcod 138 20 = some (.bipush 20, 2, 0, 0, 0, 0) := by decide +kernel
theorem c138_22 : zcod 138 22 = some (.if_icmp .ne 7, 3, 29, 0, 0, 0) := by decide +kernel
theorem c138_25 : zcod 138 25 = some (.sipush (-1004), 3, 0, 0, 0, 0) := by decide +kernel
theorem c138_28 : zcod 138 28 = some (.ireturn, 1, 0, 0, 0, 0) := by decide +kernel
theorem c138_29 : zcod 138 29 = some (.aload_n 0, 1, 0, 0, 0, 0) := by decide +kernel
theorem c138_30 : zcod 138 30 = some (.getfield 57, 3, 9, 19, 815, 0) := by decide +kernel
theorem c138_33 : zcod 138 33 = some (.aload_n 0, 1, 0, 0, 0, 0) := by decide +kernel
theorem c138_34 : zcod 138 34 = some (.getfield 163, 3, 9, 18, 814, 0) := by decide +kernel
theorem c138_37 : zcod 138 37 = some (.iload_n 1, 1, 0, 0, 0, 0) := by decide +kernel
theorem c138_38 : zcod 138 38 = some (.iastore, 1, 0, 0, 0, 0) := by decide +kernel
theorem c138_39 : zcod 138 39 = some (.aload_n 0, 1, 0, 0, 0, 0) := by decide +kernel
theorem c138_40 : zcod 138 40 = some (.getfield 60, 3, 9, 20, 816, 0) := by decide +kernel
theorem c138_43 : zcod 138 43 = some (.aload_n 0, 1, 0, 0, 0, 0) := by decide +kernel
theorem c138_44 : zcod 138 44 = some (.getfield 163, 3, 9, 18, 814, 0) := by decide +kernel
theorem c138_47 : zcod 138 47 = some (.iconst (-1), 1, 0, 0, 0, 0) := by decide +kernel
theorem c138_48 : zcod 138 48 = some (.iastore, 1, 0, 0, 0, 0) := by decide +kernel
theorem c138_49 : zcod 138 49 = some (.aload_n 0, 1, 0, 0, 0, 0) := by decide +kernel
theorem c138_50 : zcod 138 50 = some (.dup, 1, 0, 0, 0, 0) := by decide +kernel
theorem c138_51 : zcod 138 51 = some (.getfield 163, 3, 9, 18, 814, 0) := by decide +kernel
theorem c138_54 : zcod 138 54 = some (.iconst 1, 1, 0, 0, 0, 0) := by decide +kernel
theorem c138_55 : zcod 138 55 = some (.iadd, 1, 0, 0, 0, 0) := by decide +kernel
theorem c138_56 : zcod 138 56 = some (.putfield 163, 3, 9, 18, 814, 0) := by decide +kernel
theorem c138_59 : zcod 138 59 = some (.aload_n 0, 1, 0, 0, 0, 0) := by decide +kernel
theorem c138_60 : zcod 138 60 = some (.getfield 163, 3, 9, 18, 814, 0) := by decide +kernel
theorem c138_63 : zcod 138 63 = some (.iconst 1, 1, 0, 0, 0, 0) := by decide +kernel
theorem c138_64 : zcod 138 64 = some (.isub, 1, 0, 0, 0, 0) := by decide +kernel
theorem c138_65 : zcod 138 65 = some (.ireturn, 1, 0, 0, 0, 0) := by decide +kernel
set_option maxRecDepth 100000 in
theorem b138_0 (l0 : Option Nat) (l1 : Int32) (h : zH) : zev 138 0 [some (vR l0), some (vI l1)] [] h = (zcI 113 [vL (Int32.toInt64 l1), vL 0, vL 1000000] h fun x2 h1 => (if x2 = 0 then some (some (vI (-1002)), h1) else (zgI h1 l0 9 18 fun x3 => (if x3 = 20 then some (some (vI (-1004)), h1) else (zgR h1 l0 9 19 fun x4 => (zgI h1 l0 9 18 fun x5 => (ztI h1 x4 x5 l1 fun h6 => (zgR h6 l0 9 20 fun x7 => (zgI h6 l0 9 18 fun x8 => (ztI h6 x7 x8 (-1) fun h9 => (zgI h9 l0 9 18 fun x10 => (zpI h9 l0 9 18 (x10 + 1) fun h11 => (zgI h11 l0 9 18 fun x12 => some (some (vI (x12 - 1)), h11)))))))))))))) := by
  refine (zv_in c138_0 rfl).trans ?_
  refine (zv_i2l c138_1).trans ?_
  refine (zv_lc (v := 0) c138_2 (by decide)).trans ?_
  refine (zv_ld2 (v := 1000000) c138_3 (by decide)).trans ?_
  refine (zv_stI c138_6 (by decide) rfl zL_113 (Or.inr zrt_113) rfl rfl).trans (zcI_c fun x2 h1 => ?_)
  refine (zv_ifne c138_9).trans (zif_c ?_ ?_)
  · refine (zv_si (v := -1002) c138_12 (by decide)).trans ?_
    exact zv_ir c138_15 zrt_138
  · refine (zv_an c138_16 rfl).trans ?_
    refine (zv_gI c138_17 zg9_18).trans (zgI_c fun x3 => ?_)
    refine (zv_bi (v := 20) c138_20 (by decide)).trans ?_
    refine (zv_icne c138_22).trans (zif_c ?_ ?_)
    · refine (zv_si (v := -1004) c138_25 (by decide)).trans ?_
      exact zv_ir c138_28 zrt_138
    · refine (zv_an c138_29 rfl).trans ?_
      refine (zv_gR c138_30 zf9_19).trans (zgR_c fun x4 => ?_)
      refine (zv_an c138_33 rfl).trans ?_
      refine (zv_gI c138_34 zg9_18).trans (zgI_c fun x5 => ?_)
      refine (zv_in c138_37 rfl).trans ?_
      refine (zv_tI c138_38).trans (ztI_c fun h6 => ?_)
      refine (zv_an c138_39 rfl).trans ?_
      refine (zv_gR c138_40 zf9_20).trans (zgR_c fun x7 => ?_)
      refine (zv_an c138_43 rfl).trans ?_
      refine (zv_gI c138_44 zg9_18).trans (zgI_c fun x8 => ?_)
      refine (zv_k (v := -1) c138_47 (by decide)).trans ?_
      refine (zv_tI c138_48).trans (ztI_c fun h9 => ?_)
      refine (zv_an c138_49 rfl).trans ?_
      refine (zv_dup c138_50 rfl).trans ?_
      refine (zv_gI c138_51 zg9_18).trans (zgI_c fun x10 => ?_)
      refine (zv_k (v := 1) c138_54 (by decide)).trans ?_
      refine (zv_iadd c138_55).trans ?_
      refine (zv_pI c138_56 zf9_18).trans (zpI_c fun h11 => ?_)
      refine (zv_an c138_59 rfl).trans ?_
      refine (zv_gI c138_60 zg9_18).trans (zgI_c fun x12 => ?_)
      refine (zv_k (v := 1) c138_63 (by decide)).trans ?_
      refine (zv_isub c138_64).trans ?_
      exact zv_ir c138_65 zrt_138
theorem e138 (l0 : Option Nat) (l1 : Int32) (h : zH) : zcall 138 [vR l0, vI l1] h = (zcI 113 [vL (Int32.toInt64 l1), vL 0, vL 1000000] h fun x2 h1 => (if x2 = 0 then some (some (vI (-1002)), h1) else (zgI h1 l0 9 18 fun x3 => (if x3 = 20 then some (some (vI (-1004)), h1) else (zgR h1 l0 9 19 fun x4 => (zgI h1 l0 9 18 fun x5 => (ztI h1 x4 x5 l1 fun h6 => (zgR h6 l0 9 20 fun x7 => (zgI h6 l0 9 18 fun x8 => (ztI h6 x7 x8 (-1) fun h9 => (zgI h9 l0 9 18 fun x10 => (zpI h9 l0 9 18 (x10 + 1) fun h11 => (zgI h11 l0 9 18 fun x12 => some (some (vI (x12 - 1)), h11)))))))))))))) := by
  refine Eq.trans ?_ (b138_0 l0 l1 h)
  unfold zcall zent
  rw [zL_138]
  rfl
theorem c139_0 : zcod 139 0 = some (.aload_n 0, 1, 0, 0, 0, 0) := by decide +kernel
theorem c139_1 : zcod 139 1 = some (.iload_n 1, 1, 0, 0, 0, 0) := by decide +kernel
theorem c139_2 : zcod 139 2 = some (.invokevirtual 193, 3, 140, 1, 1034, 0) := by decide +kernel
theorem c139_5 : zcod 139 5 = some (.ifCond .ne 7, 3, 12, 0, 0, 0) := by decide +kernel
theorem c139_8 : zcod 139 8 = some (.sipush (-1001), 3, 0, 0, 0, 0) := by decide +kernel
theorem c139_11 : zcod 139 11 = some (.ireturn, 1, 0, 0, 0, 0) := by decide +kernel
theorem c139_12 : zcod 139 12 = some (.iload_n 2, 1, 0, 0, 0, 0) := by decide +kernel
theorem c139_13 : zcod 139 13 = some (.i2l, 1, 0, 0, 0, 0) := by decide +kernel
theorem c139_14 : zcod 139 14 = some (.ldc2_w 196, 3, 0, 0, 1038, (-1000000)) := by decide +kernel
theorem c139_17 : zcod 139 17 = some (.ldc2_w 191, 3, 0, 0, 1029, 1000000) := by decide +kernel
theorem c139_20 : zcod 139 20 = some (.invokestatic 92, 3, 113, 3, 925, 0) := by decide +kernel
theorem c139_23 : zcod 139 23 = some (.ifCond .eq 22, 3, 45, 0, 0, 0) := by decide +kernel
theorem c139_26 : zcod 139 26 = some (.aload_n 0, 1, 0, 0, 0, 0) := by decide +kernel
theorem c139_27 : zcod 139 27 = some (.getfield 57, 3, 9, 19, 815, 0) := by decide +kernel
theorem c139_30 : zcod 139 30 = some (.iload_n 1, 1, 0, 0, 0, 0) := by decide +kernel
theorem c139_31 : zcod 139 31 = some (.iaload, 1, 0, 0, 0, 0) := by decide +kernel
theorem c139_32 : zcod 139 32 = some (.iload_n 2, 1, 0, 0, 0, 0) := by decide +kernel
theorem c139_33 : zcod 139 33 = some (.iadd, 1, 0, 0, 0, 0) := by decide +kernel
theorem c139_34 : zcod 139 34 = some (.i2l, 1, 0, 0, 0, 0) := by decide +kernel
theorem c139_35 : zcod 139 35 = some (.lconst 0, 1, 0, 0, 0, 0) := by decide +kernel
theorem c139_36 : zcod 139 36 = some (.ldc2_w 191, 3, 0, 0, 1029, 1000000) := by decide +kernel
theorem c139_39 : zcod 139 39 = some (.invokestatic 92, 3, 113, 3, 925, 0) := by decide +kernel
theorem c139_42 : zcod 139 42 = some (.ifCond .ne 7, 3, 49, 0, 0, 0) := by decide +kernel
theorem c139_45 : zcod 139 45 = some (.sipush (-1002), 3, 0, 0, 0, 0) := by decide +kernel
theorem c139_48 : zcod 139 48 = some (.ireturn, 1, 0, 0, 0, 0) := by decide +kernel
theorem c139_49 : zcod 139 49 = some (.aload_n 0, 1, 0, 0, 0, 0) := by decide +kernel
theorem c139_50 : zcod 139 50 = some (.getfield 57, 3, 9, 19, 815, 0) := by decide +kernel
theorem c139_53 : zcod 139 53 = some (.iload_n 1, 1, 0, 0, 0, 0) := by decide +kernel
theorem c139_54 : zcod 139 54 = some (.dup2, 1, 0, 0, 0, 0) := by decide +kernel
theorem c139_55 : zcod 139 55 = some (.iaload, 1, 0, 0, 0, 0) := by decide +kernel
theorem c139_56 : zcod 139 56 = some (.iload_n 2, 1, 0, 0, 0, 0) := by decide +kernel
theorem c139_57 : zcod 139 57 = some (.iadd, 1, 0, 0, 0, 0) := by decide +kernel
theorem c139_58 : zcod 139 58 = some (.iastore, 1, 0, 0, 0, 0) := by decide +kernel
theorem c139_59 : zcod 139 59 = some (.aload_n 0, 1, 0, 0, 0, 0) := by decide +kernel
theorem c139_60 : zcod 139 60 = some (.getfield 57, 3, 9, 19, 815, 0) := by decide +kernel
theorem c139_63 : zcod 139 63 = some (.iload_n 1, 1, 0, 0, 0, 0) := by decide +kernel
theorem c139_64 : zcod 139 64 = some (.iaload, 1, 0, 0, 0, 0) := by decide +kernel
theorem c139_65 : zcod 139 65 = some (.ireturn, 1, 0, 0, 0, 0) := by decide +kernel
set_option maxRecDepth 100000 in
theorem b139_0 (l0 : Option Nat) (l1 : Int32) (l2 : Int32) (h : zH) : zev 139 0 [some (vR l0), some (vI l1), some (vI l2)] [] h = (zvr h l0 9 (zcI 140 [vR l0, vI l1] h fun x2 h1 => (if x2 = 0 then some (some (vI (-1001)), h1) else (zcI 113 [vL (Int32.toInt64 l2), vL (-1000000), vL 1000000] h1 fun x4 h3 => (if x4 = 0 then some (some (vI (-1002)), h3) else (zgR h3 l0 9 19 fun x5 => (zaI h3 x5 l1 fun x6 => (zcI 113 [vL (Int32.toInt64 (x6 + l2)), vL 0, vL 1000000] h3 fun x8 h7 => (if x8 = 0 then some (some (vI (-1002)), h7) else (zgR h7 l0 9 19 fun x9 => (zaI h7 x9 l1 fun x10 => (ztI h7 x9 l1 (x10 + l2) fun h11 => (zgR h11 l0 9 19 fun x12 => (zaI h11 x12 l1 fun x13 => some (some (vI x13), h11))))))))))))))) := by
  refine (zv_an c139_0 rfl).trans ?_
  refine (zv_in c139_1 rfl).trans ?_
  refine (zv_viI c139_2 zcn_140 rfl zL_140 (Or.inr zrt_140) rfl rfl).trans (zvr_c (zcI_c fun x2 h1 => ?_))
  refine (zv_ifne c139_5).trans (zif_c ?_ ?_)
  · refine (zv_si (v := -1001) c139_8 (by decide)).trans ?_
    exact zv_ir c139_11 zrt_139
  · refine (zv_in c139_12 rfl).trans ?_
    refine (zv_i2l c139_13).trans ?_
    refine (zv_ld2 (v := -1000000) c139_14 (by decide)).trans ?_
    refine (zv_ld2 (v := 1000000) c139_17 (by decide)).trans ?_
    refine (zv_stI c139_20 (by decide) rfl zL_113 (Or.inr zrt_113) rfl rfl).trans (zcI_c fun x4 h3 => ?_)
    refine (zv_ifeq c139_23).trans (zif_c ?_ ?_)
    · refine (zv_si (v := -1002) c139_45 (by decide)).trans ?_
      exact zv_ir c139_48 zrt_139
    · refine (zv_an c139_26 rfl).trans ?_
      refine (zv_gR c139_27 zf9_19).trans (zgR_c fun x5 => ?_)
      refine (zv_in c139_30 rfl).trans ?_
      refine (zv_aI c139_31).trans (zaI_c fun x6 => ?_)
      refine (zv_in c139_32 rfl).trans ?_
      refine (zv_iadd c139_33).trans ?_
      refine (zv_i2l c139_34).trans ?_
      refine (zv_lc (v := 0) c139_35 (by decide)).trans ?_
      refine (zv_ld2 (v := 1000000) c139_36 (by decide)).trans ?_
      refine (zv_stI c139_39 (by decide) rfl zL_113 (Or.inr zrt_113) rfl rfl).trans (zcI_c fun x8 h7 => ?_)
      refine (zv_ifne c139_42).trans (zif_c ?_ ?_)
      · refine (zv_si (v := -1002) c139_45 (by decide)).trans ?_
        exact zv_ir c139_48 zrt_139
      · refine (zv_an c139_49 rfl).trans ?_
        refine (zv_gR c139_50 zf9_19).trans (zgR_c fun x9 => ?_)
        refine (zv_in c139_53 rfl).trans ?_
        refine (zv_dup2 c139_54 rfl rfl).trans ?_
        refine (zv_aI c139_55).trans (zaI_c fun x10 => ?_)
        refine (zv_in c139_56 rfl).trans ?_
        refine (zv_iadd c139_57).trans ?_
        refine (zv_tI c139_58).trans (ztI_c fun h11 => ?_)
        refine (zv_an c139_59 rfl).trans ?_
        refine (zv_gR c139_60 zf9_19).trans (zgR_c fun x12 => ?_)
        refine (zv_in c139_63 rfl).trans ?_
        refine (zv_aI c139_64).trans (zaI_c fun x13 => ?_)
        exact zv_ir c139_65 zrt_139
theorem e139 (l0 : Option Nat) (l1 : Int32) (l2 : Int32) (h : zH) : zcall 139 [vR l0, vI l1, vI l2] h = (zvr h l0 9 (zcI 140 [vR l0, vI l1] h fun x2 h1 => (if x2 = 0 then some (some (vI (-1001)), h1) else (zcI 113 [vL (Int32.toInt64 l2), vL (-1000000), vL 1000000] h1 fun x4 h3 => (if x4 = 0 then some (some (vI (-1002)), h3) else (zgR h3 l0 9 19 fun x5 => (zaI h3 x5 l1 fun x6 => (zcI 113 [vL (Int32.toInt64 (x6 + l2)), vL 0, vL 1000000] h3 fun x8 h7 => (if x8 = 0 then some (some (vI (-1002)), h7) else (zgR h7 l0 9 19 fun x9 => (zaI h7 x9 l1 fun x10 => (ztI h7 x9 l1 (x10 + l2) fun h11 => (zgR h11 l0 9 19 fun x12 => (zaI h11 x12 l1 fun x13 => some (some (vI x13), h11))))))))))))))) := by
  refine Eq.trans ?_ (b139_0 l0 l1 l2 h)
  unfold zcall zent
  rw [zL_139]
  rfl
theorem c140_0 : zcod 140 0 = some (.iload_n 1, 1, 0, 0, 0, 0) := by decide +kernel
theorem c140_1 : zcod 140 1 = some (.i2l, 1, 0, 0, 0, 0) := by decide +kernel
theorem c140_2 : zcod 140 2 = some (.lconst 0, 1, 0, 0, 0, 0) := by decide +kernel
theorem c140_3 : zcod 140 3 = some (.aload_n 0, 1, 0, 0, 0, 0) := by decide +kernel
theorem c140_4 : zcod 140 4 = some (.getfield 163, 3, 9, 18, 814, 0) := by decide +kernel
theorem c140_7 : zcod 140 7 = some (.iconst 1, 1, 0, 0, 0, 0) := by decide +kernel
theorem c140_8 : zcod 140 8 = some (.isub, 1, 0, 0, 0, 0) := by decide +kernel
theorem c140_9 : zcod 140 9 = some (.i2l, 1, 0, 0, 0, 0) := by decide +kernel
theorem c140_10 : zcod 140 10 = some (.invokestatic 92, 3, 113, 3, 925, 0) := by decide +kernel
theorem c140_13 : zcod 140 13 = some (.ireturn, 1, 0, 0, 0, 0) := by decide +kernel
set_option maxRecDepth 100000 in
theorem b140_0 (l0 : Option Nat) (l1 : Int32) (h : zH) : zev 140 0 [some (vR l0), some (vI l1)] [] h = (zgI h l0 9 18 fun x1 => (zcI 113 [vL (Int32.toInt64 l1), vL 0, vL (Int32.toInt64 (x1 - 1))] h fun x3 h2 => zbo x3 (some (some (vI x3), h2)))) := by
  refine (zv_in c140_0 rfl).trans ?_
  refine (zv_i2l c140_1).trans ?_
  refine (zv_lc (v := 0) c140_2 (by decide)).trans ?_
  refine (zv_an c140_3 rfl).trans ?_
  refine (zv_gI c140_4 zg9_18).trans (zgI_c fun x1 => ?_)
  refine (zv_k (v := 1) c140_7 (by decide)).trans ?_
  refine (zv_isub c140_8).trans ?_
  refine (zv_i2l c140_9).trans ?_
  refine (zv_stI c140_10 (by decide) rfl zL_113 (Or.inr zrt_113) rfl rfl).trans (zcI_c fun x3 h2 => ?_)
  exact zv_iz c140_13 zrt_140
theorem e140 (l0 : Option Nat) (l1 : Int32) (h : zH) : zcall 140 [vR l0, vI l1] h = (zgI h l0 9 18 fun x1 => (zcI 113 [vL (Int32.toInt64 l1), vL 0, vL (Int32.toInt64 (x1 - 1))] h fun x3 h2 => zbo x3 (some (some (vI x3), h2)))) := by
  refine Eq.trans ?_ (b140_0 l0 l1 h)
  unfold zcall zent
  rw [zL_140]
  rfl
theorem c141_0 : zcod 141 0 = some (.aload_n 0, 1, 0, 0, 0, 0) := by decide +kernel
theorem c141_1 : zcod 141 1 = some (.iload_n 1, 1, 0, 0, 0, 0) := by decide +kernel
theorem c141_2 : zcod 141 2 = some (.invokevirtual 182, 3, 129, 1, 990, 0) := by decide +kernel
theorem c141_5 : zcod 141 5 = some (.ifCond .eq 11, 3, 16, 0, 0, 0) := by decide +kernel
theorem c141_8 : zcod 141 8 = some (.aload_n 0, 1, 0, 0, 0, 0) := by decide +kernel
theorem c141_9 : zcod 141 9 = some (.iload_n 2, 1, 0, 0, 0, 0) := by decide +kernel
theorem c141_10 : zcod 141 10 = some (.invokevirtual 193, 3, 140, 1, 1034, 0) := by decide +kernel
theorem c141_13 : zcod 141 13 = some (.ifCond .ne 7, 3, 20, 0, 0, 0) := by decide +kernel
theorem c141_16 : zcod 141 16 = some (.sipush (-1001), 3, 0, 0, 0, 0) := by decide +kernel
theorem c141_19 : zcod 141 19 = some (.ireturn, 1, 0, 0, 0, 0) := by decide +kernel
theorem c141_20 : zcod 141 20 = some (.iload_n 3, 1, 0, 0, 0, 0) := by decide +kernel
theorem c141_21 : zcod 141 21 = some (.i2l, 1, 0, 0, 0, 0) := by decide +kernel
theorem c141_22 : zcod 141 22 = some (.lconst 1, 1, 0, 0, 0, 0) := by decide +kernel
theorem c141_23 : zcod 141 23 = some (.ldc2_w 191, 3, 0, 0, 1029, 1000000) := by decide +kernel
theorem c141_26 : zcod 141 26 = some (.invokestatic 92, 3, 113, 3, 925, 0) := by decide +kernel
theorem c141_29 : zcod 141 29 = some (.ifCond .ne 7, 3, 36, 0, 0, 0) := by decide +kernel
theorem c141_32 : zcod 141 32 = some (.sipush (-1002), 3, 0, 0, 0, 0) := by decide +kernel
theorem c141_35 : zcod 141 35 = some (.ireturn, 1, 0, 0, 0, 0) := by decide +kernel
theorem c141_36 : zcod 141 36 = some (.aload_n 0, 1, 0, 0, 0, 0) := by decide +kernel
theorem c141_37 : zcod 141 37 = some (.getfield 29, 3, 9, 8, 804, 0) := by decide +kernel
theorem c141_40 : zcod 141 40 = some (.iload_n 1, 1, 0, 0, 0, 0) := by decide +kernel
theorem c141_41 : zcod 141 41 = some (.baload, 1, 0, 0, 0, 0) := by decide +kernel
theorem c141_42 : zcod 141 42 = some (.ifCond .ne 12, 3, 54, 0, 0, 0) := by decide +kernel
theorem c141_45 : zcod 141 45 = some (.aload_n 0, 1, 0, 0, 0, 0) := by decide +kernel
theorem c141_46 : zcod 141 46 = some (.getfield 26, 3, 9, 7, 803, 0) := by decide +kernel
theorem c141_49 : zcod 141 49 = some (.iload_n 1, 1, 0, 0, 0, 0) := by decide +kernel
theorem c141_50 : zcod 141 50 = some (.iaload, 1, 0, 0, 0, 0) := by decide +kernel
theorem c141_51 : zcod 141 51 = some (.ifCond .lt 7, 3, 58, 0, 0, 0) := by decide +kernel
theorem c141_54 : zcod 141 54 = some (.sipush (-1003), 3, 0, 0, 0, 0) := by decide +kernel
theorem c141_57 : zcod 141 57 = some (.ireturn, 1, 0, 0, 0, 0) := by decide +kernel
theorem c141_58 : zcod 141 58 = some (.iconst 0, 1, 0, 0, 0, 0) := by decide +kernel
theorem c141_59 : zcod 141 59 = some (.istore 4, 2, 0, 0, 0, 0) := by decide +kernel
theorem c141_61 : zcod 141 61 = some (.iconst 0, 1, 0, 0, 0, 0) := by decide +kernel
theorem c141_62 : zcod 141 62 = some (.istore 5, 2, 0, 0, 0, 0) := by decide +kernel
theorem c141_64 : zcod 141 64 = some (.iload 5, 2, 0, 0, 0, 0) := by decide +kernel
theorem c141_66 : zcod 141 66 = some (.aload_n 0, 1, 0, 0, 0, 0) := by decide +kernel
theorem c141_67 : zcod 141 67 = some (.getfield 63, 3, 9, 21, 817, 0) := by decide +kernel
theorem c141_70 : zcod 141 70 = some (.iload_n 1, 1, 0, 0, 0, 0) := by decide +kernel
theorem c141_71 : zcod 141 71 = some (.iaload, 1, 0, 0, 0, 0) := by decide +kernel
theorem c141_72 : zcod 141 72 = some (.if_icmp .ge 76, 3, 148, 0, 0, 0) := by decide +kernel
theorem c141_75 : zcod 141 75 = some (.aload_n 0, 1, 0, 0, 0, 0) := by decide +kernel
theorem c141_76 : zcod 141 76 = some (.getfield 66, 3, 9, 22, 818, 0) := by decide +kernel
theorem c141_79 : zcod 141 79 = some (.bipush 20, 2, 0, 0, 0, 0) := by decide +kernel
theorem c141_81 : zcod 141 81 = some (.iload_n 1, 1, 0, 0, 0, 0) := by decide +kernel
theorem c141_82 : zcod 141 82 = some (.imul, 1, 0, 0, 0, 0) := by decide +kernel
theorem c141_83 : zcod 141 83 = some (.iload 5, 2, 0, 0, 0, 0) := by decide +kernel
theorem c141_85 : zcod 141 85 = some (.iadd, 1, 0, 0, 0, 0) := by decide +kernel
theorem c141_86 : zcod 141 86 = some (.iaload, 1, 0, 0, 0, 0) := by decide +kernel
theorem c141_87 : zcod 141 87 = some (.iload_n 2, 1, 0, 0, 0, 0) := by decide +kernel
theorem c141_88 : zcod 141 88 = some (.if_icmp .eq 54, 3, 142, 0, 0, 0) := by decide +kernel
theorem c141_91 : zcod 141 91 = some (.aload_n 0, 1, 0, 0, 0, 0) := by decide +kernel
theorem c141_92 : zcod 141 92 = some (.getfield 66, 3, 9, 22, 818, 0) := by decide +kernel
theorem c141_95 : zcod 141 95 = some (.bipush 20, 2, 0, 0, 0, 0) := by decide +kernel
theorem c141_97 : zcod 141 97 = some (.iload_n 1, 1, 0, 0, 0, 0) := by decide +kernel
theorem c141_98 : zcod 141 98 = some (.imul, 1, 0, 0, 0, 0) := by decide +kernel
theorem c141_99 : zcod 141 99 = some (.iload 4, 2, 0, 0, 0, 0) := by decide +kernel
theorem c141_101 : zcod 141 101 = some (.iadd, 1, 0, 0, 0, 0) := by decide +kernel
theorem c141_102 : zcod 141 102 = some (.aload_n 0, 1, 0, 0, 0, 0) := by decide +kernel
theorem c141_103 : zcod 141 103 = some (.getfield 66, 3, 9, 22, 818, 0) := by decide +kernel
theorem c141_106 : zcod 141 106 = some (.bipush 20, 2, 0, 0, 0, 0) := by decide +kernel
theorem c141_108 : zcod 141 108 = some (.iload_n 1, 1, 0, 0, 0, 0) := by decide +kernel
theorem c141_109 : zcod 141 109 = some (.imul, 1, 0, 0, 0, 0) := by decide +kernel
theorem c141_110 : zcod 141 110 = some (.iload 5, 2, 0, 0, 0, 0) := by decide +kernel
theorem c141_112 : zcod 141 112 = some (.iadd, 1, 0, 0, 0, 0) := by decide +kernel
theorem c141_113 : zcod 141 113 = some (.iaload, 1, 0, 0, 0, 0) := by decide +kernel
theorem c141_114 : zcod 141 114 = some (.iastore, 1, 0, 0, 0, 0) := by decide +kernel
theorem c141_115 : zcod 141 115 = some (.aload_n 0, 1, 0, 0, 0, 0) := by decide +kernel
theorem c141_116 : zcod 141 116 = some (.getfield 69, 3, 9, 23, 819, 0) := by decide +kernel
theorem c141_119 : zcod 141 119 = some (.bipush 20, 2, 0, 0, 0, 0) := by decide +kernel
theorem c141_121 : zcod 141 121 = some (.iload_n 1, 1, 0, 0, 0, 0) := by decide +kernel
theorem c141_122 : zcod 141 122 = some (.imul, 1, 0, 0, 0, 0) := by decide +kernel
theorem c141_123 : zcod 141 123 = some (.iload 4, 2, 0, 0, 0, 0) := by decide +kernel
theorem c141_125 : zcod 141 125 = some (.iadd, 1, 0, 0, 0, 0) := by decide +kernel
theorem c141_126 : zcod 141 126 = some (.aload_n 0, 1, 0, 0, 0, 0) := by decide +kernel
theorem c141_127 : zcod 141 127 = some (.getfield 69, 3, 9, 23, 819, 0) := by decide +kernel
theorem c141_130 : zcod 141 130 = some (.bipush 20, 2, 0, 0, 0, 0) := by decide +kernel
theorem c141_132 : zcod 141 132 = some (.iload_n 1, 1, 0, 0, 0, 0) := by decide +kernel
theorem c141_133 : zcod 141 133 = some (.imul, 1, 0, 0, 0, 0) := by decide +kernel
theorem c141_134 : zcod 141 134 = some (.iload 5, 2, 0, 0, 0, 0) := by decide +kernel
theorem c141_136 : zcod 141 136 = some (.iadd, 1, 0, 0, 0, 0) := by decide +kernel
theorem c141_137 : zcod 141 137 = some (.iaload, 1, 0, 0, 0, 0) := by decide +kernel
theorem c141_138 : zcod 141 138 = some (.iastore, 1, 0, 0, 0, 0) := by decide +kernel
theorem c141_139 : zcod 141 139 = some (.iinc 4 1, 3, 0, 0, 0, 0) := by decide +kernel
theorem c141_142 : zcod 141 142 = some (.iinc 5 1, 3, 0, 0, 0, 0) := by decide +kernel
theorem c141_145 : zcod 141 145 = some (.goto (-81), 3, 64, 0, 0, 0) := by decide +kernel
theorem c141_148 : zcod 141 148 = some (.aload_n 0, 1, 0, 0, 0, 0) := by decide +kernel
theorem c141_149 : zcod 141 149 = some (.getfield 66, 3, 9, 22, 818, 0) := by decide +kernel
theorem c141_152 : zcod 141 152 = some (.bipush 20, 2, 0, 0, 0, 0) := by decide +kernel
theorem c141_154 : zcod 141 154 = some (.iload_n 1, 1, 0, 0, 0, 0) := by decide +kernel
theorem c141_155 : zcod 141 155 = some (.imul, 1, 0, 0, 0, 0) := by decide +kernel
theorem c141_156 : zcod 141 156 = some (.iload 4, 2, 0, 0, 0, 0) := by decide +kernel
theorem c141_158 : zcod 141 158 = some (.iadd, 1, 0, 0, 0, 0) := by decide +kernel
theorem c141_159 : zcod 141 159 = some (.iload_n 2, 1, 0, 0, 0, 0) := by decide +kernel
theorem c141_160 : zcod 141 160 = some (.iastore, 1, 0, 0, 0, 0) := by decide +kernel
theorem c141_161 : zcod 141 161 = some (.aload_n 0, 1, 0, 0, 0, 0) := by decide +kernel
theorem c141_162 : zcod 141 162 = some (.getfield 69, 3, 9, 23, 819, 0) := by decide +kernel
theorem c141_165 : zcod 141 165 = some (.bipush 20, 2, 0, 0, 0, 0) := by decide +kernel
theorem c141_167 : zcod 141 167 = some (.iload_n 1, 1, 0, 0, 0, 0) := by decide +kernel
theorem c141_168 : zcod 141 168 = some (.imul, 1, 0, 0, 0, 0) := by decide +kernel
theorem c141_169 : zcod 141 169 = some (.iload 4, 2, 0, 0, 0, 0) := by decide +kernel
theorem c141_171 : zcod 141 171 = some (.iadd, 1, 0, 0, 0, 0) := by decide +kernel
theorem c141_172 : zcod 141 172 = some (.iload_n 3, 1, 0, 0, 0, 0) := by decide +kernel
theorem c141_173 : zcod 141 173 = some (.iastore, 1, 0, 0, 0, 0) := by decide +kernel
theorem c141_174 : zcod 141 174 = some (.aload_n 0, 1, 0, 0, 0, 0) := by decide +kernel
theorem c141_175 : zcod 141 175 = some (.getfield 63, 3, 9, 21, 817, 0) := by decide +kernel
theorem c141_178 : zcod 141 178 = some (.iload_n 1, 1, 0, 0, 0, 0) := by decide +kernel
theorem c141_179 : zcod 141 179 = some (.iload 4, 2, 0, 0, 0, 0) := by decide +kernel
theorem c141_181 : zcod 141 181 = some (.iconst 1, 1, 0, 0, 0, 0) := by decide +kernel
theorem c141_182 : zcod 141 182 = some (.iadd, 1, 0, 0, 0, 0) := by decide +kernel
theorem c141_183 : zcod 141 183 = some (.iastore, 1, 0, 0, 0, 0) := by decide +kernel
theorem c141_184 : zcod 141 184 = some (.iload 4, 2, 0, 0, 0, 0) := by decide +kernel
theorem c141_186 : zcod 141 186 = some (.iconst 1, 1, 0, 0, 0, 0) := by decide +kernel
theorem c141_187 : zcod 141 187 = some (.iadd, 1, 0, 0, 0, 0) := by decide +kernel
theorem c141_188 : zcod 141 188 = some (.ireturn, 1, 0, 0, 0, 0) := by decide +kernel
set_option maxRecDepth 100000 in
theorem b141_0 (l0 : Option Nat) (l1 : Int32) (l2 : Int32) (l3 : Int32) (h : zH) : zev 141 0 [some (vR l0), some (vI l1), some (vI l2), some (vI l3), none, none] [] h = (zvr h l0 9 (zcI 129 [vR l0, vI l1] h fun x2 h1 => (if x2 = 0 then some (some (vI (-1001)), h1) else (zvr h1 l0 9 (zcI 140 [vR l0, vI l2] h1 fun x4 h3 => (if x4 = 0 then some (some (vI (-1001)), h3) else (zcI 113 [vL (Int32.toInt64 l3), vL 1, vL 1000000] h3 fun x6 h5 => (if x6 = 0 then some (some (vI (-1002)), h5) else (zgR h5 l0 9 8 fun x7 => (zaB h5 x7 l1 fun x8 => (if x8 = 0 then (zgR h5 l0 9 7 fun x9 => (zaI h5 x9 l1 fun x10 => (if x10 < 0 then zev 141 64 [some (vR l0), some (vI l1), some (vI l2), some (vI l3), some (vI 0), some (vI 0)] [] h5 else some (some (vI (-1003)), h5)))) else some (some (vI (-1003)), h5)))))))))))) := by
  refine (zv_an c141_0 rfl).trans ?_
  refine (zv_in c141_1 rfl).trans ?_
  refine (zv_viI c141_2 zcn_129 rfl zL_129 (Or.inr zrt_129) rfl rfl).trans (zvr_c (zcI_c fun x2 h1 => ?_))
  refine (zv_ifeq c141_5).trans (zif_c ?_ ?_)
  · refine (zv_si (v := -1001) c141_16 (by decide)).trans ?_
    exact zv_ir c141_19 zrt_141
  · refine (zv_an c141_8 rfl).trans ?_
    refine (zv_in c141_9 rfl).trans ?_
    refine (zv_viI c141_10 zcn_140 rfl zL_140 (Or.inr zrt_140) rfl rfl).trans (zvr_c (zcI_c fun x4 h3 => ?_))
    refine (zv_ifne c141_13).trans (zif_c ?_ ?_)
    · refine (zv_si (v := -1001) c141_16 (by decide)).trans ?_
      exact zv_ir c141_19 zrt_141
    · refine (zv_in c141_20 rfl).trans ?_
      refine (zv_i2l c141_21).trans ?_
      refine (zv_lc (v := 1) c141_22 (by decide)).trans ?_
      refine (zv_ld2 (v := 1000000) c141_23 (by decide)).trans ?_
      refine (zv_stI c141_26 (by decide) rfl zL_113 (Or.inr zrt_113) rfl rfl).trans (zcI_c fun x6 h5 => ?_)
      refine (zv_ifne c141_29).trans (zif_c ?_ ?_)
      · refine (zv_si (v := -1002) c141_32 (by decide)).trans ?_
        exact zv_ir c141_35 zrt_141
      · refine (zv_an c141_36 rfl).trans ?_
        refine (zv_gR c141_37 zf9_8).trans (zgR_c fun x7 => ?_)
        refine (zv_in c141_40 rfl).trans ?_
        refine (zv_aB c141_41).trans (zaB_c fun x8 => ?_)
        refine (zv_ifne c141_42).trans (zif_c ?_ ?_)
        · refine (zv_an c141_45 rfl).trans ?_
          refine (zv_gR c141_46 zf9_7).trans (zgR_c fun x9 => ?_)
          refine (zv_in c141_49 rfl).trans ?_
          refine (zv_aI c141_50).trans (zaI_c fun x10 => ?_)
          refine (zv_iflt c141_51).trans (zif_c ?_ ?_)
          · refine (zv_k (v := 0) c141_58 (by decide)).trans ?_
            refine (zv_is c141_59 rfl).trans ?_
            refine (zv_k (v := 0) c141_61 (by decide)).trans ?_
            refine (zv_is c141_62 rfl).trans ?_
            rfl
          · refine (zv_si (v := -1003) c141_54 (by decide)).trans ?_
            exact zv_ir c141_57 zrt_141
        · refine (zv_si (v := -1003) c141_54 (by decide)).trans ?_
          exact zv_ir c141_57 zrt_141
theorem e141 (l0 : Option Nat) (l1 : Int32) (l2 : Int32) (l3 : Int32) (h : zH) : zcall 141 [vR l0, vI l1, vI l2, vI l3] h = (zvr h l0 9 (zcI 129 [vR l0, vI l1] h fun x2 h1 => (if x2 = 0 then some (some (vI (-1001)), h1) else (zvr h1 l0 9 (zcI 140 [vR l0, vI l2] h1 fun x4 h3 => (if x4 = 0 then some (some (vI (-1001)), h3) else (zcI 113 [vL (Int32.toInt64 l3), vL 1, vL 1000000] h3 fun x6 h5 => (if x6 = 0 then some (some (vI (-1002)), h5) else (zgR h5 l0 9 8 fun x7 => (zaB h5 x7 l1 fun x8 => (if x8 = 0 then (zgR h5 l0 9 7 fun x9 => (zaI h5 x9 l1 fun x10 => (if x10 < 0 then zev 141 64 [some (vR l0), some (vI l1), some (vI l2), some (vI l3), some (vI 0), some (vI 0)] [] h5 else some (some (vI (-1003)), h5)))) else some (some (vI (-1003)), h5)))))))))))) := by
  refine Eq.trans ?_ (b141_0 l0 l1 l2 l3 h)
  unfold zcall zent
  rw [zL_141]
  rfl
set_option maxRecDepth 100000 in
theorem b141_64 (l0 : Option Nat) (l1 : Int32) (l2 : Int32) (l3 : Int32) (l4 : Int32) (l5 : Int32) (h : zH) : zev 141 64 [some (vR l0), some (vI l1), some (vI l2), some (vI l3), some (vI l4), some (vI l5)] [] h = (zgR h l0 9 21 fun x1 => (zaI h x1 l1 fun x2 => (if l5 < x2 then (zgR h l0 9 22 fun x3 => (zaI h x3 ((20 * l1) + l5) fun x4 => (if x4 = l2 then zev 141 64 [some (vR l0), some (vI l1), some (vI l2), some (vI l3), some (vI l4), some (vI (l5 + 1))] [] h else (zgR h l0 9 22 fun x5 => (zgR h l0 9 22 fun x6 => (zaI h x6 ((20 * l1) + l5) fun x7 => (ztI h x5 ((20 * l1) + l4) x7 fun h8 => (zgR h8 l0 9 23 fun x9 => (zgR h8 l0 9 23 fun x10 => (zaI h8 x10 ((20 * l1) + l5) fun x11 => (ztI h8 x9 ((20 * l1) + l4) x11 fun h12 => zev 141 64 [some (vR l0), some (vI l1), some (vI l2), some (vI l3), some (vI (l4 + 1)), some (vI (l5 + 1))] [] h12))))))))))) else (zgR h l0 9 22 fun x13 => (ztI h x13 ((20 * l1) + l4) l2 fun h14 => (zgR h14 l0 9 23 fun x15 => (ztI h14 x15 ((20 * l1) + l4) l3 fun h16 => (zgR h16 l0 9 21 fun x17 => (ztI h16 x17 l1 (l4 + 1) fun h18 => some (some (vI (l4 + 1)), h18)))))))))) := by
  refine (zv_il c141_64 rfl).trans ?_
  refine (zv_an c141_66 rfl).trans ?_
  refine (zv_gR c141_67 zf9_21).trans (zgR_c fun x1 => ?_)
  refine (zv_in c141_70 rfl).trans ?_
  refine (zv_aI c141_71).trans (zaI_c fun x2 => ?_)
  refine (zv_icge c141_72).trans (zif_c ?_ ?_)
  · refine (zv_an c141_75 rfl).trans ?_
    refine (zv_gR c141_76 zf9_22).trans (zgR_c fun x3 => ?_)
    refine (zv_bi (v := 20) c141_79 (by decide)).trans ?_
    refine (zv_in c141_81 rfl).trans ?_
    refine (zv_imul c141_82).trans ?_
    refine (zv_il c141_83 rfl).trans ?_
    refine (zv_iadd c141_85).trans ?_
    refine (zv_aI c141_86).trans (zaI_c fun x4 => ?_)
    refine (zv_in c141_87 rfl).trans ?_
    refine (zv_iceq c141_88).trans (zif_c ?_ ?_)
    · refine (zv_inc (y := 1) c141_142 rfl (by decide) rfl).trans ?_
      refine (zv_goto c141_145).trans ?_
      rfl
    · refine (zv_an c141_91 rfl).trans ?_
      refine (zv_gR c141_92 zf9_22).trans (zgR_c fun x5 => ?_)
      refine (zv_bi (v := 20) c141_95 (by decide)).trans ?_
      refine (zv_in c141_97 rfl).trans ?_
      refine (zv_imul c141_98).trans ?_
      refine (zv_il c141_99 rfl).trans ?_
      refine (zv_iadd c141_101).trans ?_
      refine (zv_an c141_102 rfl).trans ?_
      refine (zv_gR c141_103 zf9_22).trans (zgR_c fun x6 => ?_)
      refine (zv_bi (v := 20) c141_106 (by decide)).trans ?_
      refine (zv_in c141_108 rfl).trans ?_
      refine (zv_imul c141_109).trans ?_
      refine (zv_il c141_110 rfl).trans ?_
      refine (zv_iadd c141_112).trans ?_
      refine (zv_aI c141_113).trans (zaI_c fun x7 => ?_)
      refine (zv_tI c141_114).trans (ztI_c fun h8 => ?_)
      refine (zv_an c141_115 rfl).trans ?_
      refine (zv_gR c141_116 zf9_23).trans (zgR_c fun x9 => ?_)
      refine (zv_bi (v := 20) c141_119 (by decide)).trans ?_
      refine (zv_in c141_121 rfl).trans ?_
      refine (zv_imul c141_122).trans ?_
      refine (zv_il c141_123 rfl).trans ?_
      refine (zv_iadd c141_125).trans ?_
      refine (zv_an c141_126 rfl).trans ?_
      refine (zv_gR c141_127 zf9_23).trans (zgR_c fun x10 => ?_)
      refine (zv_bi (v := 20) c141_130 (by decide)).trans ?_
      refine (zv_in c141_132 rfl).trans ?_
      refine (zv_imul c141_133).trans ?_
      refine (zv_il c141_134 rfl).trans ?_
      refine (zv_iadd c141_136).trans ?_
      refine (zv_aI c141_137).trans (zaI_c fun x11 => ?_)
      refine (zv_tI c141_138).trans (ztI_c fun h12 => ?_)
      refine (zv_inc (y := 1) c141_139 rfl (by decide) rfl).trans ?_
      refine (zv_inc (y := 1) c141_142 rfl (by decide) rfl).trans ?_
      refine (zv_goto c141_145).trans ?_
      rfl
  · refine (zv_an c141_148 rfl).trans ?_
    refine (zv_gR c141_149 zf9_22).trans (zgR_c fun x13 => ?_)
    refine (zv_bi (v := 20) c141_152 (by decide)).trans ?_
    refine (zv_in c141_154 rfl).trans ?_
    refine (zv_imul c141_155).trans ?_
    refine (zv_il c141_156 rfl).trans ?_
    refine (zv_iadd c141_158).trans ?_
    refine (zv_in c141_159 rfl).trans ?_
    refine (zv_tI c141_160).trans (ztI_c fun h14 => ?_)
    refine (zv_an c141_161 rfl).trans ?_
    refine (zv_gR c141_162 zf9_23).trans (zgR_c fun x15 => ?_)
    refine (zv_bi (v := 20) c141_165 (by decide)).trans ?_
    refine (zv_in c141_167 rfl).trans ?_
    refine (zv_imul c141_168).trans ?_
    refine (zv_il c141_169 rfl).trans ?_
    refine (zv_iadd c141_171).trans ?_
    refine (zv_in c141_172 rfl).trans ?_
    refine (zv_tI c141_173).trans (ztI_c fun h16 => ?_)
    refine (zv_an c141_174 rfl).trans ?_
    refine (zv_gR c141_175 zf9_21).trans (zgR_c fun x17 => ?_)
    refine (zv_in c141_178 rfl).trans ?_
    refine (zv_il c141_179 rfl).trans ?_
    refine (zv_k (v := 1) c141_181 (by decide)).trans ?_
    refine (zv_iadd c141_182).trans ?_
    refine (zv_tI c141_183).trans (ztI_c fun h18 => ?_)
    refine (zv_il c141_184 rfl).trans ?_
    refine (zv_k (v := 1) c141_186 (by decide)).trans ?_
    refine (zv_iadd c141_187).trans ?_
    exact zv_ir c141_188 zrt_141
theorem c142_0 : zcod 142 0 = some (.aload_n 0, 1, 0, 0, 0, 0) := by decide +kernel
theorem c142_1 : zcod 142 1 = some (.iload_n 1, 1, 0, 0, 0, 0) := by decide +kernel
theorem c142_2 : zcod 142 2 = some (.invokevirtual 182, 3, 129, 1, 990, 0) := by decide +kernel
theorem c142_5 : zcod 142 5 = some (.ifCond .ne 7, 3, 12, 0, 0, 0) := by decide +kernel
theorem c142_8 : zcod 142 8 = some (.sipush (-1001), 3, 0, 0, 0, 0) := by decide +kernel
theorem c142_11 : zcod 142 11 = some (.ireturn, 1, 0, 0, 0, 0) := by decide +kernel
theorem c142_12 : zcod 142 12 = some (.aload_n 0, 1, 0, 0, 0, 0) := by decide +kernel
theorem c142_13 : zcod 142 13 = some (.getfield 63, 3, 9, 21, 817, 0) := by decide +kernel
theorem c142_16 : zcod 142 16 = some (.iload_n 1, 1, 0, 0, 0, 0) := by decide +kernel
theorem c142_17 : zcod 142 17 = some (.iaload, 1, 0, 0, 0, 0) := by decide +kernel
theorem c142_18 : zcod 142 18 = some (.ifCond .ne 7, 3, 25, 0, 0, 0) := by decide +kernel
theorem c142_21 : zcod 142 21 = some (.sipush (-1003), 3, 0, 0, 0, 0) := by decide +kernel
theorem c142_24 : zcod 142 24 = some (.ireturn, 1, 0, 0, 0, 0) := by decide +kernel
theorem c142_25 : zcod 142 25 = some (.iconst (-1), 1, 0, 0, 0, 0) := by decide +kernel
theorem c142_26 : zcod 142 26 = some (.istore_n 2, 1, 0, 0, 0, 0) := by decide +kernel
theorem c142_27 : zcod 142 27 = some (.iconst 0, 1, 0, 0, 0, 0) := by decide +kernel
theorem c142_28 : zcod 142 28 = some (.istore_n 3, 1, 0, 0, 0, 0) := by decide +kernel
theorem c142_29 : zcod 142 29 = some (.iload_n 3, 1, 0, 0, 0, 0) := by decide +kernel
theorem c142_30 : zcod 142 30 = some (.aload_n 0, 1, 0, 0, 0, 0) := by decide +kernel
theorem c142_31 : zcod 142 31 = some (.getfield 63, 3, 9, 21, 817, 0) := by decide +kernel
theorem c142_34 : zcod 142 34 = some (.iload_n 1, 1, 0, 0, 0, 0) := by decide +kernel
theorem c142_35 : zcod 142 35 = some (.iaload, 1, 0, 0, 0, 0) := by decide +kernel
theorem c142_36 : zcod 142 36 = some (.if_icmp .ge 83, 3, 119, 0, 0, 0) := by decide +kernel
theorem c142_39 : zcod 142 39 = some (.aload_n 0, 1, 0, 0, 0, 0) := by decide +kernel
theorem c142_40 : zcod 142 40 = some (.getfield 69, 3, 9, 23, 819, 0) := by decide +kernel
theorem c142_43 : zcod 142 43 = some (.bipush 20, 2, 0, 0, 0, 0) := by decide +kernel
theorem c142_45 : zcod 142 45 = some (.iload_n 1, 1, 0, 0, 0, 0) := by decide +kernel
theorem c142_46 : zcod 142 46 = some (.imul, 1, 0, 0, 0, 0) := by decide +kernel
theorem c142_47 : zcod 142 47 = some (.iload_n 3, 1, 0, 0, 0, 0) := by decide +kernel
theorem c142_48 : zcod 142 48 = some (.iadd, 1, 0, 0, 0, 0) := by decide +kernel
theorem c142_49 : zcod 142 49 = some (.iaload, 1, 0, 0, 0, 0) := by decide +kernel
theorem c142_50 : zcod 142 50 = some (.istore 4, 2, 0, 0, 0, 0) := by decide +kernel
theorem c142_52 : zcod 142 52 = some (.aload_n 0, 1, 0, 0, 0, 0) := by decide +kernel
theorem c142_53 : zcod 142 53 = some (.getfield 57, 3, 9, 19, 815, 0) := by decide +kernel
theorem c142_56 : zcod 142 56 = some (.aload_n 0, 1, 0, 0, 0, 0) := by decide +kernel
theorem c142_57 : zcod 142 57 = some (.getfield 66, 3, 9, 22, 818, 0) := by decide +kernel
theorem c142_60 : zcod 142 60 = some (.bipush 20, 2, 0, 0, 0, 0) := by decide +kernel
theorem c142_62 : zcod 142 62 = some (.iload_n 1, 1, 0, 0, 0, 0) := by decide +kernel
theorem c142_63 : zcod 142 63 = some (.imul, 1, 0, 0, 0, 0) := by decide +kernel
theorem c142_64 : zcod 142 64 = some (.iload_n 3, 1, 0, 0, 0, 0) := by decide +kernel
theorem c142_65 : zcod 142 65 = some (.iadd, 1, 0, 0, 0, 0) := by decide +kernel
theorem c142_66 : zcod 142 66 = some (.iaload, 1, 0, 0, 0, 0) := by decide +kernel
theorem c142_67 : zcod 142 67 = some (.iaload, 1, 0, 0, 0, 0) := by decide +kernel
theorem c142_68 : zcod 142 68 = some (.iload 4, 2, 0, 0, 0, 0) := by decide +kernel
theorem c142_70 : zcod 142 70 = some (.iconst 4, 1, 0, 0, 0, 0) := by decide +kernel
theorem c142_71 : zcod 142 71 = some (.idiv, 1, 0, 0, 0, 0) := by decide +kernel
theorem c142_72 : zcod 142 72 = some (.if_icmp .lt 7, 3, 79, 0, 0, 0) := by decide +kernel
theorem c142_75 : zcod 142 75 = some (.iconst 1, 1, 0, 0, 0, 0) := by decide +kernel
theorem c142_76 : zcod 142 76 = some (.goto 4, 3, 80, 0, 0, 0) := by decide +kernel
theorem c142_79 : zcod 142 79 = some (.iconst 0, 1, 0, 0, 0, 0) := by decide +kernel
theorem c142_80 : zcod 142 80 = some (.istore 5, 2, 0, 0, 0, 0) := by decide +kernel
theorem c142_82 : zcod 142 82 = some (.iload 5, 2, 0, 0, 0, 0) := by decide +kernel
theorem c142_84 : zcod 142 84 = some (.ifCond .eq 27, 3, 111, 0, 0, 0) := by decide +kernel
theorem c142_87 : zcod 142 87 = some (.iload_n 2, 1, 0, 0, 0, 0) := by decide +kernel
theorem c142_88 : zcod 142 88 = some (.ifCond .lt 19, 3, 107, 0, 0, 0) := by decide +kernel
theorem c142_91 : zcod 142 91 = some (.iload 4, 2, 0, 0, 0, 0) := by decide +kernel
theorem c142_93 : zcod 142 93 = some (.aload_n 0, 1, 0, 0, 0, 0) := by decide +kernel
theorem c142_94 : zcod 142 94 = some (.getfield 69, 3, 9, 23, 819, 0) := by decide +kernel
theorem c142_97 : zcod 142 97 = some (.bipush 20, 2, 0, 0, 0, 0) := by decide +kernel
theorem c142_99 : zcod 142 99 = some (.iload_n 1, 1, 0, 0, 0, 0) := by decide +kernel
theorem c142_100 : zcod 142 100 = some (.imul, 1, 0, 0, 0, 0) := by decide +kernel
theorem c142_101 : zcod 142 101 = some (.iload_n 2, 1, 0, 0, 0, 0) := by decide +kernel
theorem c142_102 : zcod 142 102 = some (.iadd, 1, 0, 0, 0, 0) := by decide +kernel
theorem c142_103 : zcod 142 103 = some (.iaload, 1, 0, 0, 0, 0) := by decide +kernel
theorem c142_104 : zcod 142 104 = some (.if_icmp .le 7, 3, 111, 0, 0, 0) := by decide +kernel
theorem c142_107 : zcod 142 107 = some (.iload_n 3, 1, 0, 0, 0, 0) := by decide +kernel
theorem c142_108 : zcod 142 108 = some (.goto 4, 3, 112, 0, 0, 0) := by decide +kernel
theorem c142_111 : zcod 142 111 = some (.iload_n 2, 1, 0, 0, 0, 0) := by decide +kernel
theorem c142_112 : zcod 142 112 = some (.istore_n 2, 1, 0, 0, 0, 0) := by decide +kernel
theorem c142_113 : zcod 142 113 = some (.iinc 3 1, 3, 0, 0, 0, 0) := by decide +kernel
theorem c142_116 : zcod 142 116 = some (.goto (-87), 3, 29, 0, 0, 0) := by decide +kernel
theorem c142_119 : zcod 142 119 = some (.aload_n 0, 1, 0, 0, 0, 0) := by decide +kernel
theorem c142_120 : zcod 142 120 = some (.getfield 63, 3, 9, 21, 817, 0) := by decide +kernel
theorem c142_123 : zcod 142 123 = some (.iload_n 1, 1, 0, 0, 0, 0) := by decide +kernel
theorem c142_124 : zcod 142 124 = some (.iconst 0, 1, 0, 0, 0, 0) := by decide +kernel
theorem c142_125 : zcod 142 125 = some (.iastore, 1, 0, 0, 0, 0) := by decide +kernel
theorem c142_126 : zcod 142 126 = some (.iload_n 2, 1, 0, 0, 0, 0) := by decide +kernel
theorem c142_127 : zcod 142 127 = some (.ifCond .ge 5, 3, 132, 0, 0, 0) := by decide +kernel
theorem c142_130 : zcod 142 130 = some (.iconst (-1), 1, 0, 0, 0, 0) := by decide +kernel
theorem c142_131 : zcod 142 131 = some (.ireturn, 1, 0, 0, 0, 0) := by decide +kernel
theorem c142_132 : zcod 142 132 = some (.aload_n 0, 1, 0, 0, 0, 0) := by decide +kernel
theorem c142_133 : zcod 142 133 = some (.getfield 66, 3, 9, 22, 818, 0) := by decide +kernel
theorem c142_136 : zcod 142 136 = some (.bipush 20, 2, 0, 0, 0, 0) := by decide +kernel
theorem c142_138 : zcod 142 138 = some (.iload_n 1, 1, 0, 0, 0, 0) := by decide +kernel
theorem c142_139 : zcod 142 139 = some (.imul, 1, 0, 0, 0, 0) := by decide +kernel
theorem c142_140 : zcod 142 140 = some (.iload_n 2, 1, 0, 0, 0, 0) := by decide +kernel
theorem c142_141 : zcod 142 141 = some (.iadd, 1, 0, 0, 0, 0) := by decide +kernel
theorem c142_142 : zcod 142 142 = some (.iaload, 1, 0, 0, 0, 0) := by decide +kernel
theorem c142_143 : zcod 142 143 = some (.istore_n 3, 1, 0, 0, 0, 0) := by decide +kernel
theorem c142_144 : zcod 142 144 = some (.aload_n 0, 1, 0, 0, 0, 0) := by decide +kernel
theorem c142_145 : zcod 142 145 = some (.getfield 69, 3, 9, 23, 819, 0) := by decide +kernel
theorem c142_148 : zcod 142 148 = some (.bipush 20, 2, 0, 0, 0, 0) := by decide +kernel
theorem c142_150 : zcod 142 150 = some (.iload_n 1, 1, 0, 0, 0, 0) := by decide +kernel
theorem c142_151 : zcod 142 151 = some (.imul, 1, 0, 0, 0, 0) := by decide +kernel
theorem c142_152 : zcod 142 152 = some (.iload_n 2, 1, 0, 0, 0, 0) := by decide +kernel
theorem c142_153 : zcod 142 153 = some (.iadd, 1, 0, 0, 0, 0) := by decide +kernel
theorem c142_154 : zcod 142 154 = some (.iaload, 1, 0, 0, 0, 0) := by decide +kernel
theorem c142_155 : zcod 142 155 = some (.istore 4, 2, 0, 0, 0, 0) := by decide +kernel
theorem c142_157 : zcod 142 157 = some (.iload 4, 2, 0, 0, 0, 0) := by decide +kernel
theorem c142_159 : zcod 142 159 = some (.iload 4, 2, 0, 0, 0, 0) := by decide +kernel
theorem c142_161 : zcod 142 161 = some (.iconst 4, 1, 0, 0, 0, 0) := by decide +kernel
theorem c142_162 : zcod 142 162 = some (.idiv, 1, 0, 0, 0, 0) := by decide +kernel
theorem c142_163 : zcod 142 163 = some (.isub, 1, 0, 0, 0, 0) := by decide +kernel
theorem c142_164 : zcod 142 164 = some (.istore 5, 2, 0, 0, 0, 0) := by decide +kernel
theorem c142_166 : zcod 142 166 = some (.aload_n 0, 1, 0, 0, 0, 0) := by decide +kernel
theorem c142_167 : zcod 142 167 = some (.getfield 57, 3, 9, 19, 815, 0) := by decide +kernel
theorem c142_170 : zcod 142 170 = some (.iload_n 3, 1, 0, 0, 0, 0) := by decide +kernel
theorem c142_171 : zcod 142 171 = some (.dup2, 1, 0, 0, 0, 0) := by decide +kernel
theorem c142_172 : zcod 142 172 = some (.iaload, 1, 0, 0, 0, 0) := by decide +kernel
theorem c142_173 : zcod 142 173 = some (.iload 4, 2, 0, 0, 0, 0) := by decide +kernel
theorem c142_175 : zcod 142 175 = some (.iconst 4, 1, 0, 0, 0, 0) := by decide +kernel
theorem c142_176 : zcod 142 176 = some (.idiv, 1, 0, 0, 0, 0) := by decide +kernel
theorem c142_177 : zcod 142 177 = some (.isub, 1, 0, 0, 0, 0) := by decide +kernel
theorem c142_178 : zcod 142 178 = some (.iastore, 1, 0, 0, 0, 0) := by decide +kernel
theorem c142_179 : zcod 142 179 = some (.aload_n 0, 1, 0, 0, 0, 0) := by decide +kernel
theorem c142_180 : zcod 142 180 = some (.dup, 1, 0, 0, 0, 0) := by decide +kernel
theorem c142_181 : zcod 142 181 = some (.getfield 208, 3, 9, 29, 825, 0) := by decide +kernel
theorem c142_184 : zcod 142 184 = some (.iload 4, 2, 0, 0, 0, 0) := by decide +kernel
theorem c142_186 : zcod 142 186 = some (.iconst 4, 1, 0, 0, 0, 0) := by decide +kernel
theorem c142_187 : zcod 142 187 = some (.idiv, 1, 0, 0, 0, 0) := by decide +kernel
theorem c142_188 : zcod 142 188 = some (.iadd, 1, 0, 0, 0, 0) := by decide +kernel
theorem c142_189 : zcod 142 189 = some (.putfield 208, 3, 9, 29, 825, 0) := by decide +kernel
theorem c142_192 : zcod 142 192 = some (.aload_n 0, 1, 0, 0, 0, 0) := by decide +kernel
theorem c142_193 : zcod 142 193 = some (.iload_n 1, 1, 0, 0, 0, 0) := by decide +kernel
theorem c142_194 : zcod 142 194 = some (.iload_n 3, 1, 0, 0, 0, 0) := by decide +kernel
theorem c142_195 : zcod 142 195 = some (.invokevirtual 204, 3, 143, 2, 1047, 0) := by decide +kernel
theorem c142_198 : zcod 142 198 = some (.aload_n 0, 1, 0, 0, 0, 0) := by decide +kernel
theorem c142_199 : zcod 142 199 = some (.getfield 33, 3, 9, 9, 805, 0) := by decide +kernel
theorem c142_202 : zcod 142 202 = some (.iload_n 1, 1, 0, 0, 0, 0) := by decide +kernel
theorem c142_203 : zcod 142 203 = some (.iload 5, 2, 0, 0, 0, 0) := by decide +kernel
theorem c142_205 : zcod 142 205 = some (.iconst 3, 1, 0, 0, 0, 0) := by decide +kernel
theorem c142_206 : zcod 142 206 = some (.idiv, 1, 0, 0, 0, 0) := by decide +kernel
theorem c142_207 : zcod 142 207 = some (.iastore, 1, 0, 0, 0, 0) := by decide +kernel
theorem c142_208 : zcod 142 208 = some (.aload_n 0, 1, 0, 0, 0, 0) := by decide +kernel
theorem c142_209 : zcod 142 209 = some (.getfield 36, 3, 9, 10, 806, 0) := by decide +kernel
theorem c142_212 : zcod 142 212 = some (.iload_n 1, 1, 0, 0, 0, 0) := by decide +kernel
theorem c142_213 : zcod 142 213 = some (.iload 5, 2, 0, 0, 0, 0) := by decide +kernel
theorem c142_215 : zcod 142 215 = some (.iconst 2, 1, 0, 0, 0, 0) := by decide +kernel
theorem c142_216 : zcod 142 216 = some (.aload_n 0, 1, 0, 0, 0, 0) := by decide +kernel
theorem c142_217 : zcod 142 217 = some (.getfield 33, 3, 9, 9, 805, 0) := by decide +kernel
theorem c142_220 : zcod 142 220 = some (.iload_n 1, 1, 0, 0, 0, 0) := by decide +kernel
theorem c142_221 : zcod 142 221 = some (.iaload, 1, 0, 0, 0, 0) := by decide +kernel
theorem c142_222 : zcod 142 222 = some (.imul, 1, 0, 0, 0, 0) := by decide +kernel
theorem c142_223 : zcod 142 223 = some (.isub, 1, 0, 0, 0, 0) := by decide +kernel
theorem c142_224 : zcod 142 224 = some (.iastore, 1, 0, 0, 0, 0) := by decide +kernel
theorem c142_225 : zcod 142 225 = some (.aload_n 0, 1, 0, 0, 0, 0) := by decide +kernel
theorem c142_226 : zcod 142 226 = some (.getfield 39, 3, 9, 11, 807, 0) := by decide +kernel
theorem c142_229 : zcod 142 229 = some (.iload_n 1, 1, 0, 0, 0, 0) := by decide +kernel
theorem c142_230 : zcod 142 230 = some (.iconst 3, 1, 0, 0, 0, 0) := by decide +kernel
theorem c142_231 : zcod 142 231 = some (.iastore, 1, 0, 0, 0, 0) := by decide +kernel
theorem c142_232 : zcod 142 232 = some (.aload_n 0, 1, 0, 0, 0, 0) := by decide +kernel
theorem c142_233 : zcod 142 233 = some (.getfield 42, 3, 9, 12, 808, 0) := by decide +kernel
theorem c142_236 : zcod 142 236 = some (.iload_n 1, 1, 0, 0, 0, 0) := by decide +kernel
theorem c142_237 : zcod 142 237 = some (.aload_n 0, 1, 0, 0, 0, 0) := by decide +kernel
theorem c142_238 : zcod 142 238 = some (.getfield 198, 3, 9, 24, 820, 0) := by decide +kernel
theorem c142_241 : zcod 142 241 = some (.bipush 100, 2, 0, 0, 0, 0) := by decide +kernel
theorem c142_243 : zcod 142 243 = some (.iadd, 1, 0, 0, 0, 0) := by decide +kernel
theorem c142_244 : zcod 142 244 = some (.iastore, 1, 0, 0, 0, 0) := by decide +kernel
theorem c142_245 : zcod 142 245 = some (.aload_n 0, 1, 0, 0, 0, 0) := by decide +kernel
theorem c142_246 : zcod 142 246 = some (.getfield 45, 3, 9, 13, 809, 0) := by decide +kernel
theorem c142_249 : zcod 142 249 = some (.iload_n 1, 1, 0, 0, 0, 0) := by decide +kernel
theorem c142_250 : zcod 142 250 = some (.iconst 0, 1, 0, 0, 0, 0) := by decide +kernel
theorem c142_251 : zcod 142 251 = some (.iastore, 1, 0, 0, 0, 0) := by decide +kernel
theorem c142_252 : zcod 142 252 = some (.iload_n 3, 1, 0, 0, 0, 0) := by decide +kernel
theorem c142_253 : zcod 142 253 = some (.ireturn, 1, 0, 0, 0, 0) := by decide +kernel
set_option maxRecDepth 100000 in
theorem b142_0 (l0 : Option Nat) (l1 : Int32) (h : zH) : zev 142 0 [some (vR l0), some (vI l1), none, none, none, none] [] h = (zvr h l0 9 (zcI 129 [vR l0, vI l1] h fun x2 h1 => (if x2 = 0 then some (some (vI (-1001)), h1) else (zgR h1 l0 9 21 fun x3 => (zaI h1 x3 l1 fun x4 => (if x4 = 0 then some (some (vI (-1003)), h1) else zev 142 29 [some (vR l0), some (vI l1), some (vI (-1)), some (vI 0), none, none] [] h1)))))) := by
  refine (zv_an c142_0 rfl).trans ?_
  refine (zv_in c142_1 rfl).trans ?_
  refine (zv_viI c142_2 zcn_129 rfl zL_129 (Or.inr zrt_129) rfl rfl).trans (zvr_c (zcI_c fun x2 h1 => ?_))
  refine (zv_ifne c142_5).trans (zif_c ?_ ?_)
  · refine (zv_si (v := -1001) c142_8 (by decide)).trans ?_
    exact zv_ir c142_11 zrt_142
  · refine (zv_an c142_12 rfl).trans ?_
    refine (zv_gR c142_13 zf9_21).trans (zgR_c fun x3 => ?_)
    refine (zv_in c142_16 rfl).trans ?_
    refine (zv_aI c142_17).trans (zaI_c fun x4 => ?_)
    refine (zv_ifne c142_18).trans (zif_c ?_ ?_)
    · refine (zv_si (v := -1003) c142_21 (by decide)).trans ?_
      exact zv_ir c142_24 zrt_142
    · refine (zv_k (v := -1) c142_25 (by decide)).trans ?_
      refine (zv_it c142_26 rfl).trans ?_
      refine (zv_k (v := 0) c142_27 (by decide)).trans ?_
      refine (zv_it c142_28 rfl).trans ?_
      rfl
theorem e142 (l0 : Option Nat) (l1 : Int32) (h : zH) : zcall 142 [vR l0, vI l1] h = (zvr h l0 9 (zcI 129 [vR l0, vI l1] h fun x2 h1 => (if x2 = 0 then some (some (vI (-1001)), h1) else (zgR h1 l0 9 21 fun x3 => (zaI h1 x3 l1 fun x4 => (if x4 = 0 then some (some (vI (-1003)), h1) else zev 142 29 [some (vR l0), some (vI l1), some (vI (-1)), some (vI 0), none, none] [] h1)))))) := by
  refine Eq.trans ?_ (b142_0 l0 l1 h)
  unfold zcall zent
  rw [zL_142]
  rfl
set_option maxRecDepth 100000 in
theorem b142_29 (l0 : Option Nat) (l1 : Int32) (l2 : Int32) (l3 : Int32) (l4 : Option zV) (l5 : Option zV) (h : zH) : zev 142 29 [some (vR l0), some (vI l1), some (vI l2), some (vI l3), l4, l5] [] h = (zgR h l0 9 21 fun x1 => (zaI h x1 l1 fun x2 => (if l3 < x2 then (zgR h l0 9 23 fun x3 => (zaI h x3 ((20 * l1) + l3) fun x4 => (zgR h l0 9 19 fun x5 => (zgR h l0 9 22 fun x6 => (zaI h x6 ((20 * l1) + l3) fun x7 => (zaI h x5 x7 fun x8 => (zdv 4 ((if x8 < (x4 / 4) then zev 142 80 [some (vR l0), some (vI l1), some (vI l2), some (vI l3), some (vI x4), l5] [vI 0] h else zev 142 80 [some (vR l0), some (vI l1), some (vI l2), some (vI l3), some (vI x4), l5] [vI 1] h))))))))) else (zgR h l0 9 21 fun x9 => (ztI h x9 l1 0 fun h10 => (if l2 < 0 then some (some (vI (-1)), h10) else (zgR h10 l0 9 22 fun x11 => (zaI h10 x11 ((20 * l1) + l2) fun x12 => (zgR h10 l0 9 23 fun x13 => (zaI h10 x13 ((20 * l1) + l2) fun x14 => (zdv 4 ((zgR h10 l0 9 19 fun x15 => (zaI h10 x15 x12 fun x16 => (zdv 4 ((ztI h10 x15 x12 (x16 - (x14 / 4)) fun h17 => (zgI h17 l0 9 29 fun x18 => (zdv 4 ((zpI h17 l0 9 29 (x18 + (x14 / 4)) fun h19 => (zvr h19 l0 9 (zcV 143 [vR l0, vI l1, vI x12] h19 fun h20 => (zgR h20 l0 9 9 fun x21 => (zdv 3 ((ztI h20 x21 l1 ((x14 - (x14 / 4)) / 3) fun h22 => (zgR h22 l0 9 10 fun x23 => (zgR h22 l0 9 9 fun x24 => (zaI h22 x24 l1 fun x25 => (ztI h22 x23 l1 ((x14 - (x14 / 4)) - (2 * x25)) fun h26 => (zgR h26 l0 9 11 fun x27 => (ztI h26 x27 l1 3 fun h28 => (zgR h28 l0 9 12 fun x29 => (zgI h28 l0 9 24 fun x30 => (ztI h28 x29 l1 (x30 + 100) fun h31 => (zgR h31 l0 9 13 fun x32 => (ztI h31 x32 l1 0 fun h33 => some (some (vI x12), h33))))))))))))))))))))))))))))))))))))))) := by
  refine (zv_in c142_29 rfl).trans ?_
  refine (zv_an c142_30 rfl).trans ?_
  refine (zv_gR c142_31 zf9_21).trans (zgR_c fun x1 => ?_)
  refine (zv_in c142_34 rfl).trans ?_
  refine (zv_aI c142_35).trans (zaI_c fun x2 => ?_)
  refine (zv_icge c142_36).trans (zif_c ?_ ?_)
  · refine (zv_an c142_39 rfl).trans ?_
    refine (zv_gR c142_40 zf9_23).trans (zgR_c fun x3 => ?_)
    refine (zv_bi (v := 20) c142_43 (by decide)).trans ?_
    refine (zv_in c142_45 rfl).trans ?_
    refine (zv_imul c142_46).trans ?_
    refine (zv_in c142_47 rfl).trans ?_
    refine (zv_iadd c142_48).trans ?_
    refine (zv_aI c142_49).trans (zaI_c fun x4 => ?_)
    refine (zv_is c142_50 rfl).trans ?_
    refine (zv_an c142_52 rfl).trans ?_
    refine (zv_gR c142_53 zf9_19).trans (zgR_c fun x5 => ?_)
    refine (zv_an c142_56 rfl).trans ?_
    refine (zv_gR c142_57 zf9_22).trans (zgR_c fun x6 => ?_)
    refine (zv_bi (v := 20) c142_60 (by decide)).trans ?_
    refine (zv_in c142_62 rfl).trans ?_
    refine (zv_imul c142_63).trans ?_
    refine (zv_in c142_64 rfl).trans ?_
    refine (zv_iadd c142_65).trans ?_
    refine (zv_aI c142_66).trans (zaI_c fun x7 => ?_)
    refine (zv_aI c142_67).trans (zaI_c fun x8 => ?_)
    refine (zv_il c142_68 rfl).trans ?_
    refine (zv_k (v := 4) c142_70 (by decide)).trans ?_
    refine (zv_div c142_71).trans (zdv_c ?_)
    refine (zv_iclt c142_72).trans (zif_c ?_ ?_)
    · refine (zv_k (v := 0) c142_79 (by decide)).trans ?_
      rfl
    · refine (zv_k (v := 1) c142_75 (by decide)).trans ?_
      refine (zv_goto c142_76).trans ?_
      rfl
  · refine (zv_an c142_119 rfl).trans ?_
    refine (zv_gR c142_120 zf9_21).trans (zgR_c fun x9 => ?_)
    refine (zv_in c142_123 rfl).trans ?_
    refine (zv_k (v := 0) c142_124 (by decide)).trans ?_
    refine (zv_tI c142_125).trans (ztI_c fun h10 => ?_)
    refine (zv_in c142_126 rfl).trans ?_
    refine (zv_ifge c142_127).trans (zif_c ?_ ?_)
    · refine (zv_k (v := -1) c142_130 (by decide)).trans ?_
      exact zv_ir c142_131 zrt_142
    · refine (zv_an c142_132 rfl).trans ?_
      refine (zv_gR c142_133 zf9_22).trans (zgR_c fun x11 => ?_)
      refine (zv_bi (v := 20) c142_136 (by decide)).trans ?_
      refine (zv_in c142_138 rfl).trans ?_
      refine (zv_imul c142_139).trans ?_
      refine (zv_in c142_140 rfl).trans ?_
      refine (zv_iadd c142_141).trans ?_
      refine (zv_aI c142_142).trans (zaI_c fun x12 => ?_)
      refine (zv_it c142_143 rfl).trans ?_
      refine (zv_an c142_144 rfl).trans ?_
      refine (zv_gR c142_145 zf9_23).trans (zgR_c fun x13 => ?_)
      refine (zv_bi (v := 20) c142_148 (by decide)).trans ?_
      refine (zv_in c142_150 rfl).trans ?_
      refine (zv_imul c142_151).trans ?_
      refine (zv_in c142_152 rfl).trans ?_
      refine (zv_iadd c142_153).trans ?_
      refine (zv_aI c142_154).trans (zaI_c fun x14 => ?_)
      refine (zv_is c142_155 rfl).trans ?_
      refine (zv_il c142_157 rfl).trans ?_
      refine (zv_il c142_159 rfl).trans ?_
      refine (zv_k (v := 4) c142_161 (by decide)).trans ?_
      refine (zv_div c142_162).trans (zdv_c ?_)
      refine (zv_isub c142_163).trans ?_
      refine (zv_is c142_164 rfl).trans ?_
      refine (zv_an c142_166 rfl).trans ?_
      refine (zv_gR c142_167 zf9_19).trans (zgR_c fun x15 => ?_)
      refine (zv_in c142_170 rfl).trans ?_
      refine (zv_dup2 c142_171 rfl rfl).trans ?_
      refine (zv_aI c142_172).trans (zaI_c fun x16 => ?_)
      refine (zv_il c142_173 rfl).trans ?_
      refine (zv_k (v := 4) c142_175 (by decide)).trans ?_
      refine (zv_div c142_176).trans (zdv_c ?_)
      refine (zv_isub c142_177).trans ?_
      refine (zv_tI c142_178).trans (ztI_c fun h17 => ?_)
      refine (zv_an c142_179 rfl).trans ?_
      refine (zv_dup c142_180 rfl).trans ?_
      refine (zv_gI c142_181 zg9_29).trans (zgI_c fun x18 => ?_)
      refine (zv_il c142_184 rfl).trans ?_
      refine (zv_k (v := 4) c142_186 (by decide)).trans ?_
      refine (zv_div c142_187).trans (zdv_c ?_)
      refine (zv_iadd c142_188).trans ?_
      refine (zv_pI c142_189 zf9_29).trans (zpI_c fun h19 => ?_)
      refine (zv_an c142_192 rfl).trans ?_
      refine (zv_in c142_193 rfl).trans ?_
      refine (zv_in c142_194 rfl).trans ?_
      refine (zv_viV c142_195 zcn_143 rfl zL_143 zrt_143 rfl rfl).trans (zvr_c (zcV_c fun h20 => ?_))
      refine (zv_an c142_198 rfl).trans ?_
      refine (zv_gR c142_199 zf9_9).trans (zgR_c fun x21 => ?_)
      refine (zv_in c142_202 rfl).trans ?_
      refine (zv_il c142_203 rfl).trans ?_
      refine (zv_k (v := 3) c142_205 (by decide)).trans ?_
      refine (zv_div c142_206).trans (zdv_c ?_)
      refine (zv_tI c142_207).trans (ztI_c fun h22 => ?_)
      refine (zv_an c142_208 rfl).trans ?_
      refine (zv_gR c142_209 zf9_10).trans (zgR_c fun x23 => ?_)
      refine (zv_in c142_212 rfl).trans ?_
      refine (zv_il c142_213 rfl).trans ?_
      refine (zv_k (v := 2) c142_215 (by decide)).trans ?_
      refine (zv_an c142_216 rfl).trans ?_
      refine (zv_gR c142_217 zf9_9).trans (zgR_c fun x24 => ?_)
      refine (zv_in c142_220 rfl).trans ?_
      refine (zv_aI c142_221).trans (zaI_c fun x25 => ?_)
      refine (zv_imul c142_222).trans ?_
      refine (zv_isub c142_223).trans ?_
      refine (zv_tI c142_224).trans (ztI_c fun h26 => ?_)
      refine (zv_an c142_225 rfl).trans ?_
      refine (zv_gR c142_226 zf9_11).trans (zgR_c fun x27 => ?_)
      refine (zv_in c142_229 rfl).trans ?_
      refine (zv_k (v := 3) c142_230 (by decide)).trans ?_
      refine (zv_tI c142_231).trans (ztI_c fun h28 => ?_)
      refine (zv_an c142_232 rfl).trans ?_
      refine (zv_gR c142_233 zf9_12).trans (zgR_c fun x29 => ?_)
      refine (zv_in c142_236 rfl).trans ?_
      refine (zv_an c142_237 rfl).trans ?_
      refine (zv_gI c142_238 zg9_24).trans (zgI_c fun x30 => ?_)
      refine (zv_bi (v := 100) c142_241 (by decide)).trans ?_
      refine (zv_iadd c142_243).trans ?_
      refine (zv_tI c142_244).trans (ztI_c fun h31 => ?_)
      refine (zv_an c142_245 rfl).trans ?_
      refine (zv_gR c142_246 zf9_13).trans (zgR_c fun x32 => ?_)
      refine (zv_in c142_249 rfl).trans ?_
      refine (zv_k (v := 0) c142_250 (by decide)).trans ?_
      refine (zv_tI c142_251).trans (ztI_c fun h33 => ?_)
      refine (zv_in c142_252 rfl).trans ?_
      exact zv_ir c142_253 zrt_142
set_option maxRecDepth 100000 in
theorem b142_80 (l0 : Option Nat) (l1 : Int32) (l2 : Int32) (l3 : Int32) (l4 : Int32) (l5 : Option zV) (s0 : Int32) (h : zH) : zev 142 80 [some (vR l0), some (vI l1), some (vI l2), some (vI l3), some (vI l4), l5] [vI s0] h = (if s0 = 0 then zev 142 29 [some (vR l0), some (vI l1), some (vI l2), some (vI (l3 + 1)), some (vI l4), some (vI s0)] [] h else (if l2 < 0 then zev 142 29 [some (vR l0), some (vI l1), some (vI l3), some (vI (l3 + 1)), some (vI l4), some (vI s0)] [] h else (zgR h l0 9 23 fun x1 => (zaI h x1 ((20 * l1) + l2) fun x2 => (if x2 < l4 then zev 142 29 [some (vR l0), some (vI l1), some (vI l3), some (vI (l3 + 1)), some (vI l4), some (vI s0)] [] h else zev 142 29 [some (vR l0), some (vI l1), some (vI l2), some (vI (l3 + 1)), some (vI l4), some (vI s0)] [] h))))) := by
  refine (zv_is c142_80 rfl).trans ?_
  refine (zv_il c142_82 rfl).trans ?_
  refine (zv_ifeq c142_84).trans (zif_c ?_ ?_)
  · refine (zv_in c142_111 rfl).trans ?_
    refine (zv_it c142_112 rfl).trans ?_
    refine (zv_inc (y := 1) c142_113 rfl (by decide) rfl).trans ?_
    refine (zv_goto c142_116).trans ?_
    rfl
  · refine (zv_in c142_87 rfl).trans ?_
    refine (zv_iflt c142_88).trans (zif_c ?_ ?_)
    · refine (zv_in c142_107 rfl).trans ?_
      refine (zv_goto c142_108).trans ?_
      refine (zv_it c142_112 rfl).trans ?_
      refine (zv_inc (y := 1) c142_113 rfl (by decide) rfl).trans ?_
      refine (zv_goto c142_116).trans ?_
      rfl
    · refine (zv_il c142_91 rfl).trans ?_
      refine (zv_an c142_93 rfl).trans ?_
      refine (zv_gR c142_94 zf9_23).trans (zgR_c fun x1 => ?_)
      refine (zv_bi (v := 20) c142_97 (by decide)).trans ?_
      refine (zv_in c142_99 rfl).trans ?_
      refine (zv_imul c142_100).trans ?_
      refine (zv_in c142_101 rfl).trans ?_
      refine (zv_iadd c142_102).trans ?_
      refine (zv_aI c142_103).trans (zaI_c fun x2 => ?_)
      refine (zv_icle c142_104).trans (zif_c ?_ ?_)
      · refine (zv_in c142_107 rfl).trans ?_
        refine (zv_goto c142_108).trans ?_
        refine (zv_it c142_112 rfl).trans ?_
        refine (zv_inc (y := 1) c142_113 rfl (by decide) rfl).trans ?_
        refine (zv_goto c142_116).trans ?_
        rfl
      · refine (zv_in c142_111 rfl).trans ?_
        refine (zv_it c142_112 rfl).trans ?_
        refine (zv_inc (y := 1) c142_113 rfl (by decide) rfl).trans ?_
        refine (zv_goto c142_116).trans ?_
        rfl
theorem c143_0 : zcod 143 0 = some (.aload_n 0, 1, 0, 0, 0, 0) := by decide +kernel
theorem c143_1 : zcod 143 1 = some (.iload_n 1, 1, 0, 0, 0, 0) := by decide +kernel
theorem c143_2 : zcod 143 2 = some (.invokevirtual 179, 3, 134, 1, 1009, 0) := by decide +kernel
theorem c143_5 : zcod 143 5 = some (.istore_n 3, 1, 0, 0, 0, 0) := by decide +kernel
theorem c143_6 : zcod 143 6 = some (.iload_n 3, 1, 0, 0, 0, 0) := by decide +kernel
theorem c143_7 : zcod 143 7 = some (.ifCond .lt 15, 3, 22, 0, 0, 0) := by decide +kernel
theorem c143_10 : zcod 143 10 = some (.iload_n 3, 1, 0, 0, 0, 0) := by decide +kernel
theorem c143_11 : zcod 143 11 = some (.iload_n 2, 1, 0, 0, 0, 0) := by decide +kernel
theorem c143_12 : zcod 143 12 = some (.if_icmp .eq 10, 3, 22, 0, 0, 0) := by decide +kernel
theorem c143_15 : zcod 143 15 = some (.aload_n 0, 1, 0, 0, 0, 0) := by decide +kernel
theorem c143_16 : zcod 143 16 = some (.getfield 60, 3, 9, 20, 816, 0) := by decide +kernel
theorem c143_19 : zcod 143 19 = some (.iload_n 3, 1, 0, 0, 0, 0) := by decide +kernel
theorem c143_20 : zcod 143 20 = some (.iconst (-1), 1, 0, 0, 0, 0) := by decide +kernel
theorem c143_21 : zcod 143 21 = some (.iastore, 1, 0, 0, 0, 0) := by decide +kernel
theorem c143_22 : zcod 143 22 = some (.aload_n 0, 1, 0, 0, 0, 0) := by decide +kernel
theorem c143_23 : zcod 143 23 = some (.getfield 26, 3, 9, 7, 803, 0) := by decide +kernel
theorem c143_26 : zcod 143 26 = some (.iload_n 1, 1, 0, 0, 0, 0) := by decide +kernel
theorem c143_27 : zcod 143 27 = some (.iload_n 2, 1, 0, 0, 0, 0) := by decide +kernel
theorem c143_28 : zcod 143 28 = some (.iastore, 1, 0, 0, 0, 0) := by decide +kernel
theorem c143_29 : zcod 143 29 = some (.aload_n 0, 1, 0, 0, 0, 0) := by decide +kernel
theorem c143_30 : zcod 143 30 = some (.getfield 48, 3, 9, 14, 810, 0) := by decide +kernel
theorem c143_33 : zcod 143 33 = some (.iload_n 1, 1, 0, 0, 0, 0) := by decide +kernel
theorem c143_34 : zcod 143 34 = some (.aload_n 0, 1, 0, 0, 0, 0) := by decide +kernel
theorem c143_35 : zcod 143 35 = some (.getfield 198, 3, 9, 24, 820, 0) := by decide +kernel
theorem c143_38 : zcod 143 38 = some (.iastore, 1, 0, 0, 0, 0) := by decide +kernel
theorem c143_39 : zcod 143 39 = some (.aload_n 0, 1, 0, 0, 0, 0) := by decide +kernel
theorem c143_40 : zcod 143 40 = some (.getfield 72, 3, 9, 32, 828, 0) := by decide +kernel
theorem c143_43 : zcod 143 43 = some (.aload_n 0, 1, 0, 0, 0, 0) := by decide +kernel
theorem c143_44 : zcod 143 44 = some (.getfield 201, 3, 9, 31, 827, 0) := by decide +kernel
theorem c143_47 : zcod 143 47 = some (.iload_n 1, 1, 0, 0, 0, 0) := by decide +kernel
theorem c143_48 : zcod 143 48 = some (.iastore, 1, 0, 0, 0, 0) := by decide +kernel
theorem c143_49 : zcod 143 49 = some (.aload_n 0, 1, 0, 0, 0, 0) := by decide +kernel
theorem c143_50 : zcod 143 50 = some (.getfield 75, 3, 9, 33, 829, 0) := by decide +kernel
theorem c143_53 : zcod 143 53 = some (.aload_n 0, 1, 0, 0, 0, 0) := by decide +kernel
theorem c143_54 : zcod 143 54 = some (.getfield 201, 3, 9, 31, 827, 0) := by decide +kernel
theorem c143_57 : zcod 143 57 = some (.aload_n 0, 1, 0, 0, 0, 0) := by decide +kernel
theorem c143_58 : zcod 143 58 = some (.getfield 198, 3, 9, 24, 820, 0) := by decide +kernel
theorem c143_61 : zcod 143 61 = some (.iastore, 1, 0, 0, 0, 0) := by decide +kernel
theorem c143_62 : zcod 143 62 = some (.aload_n 0, 1, 0, 0, 0, 0) := by decide +kernel
theorem c143_63 : zcod 143 63 = some (.getfield 78, 3, 9, 34, 830, 0) := by decide +kernel
theorem c143_66 : zcod 143 66 = some (.aload_n 0, 1, 0, 0, 0, 0) := by decide +kernel
theorem c143_67 : zcod 143 67 = some (.getfield 201, 3, 9, 31, 827, 0) := by decide +kernel
theorem c143_70 : zcod 143 70 = some (.iload_n 2, 1, 0, 0, 0, 0) := by decide +kernel
theorem c143_71 : zcod 143 71 = some (.iastore, 1, 0, 0, 0, 0) := by decide +kernel
theorem c143_72 : zcod 143 72 = some (.aload_n 0, 1, 0, 0, 0, 0) := by decide +kernel
theorem c143_73 : zcod 143 73 = some (.dup, 1, 0, 0, 0, 0) := by decide +kernel
theorem c143_74 : zcod 143 74 = some (.getfield 201, 3, 9, 31, 827, 0) := by decide +kernel
theorem c143_77 : zcod 143 77 = some (.iconst 1, 1, 0, 0, 0, 0) := by decide +kernel
theorem c143_78 : zcod 143 78 = some (.iadd, 1, 0, 0, 0, 0) := by decide +kernel
theorem c143_79 : zcod 143 79 = some (.putfield 201, 3, 9, 31, 827, 0) := by decide +kernel
theorem c143_82 : zcod 143 82 = some (.return_, 1, 0, 0, 0, 0) := by decide +kernel
set_option maxRecDepth 100000 in
theorem b143_0 (l0 : Option Nat) (l1 : Int32) (l2 : Int32) (h : zH) : zev 143 0 [some (vR l0), some (vI l1), some (vI l2), none] [] h = (zvr h l0 9 (zcI 134 [vR l0, vI l1] h fun x2 h1 => (if x2 < 0 then zev 143 22 [some (vR l0), some (vI l1), some (vI l2), some (vI x2)] [] h1 else (if x2 = l2 then zev 143 22 [some (vR l0), some (vI l1), some (vI l2), some (vI x2)] [] h1 else (zgR h1 l0 9 20 fun x3 => (ztI h1 x3 x2 (-1) fun h4 => zev 143 22 [some (vR l0), some (vI l1), some (vI l2), some (vI x2)] [] h4)))))) := by
  refine (zv_an c143_0 rfl).trans ?_
  refine (zv_in c143_1 rfl).trans ?_
  refine (zv_viI c143_2 zcn_134 rfl zL_134 (Or.inl zrt_134) rfl rfl).trans (zvr_c (zcI_c fun x2 h1 => ?_))
  refine (zv_it c143_5 rfl).trans ?_
  refine (zv_in c143_6 rfl).trans ?_
  refine (zv_iflt c143_7).trans (zif_c ?_ ?_)
  · rfl
  · refine (zv_in c143_10 rfl).trans ?_
    refine (zv_in c143_11 rfl).trans ?_
    refine (zv_iceq c143_12).trans (zif_c ?_ ?_)
    · rfl
    · refine (zv_an c143_15 rfl).trans ?_
      refine (zv_gR c143_16 zf9_20).trans (zgR_c fun x3 => ?_)
      refine (zv_in c143_19 rfl).trans ?_
      refine (zv_k (v := -1) c143_20 (by decide)).trans ?_
      refine (zv_tI c143_21).trans (ztI_c fun h4 => ?_)
      rfl
theorem e143 (l0 : Option Nat) (l1 : Int32) (l2 : Int32) (h : zH) : zcall 143 [vR l0, vI l1, vI l2] h = (zvr h l0 9 (zcI 134 [vR l0, vI l1] h fun x2 h1 => (if x2 < 0 then zev 143 22 [some (vR l0), some (vI l1), some (vI l2), some (vI x2)] [] h1 else (if x2 = l2 then zev 143 22 [some (vR l0), some (vI l1), some (vI l2), some (vI x2)] [] h1 else (zgR h1 l0 9 20 fun x3 => (ztI h1 x3 x2 (-1) fun h4 => zev 143 22 [some (vR l0), some (vI l1), some (vI l2), some (vI x2)] [] h4)))))) := by
  refine Eq.trans ?_ (b143_0 l0 l1 l2 h)
  unfold zcall zent
  rw [zL_143]
  rfl
set_option maxRecDepth 100000 in
theorem b143_22 (l0 : Option Nat) (l1 : Int32) (l2 : Int32) (l3 : Int32) (h : zH) : zev 143 22 [some (vR l0), some (vI l1), some (vI l2), some (vI l3)] [] h = (zgR h l0 9 7 fun x1 => (ztI h x1 l1 l2 fun h2 => (zgR h2 l0 9 14 fun x3 => (zgI h2 l0 9 24 fun x4 => (ztI h2 x3 l1 x4 fun h5 => (zgR h5 l0 9 32 fun x6 => (zgI h5 l0 9 31 fun x7 => (ztI h5 x6 x7 l1 fun h8 => (zgR h8 l0 9 33 fun x9 => (zgI h8 l0 9 31 fun x10 => (zgI h8 l0 9 24 fun x11 => (ztI h8 x9 x10 x11 fun h12 => (zgR h12 l0 9 34 fun x13 => (zgI h12 l0 9 31 fun x14 => (ztI h12 x13 x14 l2 fun h15 => (zgI h15 l0 9 31 fun x16 => (zpI h15 l0 9 31 (x16 + 1) fun h17 => some (none, h17)))))))))))))))))) := by
  refine (zv_an c143_22 rfl).trans ?_
  refine (zv_gR c143_23 zf9_7).trans (zgR_c fun x1 => ?_)
  refine (zv_in c143_26 rfl).trans ?_
  refine (zv_in c143_27 rfl).trans ?_
  refine (zv_tI c143_28).trans (ztI_c fun h2 => ?_)
  refine (zv_an c143_29 rfl).trans ?_
  refine (zv_gR c143_30 zf9_14).trans (zgR_c fun x3 => ?_)
  refine (zv_in c143_33 rfl).trans ?_
  refine (zv_an c143_34 rfl).trans ?_
  refine (zv_gI c143_35 zg9_24).trans (zgI_c fun x4 => ?_)
  refine (zv_tI c143_38).trans (ztI_c fun h5 => ?_)
  refine (zv_an c143_39 rfl).trans ?_
  refine (zv_gR c143_40 zf9_32).trans (zgR_c fun x6 => ?_)
  refine (zv_an c143_43 rfl).trans ?_
  refine (zv_gI c143_44 zg9_31).trans (zgI_c fun x7 => ?_)
  refine (zv_in c143_47 rfl).trans ?_
  refine (zv_tI c143_48).trans (ztI_c fun h8 => ?_)
  refine (zv_an c143_49 rfl).trans ?_
  refine (zv_gR c143_50 zf9_33).trans (zgR_c fun x9 => ?_)
  refine (zv_an c143_53 rfl).trans ?_
  refine (zv_gI c143_54 zg9_31).trans (zgI_c fun x10 => ?_)
  refine (zv_an c143_57 rfl).trans ?_
  refine (zv_gI c143_58 zg9_24).trans (zgI_c fun x11 => ?_)
  refine (zv_tI c143_61).trans (ztI_c fun h12 => ?_)
  refine (zv_an c143_62 rfl).trans ?_
  refine (zv_gR c143_63 zf9_34).trans (zgR_c fun x13 => ?_)
  refine (zv_an c143_66 rfl).trans ?_
  refine (zv_gI c143_67 zg9_31).trans (zgI_c fun x14 => ?_)
  refine (zv_in c143_70 rfl).trans ?_
  refine (zv_tI c143_71).trans (ztI_c fun h15 => ?_)
  refine (zv_an c143_72 rfl).trans ?_
  refine (zv_dup c143_73 rfl).trans ?_
  refine (zv_gI c143_74 zg9_31).trans (zgI_c fun x16 => ?_)
  refine (zv_k (v := 1) c143_77 (by decide)).trans ?_
  refine (zv_iadd c143_78).trans ?_
  refine (zv_pI c143_79 zf9_31).trans (zpI_c fun h17 => ?_)
  exact zv_vr c143_82 zrt_143
theorem c144_0 : zcod 144 0 = some (.aload_n 0, 1, 0, 0, 0, 0) := by decide +kernel
theorem c144_1 : zcod 144 1 = some (.iload_n 1, 1, 0, 0, 0, 0) := by decide +kernel
theorem c144_2 : zcod 144 2 = some (.invokevirtual 182, 3, 129, 1, 990, 0) := by decide +kernel
theorem c144_5 : zcod 144 5 = some (.ifCond .eq 11, 3, 16, 0, 0, 0) := by decide +kernel
theorem c144_8 : zcod 144 8 = some (.aload_n 0, 1, 0, 0, 0, 0) := by decide +kernel
theorem c144_9 : zcod 144 9 = some (.iload_n 2, 1, 0, 0, 0, 0) := by decide +kernel
theorem c144_10 : zcod 144 10 = some (.invokevirtual 193, 3, 140, 1, 1034, 0) := by decide +kernel
theorem c144_13 : zcod 144 13 = some (.ifCond .ne 7, 3, 20, 0, 0, 0) := by decide +kernel
theorem c144_16 : zcod 144 16 = some (.sipush (-1001), 3, 0, 0, 0, 0) := by decide +kernel
theorem c144_19 : zcod 144 19 = some (.ireturn, 1, 0, 0, 0, 0) := by decide +kernel
theorem c144_20 : zcod 144 20 = some (.aload_n 0, 1, 0, 0, 0, 0) := by decide +kernel
theorem c144_21 : zcod 144 21 = some (.getfield 26, 3, 9, 7, 803, 0) := by decide +kernel
theorem c144_24 : zcod 144 24 = some (.iload_n 1, 1, 0, 0, 0, 0) := by decide +kernel
theorem c144_25 : zcod 144 25 = some (.iaload, 1, 0, 0, 0, 0) := by decide +kernel
theorem c144_26 : zcod 144 26 = some (.ifCond .lt 13, 3, 39, 0, 0, 0) := by decide +kernel
theorem c144_29 : zcod 144 29 = some (.aload_n 0, 1, 0, 0, 0, 0) := by decide +kernel
theorem c144_30 : zcod 144 30 = some (.getfield 26, 3, 9, 7, 803, 0) := by decide +kernel
theorem c144_33 : zcod 144 33 = some (.iload_n 1, 1, 0, 0, 0, 0) := by decide +kernel
theorem c144_34 : zcod 144 34 = some (.iaload, 1, 0, 0, 0, 0) := by decide +kernel
theorem c144_35 : zcod 144 35 = some (.iload_n 2, 1, 0, 0, 0, 0) := by decide +kernel
theorem c144_36 : zcod 144 36 = some (.if_icmp .ne 7, 3, 43, 0, 0, 0) := by decide +kernel
theorem c144_39 : zcod 144 39 = some (.sipush (-1003), 3, 0, 0, 0, 0) := by decide +kernel
theorem c144_42 : zcod 144 42 = some (.ireturn, 1, 0, 0, 0, 0) := by decide +kernel
theorem c144_43 : zcod 144 43 = some (.aload_n 0, 1, 0, 0, 0, 0) := by decide +kernel
theorem c144_44 : zcod 144 44 = some (.iload_n 1, 1, 0, 0, 0, 0) := by decide +kernel
theorem c144_45 : zcod 144 45 = some (.iload_n 2, 1, 0, 0, 0, 0) := by decide +kernel
theorem c144_46 : zcod 144 46 = some (.invokevirtual 204, 3, 143, 2, 1047, 0) := by decide +kernel
theorem c144_49 : zcod 144 49 = some (.iconst 1, 1, 0, 0, 0, 0) := by decide +kernel
theorem c144_50 : zcod 144 50 = some (.ireturn, 1, 0, 0, 0, 0) := by decide +kernel
set_option maxRecDepth 100000 in
theorem b144_0 (l0 : Option Nat) (l1 : Int32) (l2 : Int32) (h : zH) : zev 144 0 [some (vR l0), some (vI l1), some (vI l2)] [] h = (zvr h l0 9 (zcI 129 [vR l0, vI l1] h fun x2 h1 => (if x2 = 0 then some (some (vI (-1001)), h1) else (zvr h1 l0 9 (zcI 140 [vR l0, vI l2] h1 fun x4 h3 => (if x4 = 0 then some (some (vI (-1001)), h3) else (zgR h3 l0 9 7 fun x5 => (zaI h3 x5 l1 fun x6 => (if x6 < 0 then some (some (vI (-1003)), h3) else (zgR h3 l0 9 7 fun x7 => (zaI h3 x7 l1 fun x8 => (if x8 = l2 then some (some (vI (-1003)), h3) else (zvr h3 l0 9 (zcV 143 [vR l0, vI l1, vI l2] h3 fun h9 => some (some (vI 1), h9))))))))))))))) := by
  refine (zv_an c144_0 rfl).trans ?_
  refine (zv_in c144_1 rfl).trans ?_
  refine (zv_viI c144_2 zcn_129 rfl zL_129 (Or.inr zrt_129) rfl rfl).trans (zvr_c (zcI_c fun x2 h1 => ?_))
  refine (zv_ifeq c144_5).trans (zif_c ?_ ?_)
  · refine (zv_si (v := -1001) c144_16 (by decide)).trans ?_
    exact zv_ir c144_19 zrt_144
  · refine (zv_an c144_8 rfl).trans ?_
    refine (zv_in c144_9 rfl).trans ?_
    refine (zv_viI c144_10 zcn_140 rfl zL_140 (Or.inr zrt_140) rfl rfl).trans (zvr_c (zcI_c fun x4 h3 => ?_))
    refine (zv_ifne c144_13).trans (zif_c ?_ ?_)
    · refine (zv_si (v := -1001) c144_16 (by decide)).trans ?_
      exact zv_ir c144_19 zrt_144
    · refine (zv_an c144_20 rfl).trans ?_
      refine (zv_gR c144_21 zf9_7).trans (zgR_c fun x5 => ?_)
      refine (zv_in c144_24 rfl).trans ?_
      refine (zv_aI c144_25).trans (zaI_c fun x6 => ?_)
      refine (zv_iflt c144_26).trans (zif_c ?_ ?_)
      · refine (zv_si (v := -1003) c144_39 (by decide)).trans ?_
        exact zv_ir c144_42 zrt_144
      · refine (zv_an c144_29 rfl).trans ?_
        refine (zv_gR c144_30 zf9_7).trans (zgR_c fun x7 => ?_)
        refine (zv_in c144_33 rfl).trans ?_
        refine (zv_aI c144_34).trans (zaI_c fun x8 => ?_)
        refine (zv_in c144_35 rfl).trans ?_
        refine (zv_icne c144_36).trans (zif_c ?_ ?_)
        · refine (zv_si (v := -1003) c144_39 (by decide)).trans ?_
          exact zv_ir c144_42 zrt_144
        · refine (zv_an c144_43 rfl).trans ?_
          refine (zv_in c144_44 rfl).trans ?_
          refine (zv_in c144_45 rfl).trans ?_
          refine (zv_viV c144_46 zcn_143 rfl zL_143 zrt_143 rfl rfl).trans (zvr_c (zcV_c fun h9 => ?_))
          refine (zv_k (v := 1) c144_49 (by decide)).trans ?_
          exact zv_ir c144_50 zrt_144
theorem e144 (l0 : Option Nat) (l1 : Int32) (l2 : Int32) (h : zH) : zcall 144 [vR l0, vI l1, vI l2] h = (zvr h l0 9 (zcI 129 [vR l0, vI l1] h fun x2 h1 => (if x2 = 0 then some (some (vI (-1001)), h1) else (zvr h1 l0 9 (zcI 140 [vR l0, vI l2] h1 fun x4 h3 => (if x4 = 0 then some (some (vI (-1001)), h3) else (zgR h3 l0 9 7 fun x5 => (zaI h3 x5 l1 fun x6 => (if x6 < 0 then some (some (vI (-1003)), h3) else (zgR h3 l0 9 7 fun x7 => (zaI h3 x7 l1 fun x8 => (if x8 = l2 then some (some (vI (-1003)), h3) else (zvr h3 l0 9 (zcV 143 [vR l0, vI l1, vI l2] h3 fun h9 => some (some (vI 1), h9))))))))))))))) := by
  refine Eq.trans ?_ (b144_0 l0 l1 l2 h)
  unfold zcall zent
  rw [zL_144]
  rfl
