theorem c0_0 : zcod 0 0 = some (.aload_n 0, 1, 0, 0, 0, 0) := by decide +kernel
theorem c0_1 : zcod 0 1 = some (.invokespecial 3, 3, 1, 0, 71, 0) := by decide +kernel
theorem c0_4 : zcod 0 4 = some (.aload_n 0, 1, 0, 0, 0, 0) := by decide +kernel
theorem c0_5 : zcod 0 5 = some (.new 9, 3, 6, 0, 74, 0) := by decide +kernel
theorem c0_8 : zcod 0 8 = some (.dup, 1, 0, 0, 0, 0) := by decide +kernel
theorem c0_9 : zcod 0 9 = some (.invokespecial 11, 3, 2, 0, 76, 1) := by decide +kernel
theorem c0_12 : zcod 0 12 = some (.putfield 12, 3, 8, 0, 219, 0) := by decide +kernel
theorem c0_15 : zcod 0 15 = some (.aload_n 0, 1, 0, 0, 0, 0) := by decide +kernel
theorem c0_16 : zcod 0 16 = some (.new 16, 3, 3, 0, 103, 0) := by decide +kernel
theorem c0_19 : zcod 0 19 = some (.dup, 1, 0, 0, 0, 0) := by decide +kernel
theorem c0_20 : zcod 0 20 = some (.invokespecial 18, 3, 3, 0, 105, 1) := by decide +kernel
theorem c0_23 : zcod 0 23 = some (.putfield 19, 3, 8, 1, 220, 0) := by decide +kernel
theorem c0_26 : zcod 0 26 = some (.return_, 1, 0, 0, 0, 0) := by decide +kernel
set_option maxRecDepth 100000 in
theorem b0_0 (l0 : Option Nat) (h : zH) : zev 0 0 [some (vR l0)] [] h = (zul l0 none ((zno h 6 fun x1 h2 => (zul x1 none (zcV 2 [vR x1] h2 fun h3 => (zpR h3 l0 8 0 x1 fun h4 => (zno h4 3 fun x5 h6 => (zul x5 none (zcV 3 [vR x5] h6 fun h7 => (zpR h7 l0 8 1 x5 fun h8 => some (none, h8))))))))))) := by
  refine (zv_an c0_0 rfl).trans ?_
  refine (zv_ob c0_1 (zle rfl)).trans (zul_c rfl ?_)
  refine (zv_an c0_4 rfl).trans ?_
  refine (zv_new c0_5).trans (zno_c fun x1 h2 => ?_)
  refine (zv_dup c0_8 rfl).trans ?_
  refine (zv_spV c0_9 (by decide) rfl zL_2 zrt_2 rfl rfl).trans (zul_c rfl (zcV_c fun h3 => ?_))
  refine (zv_pR c0_12 zf8_0).trans (zpR_c fun h4 => ?_)
  refine (zv_an c0_15 rfl).trans ?_
  refine (zv_new c0_16).trans (zno_c fun x5 h6 => ?_)
  refine (zv_dup c0_19 rfl).trans ?_
  refine (zv_spV c0_20 (by decide) rfl zL_3 zrt_3 rfl rfl).trans (zul_c rfl (zcV_c fun h7 => ?_))
  refine (zv_pR c0_23 zf8_1).trans (zpR_c fun h8 => ?_)
  exact zv_vr c0_26 zrt_0
theorem e0 (l0 : Option Nat) (h : zH) : zcall 0 [vR l0] h = (zul l0 none ((zno h 6 fun x1 h2 => (zul x1 none (zcV 2 [vR x1] h2 fun h3 => (zpR h3 l0 8 0 x1 fun h4 => (zno h4 3 fun x5 h6 => (zul x5 none (zcV 3 [vR x5] h6 fun h7 => (zpR h7 l0 8 1 x5 fun h8 => some (none, h8))))))))))) := by
  refine Eq.trans ?_ (b0_0 l0 h)
  unfold zcall zent
  rw [zL_0]
  rfl
theorem c2_0 : zcod 2 0 = some (.aload_n 0, 1, 0, 0, 0, 0) := by decide +kernel
theorem c2_1 : zcod 2 1 = some (.invokespecial 3, 3, 1, 0, 79, 0) := by decide +kernel
theorem c2_4 : zcod 2 4 = some (.aload_n 0, 1, 0, 0, 0, 0) := by decide +kernel
theorem c2_5 : zcod 2 5 = some (.sipush 200, 3, 0, 0, 0, 0) := by decide +kernel
theorem c2_8 : zcod 2 8 = some (.newarray .byte, 2, 101, 0, 0, 0) := by decide +kernel
theorem c2_10 : zcod 2 10 = some (.putfield 9, 3, 6, 0, 80, 0) := by decide +kernel
theorem c2_13 : zcod 2 13 = some (.aload_n 0, 1, 0, 0, 0, 0) := by decide +kernel
theorem c2_14 : zcod 2 14 = some (.iconst 5, 1, 0, 0, 0, 0) := by decide +kernel
theorem c2_15 : zcod 2 15 = some (.newarray .int, 2, 100, 0, 0, 0) := by decide +kernel
theorem c2_17 : zcod 2 17 = some (.putfield 15, 3, 6, 1, 81, 0) := by decide +kernel
theorem c2_20 : zcod 2 20 = some (.aload_n 0, 1, 0, 0, 0, 0) := by decide +kernel
theorem c2_21 : zcod 2 21 = some (.iconst (-1), 1, 0, 0, 0, 0) := by decide +kernel
theorem c2_22 : zcod 2 22 = some (.putfield 19, 3, 6, 3, 84, 0) := by decide +kernel
theorem c2_25 : zcod 2 25 = some (.return_, 1, 0, 0, 0, 0) := by decide +kernel
set_option maxRecDepth 100000 in
theorem b2_0 (l0 : Option Nat) (h : zH) : zev 2 0 [some (vR l0)] [] h = (zul l0 none ((zna h 101 200 fun x1 h2 => (zpR h2 l0 6 0 x1 fun h3 => (zna h3 100 5 fun x4 h5 => (zpR h5 l0 6 1 x4 fun h6 => (zpI h6 l0 6 3 (-1) fun h7 => some (none, h7)))))))) := by
  refine (zv_an c2_0 rfl).trans ?_
  refine (zv_ob c2_1 (zle rfl)).trans (zul_c rfl ?_)
  refine (zv_an c2_4 rfl).trans ?_
  refine (zv_si (v := 200) c2_5 (by decide)).trans ?_
  refine (zv_na c2_8).trans (zna_c fun x1 h2 => ?_)
  refine (zv_pR c2_10 zf6_0).trans (zpR_c fun h3 => ?_)
  refine (zv_an c2_13 rfl).trans ?_
  refine (zv_k (v := 5) c2_14 (by decide)).trans ?_
  refine (zv_na c2_15).trans (zna_c fun x4 h5 => ?_)
  refine (zv_pR c2_17 zf6_1).trans (zpR_c fun h6 => ?_)
  refine (zv_an c2_20 rfl).trans ?_
  refine (zv_k (v := -1) c2_21 (by decide)).trans ?_
  refine (zv_pI c2_22 zf6_3).trans (zpI_c fun h7 => ?_)
  exact zv_vr c2_25 zrt_2
theorem e2 (l0 : Option Nat) (h : zH) : zcall 2 [vR l0] h = (zul l0 none ((zna h 101 200 fun x1 h2 => (zpR h2 l0 6 0 x1 fun h3 => (zna h3 100 5 fun x4 h5 => (zpR h5 l0 6 1 x4 fun h6 => (zpI h6 l0 6 3 (-1) fun h7 => some (none, h7)))))))) := by
  refine Eq.trans ?_ (b2_0 l0 h)
  unfold zcall zent
  rw [zL_2]
  rfl
theorem c3_0 : zcod 3 0 = some (.aload_n 0, 1, 0, 0, 0, 0) := by decide +kernel
theorem c3_1 : zcod 3 1 = some (.invokespecial 3, 3, 1, 0, 108, 0) := by decide +kernel
theorem c3_4 : zcod 3 4 = some (.aload_n 0, 1, 0, 0, 0, 0) := by decide +kernel
theorem c3_5 : zcod 3 5 = some (.new 9, 3, 5, 0, 109, 0) := by decide +kernel
theorem c3_8 : zcod 3 8 = some (.dup, 1, 0, 0, 0, 0) := by decide +kernel
theorem c3_9 : zcod 3 9 = some (.invokespecial 11, 3, 4, 0, 111, 0) := by decide +kernel
theorem c3_12 : zcod 3 12 = some (.putfield 12, 3, 3, 0, 182, 0) := by decide +kernel
theorem c3_15 : zcod 3 15 = some (.aload_n 0, 1, 0, 0, 0, 0) := by decide +kernel
theorem c3_16 : zcod 3 16 = some (.new 18, 3, 4, 0, 167, 0) := by decide +kernel
theorem c3_19 : zcod 3 19 = some (.dup, 1, 0, 0, 0, 0) := by decide +kernel
theorem c3_20 : zcod 3 20 = some (.invokespecial 20, 3, 9, 0, 169, 1) := by decide +kernel
theorem c3_23 : zcod 3 23 = some (.putfield 21, 3, 3, 1, 184, 0) := by decide +kernel
theorem c3_26 : zcod 3 26 = some (.return_, 1, 0, 0, 0, 0) := by decide +kernel
set_option maxRecDepth 100000 in
theorem b3_0 (l0 : Option Nat) (h : zH) : zev 3 0 [some (vR l0)] [] h = (zul l0 none ((zno h 5 fun x1 h2 => (zul x1 none (zcV 4 [vR x1] h2 fun h3 => (zpR h3 l0 3 0 x1 fun h4 => (zno h4 4 fun x5 h6 => (zul x5 none (zcV 9 [vR x5] h6 fun h7 => (zpR h7 l0 3 1 x5 fun h8 => some (none, h8))))))))))) := by
  refine (zv_an c3_0 rfl).trans ?_
  refine (zv_ob c3_1 (zle rfl)).trans (zul_c rfl ?_)
  refine (zv_an c3_4 rfl).trans ?_
  refine (zv_new c3_5).trans (zno_c fun x1 h2 => ?_)
  refine (zv_dup c3_8 rfl).trans ?_
  refine (zv_spV c3_9 (by decide) rfl zL_4 zrt_4 rfl rfl).trans (zul_c rfl (zcV_c fun h3 => ?_))
  refine (zv_pR c3_12 zf3_0).trans (zpR_c fun h4 => ?_)
  refine (zv_an c3_15 rfl).trans ?_
  refine (zv_new c3_16).trans (zno_c fun x5 h6 => ?_)
  refine (zv_dup c3_19 rfl).trans ?_
  refine (zv_spV c3_20 (by decide) rfl zL_9 zrt_9 rfl rfl).trans (zul_c rfl (zcV_c fun h7 => ?_))
  refine (zv_pR c3_23 zf3_1).trans (zpR_c fun h8 => ?_)
  exact zv_vr c3_26 zrt_3
theorem e3 (l0 : Option Nat) (h : zH) : zcall 3 [vR l0] h = (zul l0 none ((zno h 5 fun x1 h2 => (zul x1 none (zcV 4 [vR x1] h2 fun h3 => (zpR h3 l0 3 0 x1 fun h4 => (zno h4 4 fun x5 h6 => (zul x5 none (zcV 9 [vR x5] h6 fun h7 => (zpR h7 l0 3 1 x5 fun h8 => some (none, h8))))))))))) := by
  refine Eq.trans ?_ (b3_0 l0 h)
  unfold zcall zent
  rw [zL_3]
  rfl
theorem c4_0 : zcod 4 0 = some (.aload_n 0, 1, 0, 0, 0, 0) := by decide +kernel
theorem c4_1 : zcod 4 1 = some (.invokespecial 3, 3, 1, 0, 114, 0) := by decide +kernel
theorem c4_4 : zcod 4 4 = some (.aload_n 0, 1, 0, 0, 0, 0) := by decide +kernel
theorem c4_5 : zcod 4 5 = some (.sipush 320, 3, 0, 0, 0, 0) := by decide +kernel
theorem c4_8 : zcod 4 8 = some (.newarray .int, 2, 100, 0, 0, 0) := by decide +kernel
theorem c4_10 : zcod 4 10 = some (.putfield 9, 3, 5, 0, 145, 0) := by decide +kernel
theorem c4_13 : zcod 4 13 = some (.aload_n 0, 1, 0, 0, 0, 0) := by decide +kernel
theorem c4_14 : zcod 4 14 = some (.bipush 12, 2, 0, 0, 0, 0) := by decide +kernel
theorem c4_16 : zcod 4 16 = some (.newarray .boolean, 2, 102, 0, 0, 0) := by decide +kernel
theorem c4_18 : zcod 4 18 = some (.putfield 15, 3, 5, 1, 146, 0) := by decide +kernel
theorem c4_21 : zcod 4 21 = some (.aload_n 0, 1, 0, 0, 0, 0) := by decide +kernel
theorem c4_22 : zcod 4 22 = some (.new 19, 3, 0, 0, 115, 0) := by decide +kernel
theorem c4_25 : zcod 4 25 = some (.dup, 1, 0, 0, 0, 0) := by decide +kernel
theorem c4_26 : zcod 4 26 = some (.invokespecial 21, 3, 5, 0, 117, 0) := by decide +kernel
theorem c4_29 : zcod 4 29 = some (.putfield 22, 3, 5, 2, 147, 0) := by decide +kernel
theorem c4_32 : zcod 4 32 = some (.aload_n 0, 1, 0, 0, 0, 0) := by decide +kernel
theorem c4_33 : zcod 4 33 = some (.getfield 9, 3, 5, 0, 145, 0) := by decide +kernel
theorem c4_36 : zcod 4 36 = some (.iconst (-1), 1, 0, 0, 0, 0) := by decide +kernel
theorem c4_37 : zcod 4 37 = some (.invokestatic 26, 3, 8, 2, 142, 0) := by decide +kernel
theorem c4_40 : zcod 4 40 = some (.return_, 1, 0, 0, 0, 0) := by decide +kernel
set_option maxRecDepth 100000 in
theorem b4_0 (l0 : Option Nat) (h : zH) : zev 4 0 [some (vR l0)] [] h = (zul l0 none ((zna h 100 320 fun x1 h2 => (zpR h2 l0 5 0 x1 fun h3 => (zna h3 102 12 fun x4 h5 => (zpR h5 l0 5 1 x4 fun h6 => (zno h6 0 fun x7 h8 => (zul x7 none (zcV 5 [vR x7] h8 fun h9 => (zpR h9 l0 5 2 x7 fun h10 => (zgR h10 l0 5 0 fun x11 => (zcV 8 [vR x11, vI (-1)] h10 fun h12 => some (none, h12))))))))))))) := by
  refine (zv_an c4_0 rfl).trans ?_
  refine (zv_ob c4_1 (zle rfl)).trans (zul_c rfl ?_)
  refine (zv_an c4_4 rfl).trans ?_
  refine (zv_si (v := 320) c4_5 (by decide)).trans ?_
  refine (zv_na c4_8).trans (zna_c fun x1 h2 => ?_)
  refine (zv_pR c4_10 zf5_0).trans (zpR_c fun h3 => ?_)
  refine (zv_an c4_13 rfl).trans ?_
  refine (zv_bi (v := 12) c4_14 (by decide)).trans ?_
  refine (zv_na c4_16).trans (zna_c fun x4 h5 => ?_)
  refine (zv_pR c4_18 zf5_1).trans (zpR_c fun h6 => ?_)
  refine (zv_an c4_21 rfl).trans ?_
  refine (zv_new c4_22).trans (zno_c fun x7 h8 => ?_)
  refine (zv_dup c4_25 rfl).trans ?_
  refine (zv_spV c4_26 (by decide) rfl zL_5 zrt_5 rfl rfl).trans (zul_c rfl (zcV_c fun h9 => ?_))
  refine (zv_pR c4_29 zf5_2).trans (zpR_c fun h10 => ?_)
  refine (zv_an c4_32 rfl).trans ?_
  refine (zv_gR c4_33 zf5_0).trans (zgR_c fun x11 => ?_)
  refine (zv_k (v := -1) c4_36 (by decide)).trans ?_
  refine (zv_stV c4_37 (by decide) rfl zL_8 zrt_8 rfl rfl).trans (zcV_c fun h12 => ?_)
  exact zv_vr c4_40 zrt_4
theorem e4 (l0 : Option Nat) (h : zH) : zcall 4 [vR l0] h = (zul l0 none ((zna h 100 320 fun x1 h2 => (zpR h2 l0 5 0 x1 fun h3 => (zna h3 102 12 fun x4 h5 => (zpR h5 l0 5 1 x4 fun h6 => (zno h6 0 fun x7 h8 => (zul x7 none (zcV 5 [vR x7] h8 fun h9 => (zpR h9 l0 5 2 x7 fun h10 => (zgR h10 l0 5 0 fun x11 => (zcV 8 [vR x11, vI (-1)] h10 fun h12 => some (none, h12))))))))))))) := by
  refine Eq.trans ?_ (b4_0 l0 h)
  unfold zcall zent
  rw [zL_4]
  rfl
theorem c5_0 : zcod 5 0 = some (.aload_n 0, 1, 0, 0, 0, 0) := by decide +kernel
theorem c5_1 : zcod 5 1 = some (.invokespecial 1, 3, 6, 0, 120, 0) := by decide +kernel
theorem c5_4 : zcod 5 4 = some (.aload_n 0, 1, 0, 0, 0, 0) := by decide +kernel
theorem c5_5 : zcod 5 5 = some (.getstatic 39, 3, 7, 0, 127, 0) := by decide +kernel
theorem c5_8 : zcod 5 8 = some (.putfield 9, 3, 0, 1, 129, 0) := by decide +kernel
theorem c5_11 : zcod 5 11 = some (.return_, 1, 0, 0, 0, 0) := by decide +kernel
set_option maxRecDepth 100000 in
theorem b5_0 (l0 : Option Nat) (h : zH) : zev 5 0 [some (vR l0)] [] h = (zul l0 none (zcV 6 [vR l0] h fun h1 => (zpR h1 l0 0 1 (some 7) fun h2 => some (none, h2)))) := by
  refine (zv_an c5_0 rfl).trans ?_
  refine (zv_spV c5_1 (by decide) rfl zL_6 zrt_6 rfl rfl).trans (zul_c rfl (zcV_c fun h1 => ?_))
  refine (zv_an c5_4 rfl).trans ?_
  refine (zv_gs c5_5).trans ?_
  refine (zv_pR c5_8 zf0_1).trans (zpR_c fun h2 => ?_)
  exact zv_vr c5_11 zrt_5
theorem e5 (l0 : Option Nat) (h : zH) : zcall 5 [vR l0] h = (zul l0 none (zcV 6 [vR l0] h fun h1 => (zpR h1 l0 0 1 (some 7) fun h2 => some (none, h2)))) := by
  refine Eq.trans ?_ (b5_0 l0 h)
  unfold zcall zent
  rw [zL_5]
  rfl
theorem c6_0 : zcod 6 0 = some (.aload_n 0, 1, 0, 0, 0, 0) := by decide +kernel
theorem c6_1 : zcod 6 1 = some (.invokespecial 1, 3, 7, 0, 123, 0) := by decide +kernel
theorem c6_4 : zcod 6 4 = some (.aload_n 0, 1, 0, 0, 0, 0) := by decide +kernel
theorem c6_5 : zcod 6 5 = some (.iconst 0, 1, 0, 0, 0, 0) := by decide +kernel
theorem c6_6 : zcod 6 6 = some (.putfield 7, 3, 0, 0, 131, 0) := by decide +kernel
theorem c6_9 : zcod 6 9 = some (.return_, 1, 0, 0, 0, 0) := by decide +kernel
set_option maxRecDepth 100000 in
theorem b6_0 (l0 : Option Nat) (h : zH) : zev 6 0 [some (vR l0)] [] h = (zul l0 none (zcV 7 [vR l0] h fun h1 => (zpI h1 l0 0 0 0 fun h2 => some (none, h2)))) := by
  refine (zv_an c6_0 rfl).trans ?_
  refine (zv_spV c6_1 (by decide) rfl zL_7 zrt_7 rfl rfl).trans (zul_c rfl (zcV_c fun h1 => ?_))
  refine (zv_an c6_4 rfl).trans ?_
  refine (zv_k (v := 0) c6_5 (by decide)).trans ?_
  refine (zv_pI c6_6 zf0_0).trans (zpI_c fun h2 => ?_)
  exact zv_vr c6_9 zrt_6
theorem e6 (l0 : Option Nat) (h : zH) : zcall 6 [vR l0] h = (zul l0 none (zcV 7 [vR l0] h fun h1 => (zpI h1 l0 0 0 0 fun h2 => some (none, h2)))) := by
  refine Eq.trans ?_ (b6_0 l0 h)
  unfold zcall zent
  rw [zL_6]
  rfl
theorem c7_0 : zcod 7 0 = some (.aload_n 0, 1, 0, 0, 0, 0) := by decide +kernel
theorem c7_1 : zcod 7 1 = some (.invokespecial 1, 3, 1, 0, 126, 0) := by decide +kernel
theorem c7_4 : zcod 7 4 = some (.return_, 1, 0, 0, 0, 0) := by decide +kernel
set_option maxRecDepth 100000 in
theorem b7_0 (l0 : Option Nat) (h : zH) : zev 7 0 [some (vR l0)] [] h = (zul l0 none (some (none, h))) := by
  refine (zv_an c7_0 rfl).trans ?_
  refine (zv_ob c7_1 (zle rfl)).trans (zul_c rfl ?_)
  exact zv_vr c7_4 zrt_7
theorem e7 (l0 : Option Nat) (h : zH) : zcall 7 [vR l0] h = (zul l0 none (some (none, h))) := by
  refine Eq.trans ?_ (b7_0 l0 h)
  unfold zcall zent
  rw [zL_7]
  rfl
theorem c8_0 : zcod 8 0 = some (.iconst 0, 1, 0, 0, 0, 0) := by decide +kernel
theorem c8_1 : zcod 8 1 = some (.istore_n 2, 1, 0, 0, 0, 0) := by decide +kernel
theorem c8_2 : zcod 8 2 = some (.aload_n 0, 1, 0, 0, 0, 0) := by decide +kernel
theorem c8_3 : zcod 8 3 = some (.arraylength, 1, 0, 0, 0, 0) := by decide +kernel
theorem c8_4 : zcod 8 4 = some (.istore_n 3, 1, 0, 0, 0, 0) := by decide +kernel
theorem c8_5 : zcod 8 5 = some (.iload_n 2, 1, 0, 0, 0, 0) := by decide +kernel
theorem c8_6 : zcod 8 6 = some (.iload_n 3, 1, 0, 0, 0, 0) := by decide +kernel
theorem c8_7 : zcod 8 7 = some (.if_icmp .ge 13, 3, 20, 0, 0, 0) := by decide +kernel
theorem c8_10 : zcod 8 10 = some (.aload_n 0, 1, 0, 0, 0, 0) := by decide +kernel
theorem c8_11 : zcod 8 11 = some (.iload_n 2, 1, 0, 0, 0, 0) := by decide +kernel
theorem c8_12 : zcod 8 12 = some (.iload_n 1, 1, 0, 0, 0, 0) := by decide +kernel
theorem c8_13 : zcod 8 13 = some (.iastore, 1, 0, 0, 0, 0) := by decide +kernel
theorem c8_14 : zcod 8 14 = some (.iinc 2 1, 3, 0, 0, 0, 0) := by decide +kernel
theorem c8_17 : zcod 8 17 = some (.goto (-12), 3, 5, 0, 0, 0) := by decide +kernel
theorem c8_20 : zcod 8 20 = some (.return_, 1, 0, 0, 0, 0) := by decide +kernel
set_option maxRecDepth 100000 in
theorem b8_0 (l0 : Option Nat) (l1 : Int32) (h : zH) : zev 8 0 [some (vR l0), some (vI l1), none, none] [] h = (zal h l0 fun x1 => zev 8 5 [some (vR l0), some (vI l1), some (vI 0), some (vI x1)] [] h) := by
  refine (zv_k (v := 0) c8_0 (by decide)).trans ?_
  refine (zv_it c8_1 rfl).trans ?_
  refine (zv_an c8_2 rfl).trans ?_
  refine (zv_al2 c8_3).trans (zal_c fun x1 => ?_)
  refine (zv_it c8_4 rfl).trans ?_
  rfl
theorem e8 (l0 : Option Nat) (l1 : Int32) (h : zH) : zcall 8 [vR l0, vI l1] h = (zal h l0 fun x1 => zev 8 5 [some (vR l0), some (vI l1), some (vI 0), some (vI x1)] [] h) := by
  refine Eq.trans ?_ (b8_0 l0 l1 h)
  unfold zcall zent
  rw [zL_8]
  rfl
set_option maxRecDepth 100000 in
theorem b8_5 (l0 : Option Nat) (l1 : Int32) (l2 : Int32) (l3 : Int32) (h : zH) : zev 8 5 [some (vR l0), some (vI l1), some (vI l2), some (vI l3)] [] h = (if l2 < l3 then (ztI h l0 l2 l1 fun h1 => zev 8 5 [some (vR l0), some (vI l1), some (vI (l2 + 1)), some (vI l3)] [] h1) else some (none, h)) := by
  refine (zv_in c8_5 rfl).trans ?_
  refine (zv_in c8_6 rfl).trans ?_
  refine (zv_icge c8_7).trans (zif_c ?_ ?_)
  · refine (zv_an c8_10 rfl).trans ?_
    refine (zv_in c8_11 rfl).trans ?_
    refine (zv_in c8_12 rfl).trans ?_
    refine (zv_tI c8_13).trans (ztI_c fun h1 => ?_)
    refine (zv_inc (y := 1) c8_14 rfl (by decide) rfl).trans ?_
    refine (zv_goto c8_17).trans ?_
    rfl
  · exact zv_vr c8_20 zrt_8
theorem c9_0 : zcod 9 0 = some (.aload_n 0, 1, 0, 0, 0, 0) := by decide +kernel
theorem c9_1 : zcod 9 1 = some (.invokespecial 3, 3, 1, 0, 172, 0) := by decide +kernel
theorem c9_4 : zcod 9 4 = some (.aload_n 0, 1, 0, 0, 0, 0) := by decide +kernel
theorem c9_5 : zcod 9 5 = some (.bipush 20, 2, 0, 0, 0, 0) := by decide +kernel
theorem c9_7 : zcod 9 7 = some (.newarray .int, 2, 100, 0, 0, 0) := by decide +kernel
theorem c9_9 : zcod 9 9 = some (.putfield 9, 3, 4, 0, 173, 0) := by decide +kernel
theorem c9_12 : zcod 9 12 = some (.return_, 1, 0, 0, 0, 0) := by decide +kernel
set_option maxRecDepth 100000 in
theorem b9_0 (l0 : Option Nat) (h : zH) : zev 9 0 [some (vR l0)] [] h = (zul l0 none ((zna h 100 20 fun x1 h2 => (zpR h2 l0 4 0 x1 fun h3 => some (none, h3))))) := by
  refine (zv_an c9_0 rfl).trans ?_
  refine (zv_ob c9_1 (zle rfl)).trans (zul_c rfl ?_)
  refine (zv_an c9_4 rfl).trans ?_
  refine (zv_bi (v := 20) c9_5 (by decide)).trans ?_
  refine (zv_na c9_7).trans (zna_c fun x1 h2 => ?_)
  refine (zv_pR c9_9 zf4_0).trans (zpR_c fun h3 => ?_)
  exact zv_vr c9_12 zrt_9
theorem e9 (l0 : Option Nat) (h : zH) : zcall 9 [vR l0] h = (zul l0 none ((zna h 100 20 fun x1 h2 => (zpR h2 l0 4 0 x1 fun h3 => some (none, h3))))) := by
  refine Eq.trans ?_ (b9_0 l0 h)
  unfold zcall zent
  rw [zL_9]
  rfl
theorem c10_0 : zcod 10 0 = some (.iload_n 1, 1, 0, 0, 0, 0) := by decide +kernel
theorem c10_1 : zcod 10 1 = some (.iconst 1, 1, 0, 0, 0, 0) := by decide +kernel
theorem c10_2 : zcod 10 2 = some (.if_icmp .lt 9, 3, 11, 0, 0, 0) := by decide +kernel
theorem c10_5 : zcod 10 5 = some (.iload_n 1, 1, 0, 0, 0, 0) := by decide +kernel
theorem c10_6 : zcod 10 6 = some (.bipush 8, 2, 0, 0, 0, 0) := by decide +kernel
theorem c10_8 : zcod 10 8 = some (.if_icmp .le 7, 3, 15, 0, 0, 0) := by decide +kernel
theorem c10_11 : zcod 10 11 = some (.sipush (-1002), 3, 0, 0, 0, 0) := by decide +kernel
theorem c10_14 : zcod 10 14 = some (.ireturn, 1, 0, 0, 0, 0) := by decide +kernel
theorem c10_15 : zcod 10 15 = some (.aload_n 0, 1, 0, 0, 0, 0) := by decide +kernel
theorem c10_16 : zcod 10 16 = some (.getfield 12, 3, 8, 0, 219, 0) := by decide +kernel
theorem c10_19 : zcod 10 19 = some (.iload_n 1, 1, 0, 0, 0, 0) := by decide +kernel
theorem c10_20 : zcod 10 20 = some (.lload_n 2, 1, 0, 0, 0, 0) := by decide +kernel
theorem c10_21 : zcod 10 21 = some (.invokevirtual 23, 3, 11, 2, 230, 0) := by decide +kernel
theorem c10_24 : zcod 10 24 = some (.ifCond .eq 13, 3, 37, 0, 0, 0) := by decide +kernel
theorem c10_27 : zcod 10 27 = some (.aload_n 0, 1, 0, 0, 0, 0) := by decide +kernel
theorem c10_28 : zcod 10 28 = some (.getfield 12, 3, 8, 0, 219, 0) := by decide +kernel
theorem c10_31 : zcod 10 31 = some (.getfield 27, 3, 6, 2, 83, 0) := by decide +kernel
theorem c10_34 : zcod 10 34 = some (.goto 6, 3, 40, 0, 0, 0) := by decide +kernel
theorem c10_37 : zcod 10 37 = some (.sipush (-1004), 3, 0, 0, 0, 0) := by decide +kernel
theorem c10_40 : zcod 10 40 = some (.ireturn, 1, 0, 0, 0, 0) := by decide +kernel
set_option maxRecDepth 100000 in
theorem b10_0 (l0 : Option Nat) (l1 : Int32) (l2 : Int64) (h : zH) : zev 10 0 [some (vR l0), some (vI l1), some (vL l2), none] [] h = (if l1 < 1 then some (some (vI (-1002)), h) else (if 8 < l1 then some (some (vI (-1002)), h) else (zgR h l0 8 0 fun x1 => (zvr h x1 6 (zcI 11 [vR x1, vI l1, vL l2] h fun x3 h2 => (if x3 = 0 then some (some (vI (-1004)), h2) else (zgR h2 l0 8 0 fun x4 => (zgI h2 x4 6 2 fun x5 => some (some (vI x5), h2))))))))) := by
  refine (zv_in c10_0 rfl).trans ?_
  refine (zv_k (v := 1) c10_1 (by decide)).trans ?_
  refine (zv_iclt c10_2).trans (zif_c ?_ ?_)
  · refine (zv_si (v := -1002) c10_11 (by decide)).trans ?_
    exact zv_ir c10_14 zrt_10
  · refine (zv_in c10_5 rfl).trans ?_
    refine (zv_bi (v := 8) c10_6 (by decide)).trans ?_
    refine (zv_icle c10_8).trans (zif_c ?_ ?_)
    · refine (zv_si (v := -1002) c10_11 (by decide)).trans ?_
      exact zv_ir c10_14 zrt_10
    · refine (zv_an c10_15 rfl).trans ?_
      refine (zv_gR c10_16 zf8_0).trans (zgR_c fun x1 => ?_)
      refine (zv_in c10_19 rfl).trans ?_
      refine (zv_ln c10_20 rfl).trans ?_
      refine (zv_viI c10_21 zcn_11 rfl zL_11 (Or.inr zrt_11) rfl rfl).trans (zvr_c (zcI_c fun x3 h2 => ?_))
      refine (zv_ifeq c10_24).trans (zif_c ?_ ?_)
      · refine (zv_si (v := -1004) c10_37 (by decide)).trans ?_
        exact zv_ir c10_40 zrt_10
      · refine (zv_an c10_27 rfl).trans ?_
        refine (zv_gR c10_28 zf8_0).trans (zgR_c fun x4 => ?_)
        refine (zv_gI c10_31 zg6_2).trans (zgI_c fun x5 => ?_)
        refine (zv_goto c10_34).trans ?_
        exact zv_ir c10_40 zrt_10
theorem e10 (l0 : Option Nat) (l1 : Int32) (l2 : Int64) (h : zH) : zcall 10 [vR l0, vI l1, vL l2] h = (if l1 < 1 then some (some (vI (-1002)), h) else (if 8 < l1 then some (some (vI (-1002)), h) else (zgR h l0 8 0 fun x1 => (zvr h x1 6 (zcI 11 [vR x1, vI l1, vL l2] h fun x3 h2 => (if x3 = 0 then some (some (vI (-1004)), h2) else (zgR h2 l0 8 0 fun x4 => (zgI h2 x4 6 2 fun x5 => some (some (vI x5), h2))))))))) := by
  refine Eq.trans ?_ (b10_0 l0 l1 l2 h)
  unfold zcall zent
  rw [zL_10]
  rfl
theorem c11_0 : zcod 11 0 = some (.aload_n 0, 1, 0, 0, 0, 0) := by decide +kernel
theorem c11_1 : zcod 11 1 = some (.getfield 23, 3, 6, 2, 82, 0) := by decide +kernel
theorem c11_4 : zcod 11 4 = some (.iload_n 1, 1, 0, 0, 0, 0) := by decide +kernel
theorem c11_5 : zcod 11 5 = some (.iadd, 1, 0, 0, 0, 0) := by decide +kernel
theorem c11_6 : zcod 11 6 = some (.aload_n 0, 1, 0, 0, 0, 0) := by decide +kernel
theorem c11_7 : zcod 11 7 = some (.getfield 9, 3, 6, 0, 80, 0) := by decide +kernel
theorem c11_10 : zcod 11 10 = some (.arraylength, 1, 0, 0, 0, 0) := by decide +kernel
theorem c11_11 : zcod 11 11 = some (.if_icmp .le 5, 3, 16, 0, 0, 0) := by decide +kernel
theorem c11_14 : zcod 11 14 = some (.iconst 0, 1, 0, 0, 0, 0) := by decide +kernel
theorem c11_15 : zcod 11 15 = some (.ireturn, 1, 0, 0, 0, 0) := by decide +kernel
theorem c11_16 : zcod 11 16 = some (.iload_n 1, 1, 0, 0, 0, 0) := by decide +kernel
theorem c11_17 : zcod 11 17 = some (.iconst 1, 1, 0, 0, 0, 0) := by decide +kernel
theorem c11_18 : zcod 11 18 = some (.isub, 1, 0, 0, 0, 0) := by decide +kernel
theorem c11_19 : zcod 11 19 = some (.istore 4, 2, 0, 0, 0, 0) := by decide +kernel
theorem c11_21 : zcod 11 21 = some (.iload 4, 2, 0, 0, 0, 0) := by decide +kernel
theorem c11_23 : zcod 11 23 = some (.ifCond .lt 49, 3, 72, 0, 0, 0) := by decide +kernel
theorem c11_26 : zcod 11 26 = some (.aload_n 0, 1, 0, 0, 0, 0) := by decide +kernel
theorem c11_27 : zcod 11 27 = some (.getfield 23, 3, 6, 2, 82, 0) := by decide +kernel
theorem c11_30 : zcod 11 30 = some (.aload_n 0, 1, 0, 0, 0, 0) := by decide +kernel
theorem c11_31 : zcod 11 31 = some (.getfield 9, 3, 6, 0, 80, 0) := by decide +kernel
theorem c11_34 : zcod 11 34 = some (.arraylength, 1, 0, 0, 0, 0) := by decide +kernel
theorem c11_35 : zcod 11 35 = some (.if_icmp .ge 37, 3, 72, 0, 0, 0) := by decide +kernel
theorem c11_38 : zcod 11 38 = some (.aload_n 0, 1, 0, 0, 0, 0) := by decide +kernel
theorem c11_39 : zcod 11 39 = some (.getfield 9, 3, 6, 0, 80, 0) := by decide +kernel
theorem c11_42 : zcod 11 42 = some (.aload_n 0, 1, 0, 0, 0, 0) := by decide +kernel
theorem c11_43 : zcod 11 43 = some (.getfield 23, 3, 6, 2, 82, 0) := by decide +kernel
theorem c11_46 : zcod 11 46 = some (.lload_n 2, 1, 0, 0, 0, 0) := by decide +kernel
theorem c11_47 : zcod 11 47 = some (.bipush 8, 2, 0, 0, 0, 0) := by decide +kernel
theorem c11_49 : zcod 11 49 = some (.iload 4, 2, 0, 0, 0, 0) := by decide +kernel
theorem c11_51 : zcod 11 51 = some (.imul, 1, 0, 0, 0, 0) := by decide +kernel
theorem c11_52 : zcod 11 52 = some (.lshr, 1, 0, 0, 0, 0) := by decide +kernel
theorem c11_53 : zcod 11 53 = some (.l2i, 1, 0, 0, 0, 0) := by decide +kernel
theorem c11_54 : zcod 11 54 = some (.i2b, 1, 0, 0, 0, 0) := by decide +kernel
theorem c11_55 : zcod 11 55 = some (.bastore, 1, 0, 0, 0, 0) := by decide +kernel
theorem c11_56 : zcod 11 56 = some (.aload_n 0, 1, 0, 0, 0, 0) := by decide +kernel
theorem c11_57 : zcod 11 57 = some (.dup, 1, 0, 0, 0, 0) := by decide +kernel
theorem c11_58 : zcod 11 58 = some (.getfield 23, 3, 6, 2, 82, 0) := by decide +kernel
theorem c11_61 : zcod 11 61 = some (.iconst 1, 1, 0, 0, 0, 0) := by decide +kernel
theorem c11_62 : zcod 11 62 = some (.iadd, 1, 0, 0, 0, 0) := by decide +kernel
theorem c11_63 : zcod 11 63 = some (.putfield 23, 3, 6, 2, 82, 0) := by decide +kernel
theorem c11_66 : zcod 11 66 = some (.iinc 4 (-1), 3, 0, 0, 0, 0) := by decide +kernel
theorem c11_69 : zcod 11 69 = some (.goto (-48), 3, 21, 0, 0, 0) := by decide +kernel
theorem c11_72 : zcod 11 72 = some (.iconst 1, 1, 0, 0, 0, 0) := by decide +kernel
theorem c11_73 : zcod 11 73 = some (.ireturn, 1, 0, 0, 0, 0) := by decide +kernel
set_option maxRecDepth 100000 in
theorem b11_0 (l0 : Option Nat) (l1 : Int32) (l2 : Int64) (h : zH) : zev 11 0 [some (vR l0), some (vI l1), some (vL l2), none, none] [] h = (zgI h l0 6 2 fun x1 => (zgR h l0 6 0 fun x2 => (zal h x2 fun x3 => (if x3 < (x1 + l1) then zbo 0 (some (some (vI 0), h)) else zev 11 21 [some (vR l0), some (vI l1), some (vL l2), none, some (vI (l1 - 1))] [] h)))) := by
  refine (zv_an c11_0 rfl).trans ?_
  refine (zv_gI c11_1 zg6_2).trans (zgI_c fun x1 => ?_)
  refine (zv_in c11_4 rfl).trans ?_
  refine (zv_iadd c11_5).trans ?_
  refine (zv_an c11_6 rfl).trans ?_
  refine (zv_gR c11_7 zf6_0).trans (zgR_c fun x2 => ?_)
  refine (zv_al2 c11_10).trans (zal_c fun x3 => ?_)
  refine (zv_icle c11_11).trans (zif_c ?_ ?_)
  · refine (zv_k (v := 0) c11_14 (by decide)).trans ?_
    exact zv_iz c11_15 zrt_11
  · refine (zv_in c11_16 rfl).trans ?_
    refine (zv_k (v := 1) c11_17 (by decide)).trans ?_
    refine (zv_isub c11_18).trans ?_
    refine (zv_is c11_19 rfl).trans ?_
    rfl
theorem e11 (l0 : Option Nat) (l1 : Int32) (l2 : Int64) (h : zH) : zcall 11 [vR l0, vI l1, vL l2] h = (zgI h l0 6 2 fun x1 => (zgR h l0 6 0 fun x2 => (zal h x2 fun x3 => (if x3 < (x1 + l1) then zbo 0 (some (some (vI 0), h)) else zev 11 21 [some (vR l0), some (vI l1), some (vL l2), none, some (vI (l1 - 1))] [] h)))) := by
  refine Eq.trans ?_ (b11_0 l0 l1 l2 h)
  unfold zcall zent
  rw [zL_11]
  rfl
set_option maxRecDepth 100000 in
theorem b11_21 (l0 : Option Nat) (l1 : Int32) (l2 : Int64) (l4 : Int32) (h : zH) : zev 11 21 [some (vR l0), some (vI l1), some (vL l2), none, some (vI l4)] [] h = (if l4 < 0 then zbo 1 (some (some (vI 1), h)) else (zgI h l0 6 2 fun x1 => (zgR h l0 6 0 fun x2 => (zal h x2 fun x3 => (if x1 < x3 then (zgR h l0 6 0 fun x4 => (zgI h l0 6 2 fun x5 => (ztB h x4 x5 (Int8.toInt32 (Int32.toInt8 (Int64.toInt32 (l2 >>> (Int32.toInt64 (8 * l4) &&& 63))))) fun h6 => (zgI h6 l0 6 2 fun x7 => (zpI h6 l0 6 2 (x7 + 1) fun h8 => zev 11 21 [some (vR l0), some (vI l1), some (vL l2), none, some (vI (l4 + (-1)))] [] h8))))) else zbo 1 (some (some (vI 1), h))))))) := by
  refine (zv_il c11_21 rfl).trans ?_
  refine (zv_iflt c11_23).trans (zif_c ?_ ?_)
  · refine (zv_k (v := 1) c11_72 (by decide)).trans ?_
    exact zv_iz c11_73 zrt_11
  · refine (zv_an c11_26 rfl).trans ?_
    refine (zv_gI c11_27 zg6_2).trans (zgI_c fun x1 => ?_)
    refine (zv_an c11_30 rfl).trans ?_
    refine (zv_gR c11_31 zf6_0).trans (zgR_c fun x2 => ?_)
    refine (zv_al2 c11_34).trans (zal_c fun x3 => ?_)
    refine (zv_icge c11_35).trans (zif_c ?_ ?_)
    · refine (zv_an c11_38 rfl).trans ?_
      refine (zv_gR c11_39 zf6_0).trans (zgR_c fun x4 => ?_)
      refine (zv_an c11_42 rfl).trans ?_
      refine (zv_gI c11_43 zg6_2).trans (zgI_c fun x5 => ?_)
      refine (zv_ln c11_46 rfl).trans ?_
      refine (zv_bi (v := 8) c11_47 (by decide)).trans ?_
      refine (zv_il c11_49 rfl).trans ?_
      refine (zv_imul c11_51).trans ?_
      refine (zv_lshr c11_52).trans ?_
      refine (zv_l2i c11_53).trans ?_
      refine (zv_i2b c11_54).trans ?_
      refine (zv_tB c11_55).trans (ztB_c fun h6 => ?_)
      refine (zv_an c11_56 rfl).trans ?_
      refine (zv_dup c11_57 rfl).trans ?_
      refine (zv_gI c11_58 zg6_2).trans (zgI_c fun x7 => ?_)
      refine (zv_k (v := 1) c11_61 (by decide)).trans ?_
      refine (zv_iadd c11_62).trans ?_
      refine (zv_pI c11_63 zf6_2).trans (zpI_c fun h8 => ?_)
      refine (zv_inc (y := -1) c11_66 rfl (by decide) rfl).trans ?_
      refine (zv_goto c11_69).trans ?_
      rfl
    · refine (zv_k (v := 1) c11_72 (by decide)).trans ?_
      exact zv_iz c11_73 zrt_11
theorem c12_0 : zcod 12 0 = some (.aload_n 0, 1, 0, 0, 0, 0) := by decide +kernel
theorem c12_1 : zcod 12 1 = some (.getfield 12, 3, 8, 0, 219, 0) := by decide +kernel
theorem c12_4 : zcod 12 4 = some (.aload_n 0, 1, 0, 0, 0, 0) := by decide +kernel
theorem c12_5 : zcod 12 5 = some (.getfield 19, 3, 8, 1, 220, 0) := by decide +kernel
theorem c12_8 : zcod 12 8 = some (.getfield 31, 3, 3, 0, 183, 0) := by decide +kernel
theorem c12_11 : zcod 12 11 = some (.invokevirtual 35, 3, 13, 1, 238, 0) := by decide +kernel
theorem c12_14 : zcod 12 14 = some (.istore_n 1, 1, 0, 0, 0, 0) := by decide +kernel
theorem c12_15 : zcod 12 15 = some (.iload_n 1, 1, 0, 0, 0, 0) := by decide +kernel
theorem c12_16 : zcod 12 16 = some (.ifCond .ne 19, 3, 35, 0, 0, 0) := by decide +kernel
theorem c12_19 : zcod 12 19 = some (.aload_n 0, 1, 0, 0, 0, 0) := by decide +kernel
theorem c12_20 : zcod 12 20 = some (.getfield 19, 3, 8, 1, 220, 0) := by decide +kernel
theorem c12_23 : zcod 12 23 = some (.getfield 31, 3, 3, 0, 183, 0) := by decide +kernel
theorem c12_26 : zcod 12 26 = some (.getfield 39, 3, 5, 2, 149, 0) := by decide +kernel
theorem c12_29 : zcod 12 29 = some (.invokevirtual 45, 3, 14, 0, 484, 0) := by decide +kernel
theorem c12_32 : zcod 12 32 = some (.goto 7, 3, 39, 0, 0, 0) := by decide +kernel
theorem c12_35 : zcod 12 35 = some (.bipush (-10), 2, 0, 0, 0, 0) := by decide +kernel
theorem c12_37 : zcod 12 37 = some (.iload_n 1, 1, 0, 0, 0, 0) := by decide +kernel
theorem c12_38 : zcod 12 38 = some (.isub, 1, 0, 0, 0, 0) := by decide +kernel
theorem c12_39 : zcod 12 39 = some (.ireturn, 1, 0, 0, 0, 0) := by decide +kernel
set_option maxRecDepth 100000 in
theorem b12_0 (l0 : Option Nat) (h : zH) : zev 12 0 [some (vR l0), none] [] h = (zgR h l0 8 0 fun x1 => (zgR h l0 8 1 fun x2 => (zgR h x2 3 0 fun x3 => (zvr h x1 6 (zcI 13 [vR x1, vR x3] h fun x5 h4 => (if x5 = 0 then (zgR h4 l0 8 1 fun x6 => (zgR h4 x6 3 0 fun x7 => (zgR h4 x7 5 2 fun x8 => (zvr h4 x8 0 (zcI 14 [vR x8] h4 fun x10 h9 => some (some (vI x10), h9)))))) else some (some (vI ((-10) - x5)), h4))))))) := by
  refine (zv_an c12_0 rfl).trans ?_
  refine (zv_gR c12_1 zf8_0).trans (zgR_c fun x1 => ?_)
  refine (zv_an c12_4 rfl).trans ?_
  refine (zv_gR c12_5 zf8_1).trans (zgR_c fun x2 => ?_)
  refine (zv_gR c12_8 zf3_0).trans (zgR_c fun x3 => ?_)
  refine (zv_viI c12_11 zcn_13 rfl zL_13 (Or.inl zrt_13) rfl rfl).trans (zvr_c (zcI_c fun x5 h4 => ?_))
  refine (zv_it c12_14 rfl).trans ?_
  refine (zv_in c12_15 rfl).trans ?_
  refine (zv_ifne c12_16).trans (zif_c ?_ ?_)
  · refine (zv_an c12_19 rfl).trans ?_
    refine (zv_gR c12_20 zf8_1).trans (zgR_c fun x6 => ?_)
    refine (zv_gR c12_23 zf3_0).trans (zgR_c fun x7 => ?_)
    refine (zv_gR c12_26 zf5_2).trans (zgR_c fun x8 => ?_)
    refine (zv_viI c12_29 zcn_14 rfl zL_14 (Or.inl zrt_14) rfl rfl).trans (zvr_c (zcI_c fun x10 h9 => ?_))
    refine (zv_goto c12_32).trans ?_
    exact zv_ir c12_39 zrt_12
  · refine (zv_bi (v := -10) c12_35 (by decide)).trans ?_
    refine (zv_in c12_37 rfl).trans ?_
    refine (zv_isub c12_38).trans ?_
    exact zv_ir c12_39 zrt_12
theorem e12 (l0 : Option Nat) (h : zH) : zcall 12 [vR l0] h = (zgR h l0 8 0 fun x1 => (zgR h l0 8 1 fun x2 => (zgR h x2 3 0 fun x3 => (zvr h x1 6 (zcI 13 [vR x1, vR x3] h fun x5 h4 => (if x5 = 0 then (zgR h4 l0 8 1 fun x6 => (zgR h4 x6 3 0 fun x7 => (zgR h4 x7 5 2 fun x8 => (zvr h4 x8 0 (zcI 14 [vR x8] h4 fun x10 h9 => some (some (vI x10), h9)))))) else some (some (vI ((-10) - x5)), h4))))))) := by
  refine Eq.trans ?_ (b12_0 l0 h)
  unfold zcall zent
  rw [zL_12]
  rfl
theorem c13_0 : zcod 13 0 = some (.aload_n 1, 1, 0, 0, 0, 0) := by decide +kernel
theorem c13_1 : zcod 13 1 = some (.getfield 26, 3, 5, 2, 148, 0) := by decide +kernel
theorem c13_4 : zcod 13 4 = some (.invokevirtual 32, 3, 14, 0, 242, 0) := by decide +kernel
theorem c13_7 : zcod 13 7 = some (.istore_n 2, 1, 0, 0, 0, 0) := by decide +kernel
theorem c13_8 : zcod 13 8 = some (.aload_n 1, 1, 0, 0, 0, 0) := by decide +kernel
theorem c13_9 : zcod 13 9 = some (.getfield 38, 3, 5, 3, 151, 0) := by decide +kernel
theorem c13_12 : zcod 13 12 = some (.istore_n 3, 1, 0, 0, 0, 0) := by decide +kernel
theorem c13_13 : zcod 13 13 = some (.aload_n 0, 1, 0, 0, 0, 0) := by decide +kernel
theorem c13_14 : zcod 13 14 = some (.iconst 0, 1, 0, 0, 0, 0) := by decide +kernel
theorem c13_15 : zcod 13 15 = some (.putfield 41, 3, 6, 5, 87, 0) := by decide +kernel
theorem c13_18 : zcod 13 18 = some (.aload_n 0, 1, 0, 0, 0, 0) := by decide +kernel
theorem c13_19 : zcod 13 19 = some (.iconst 0, 1, 0, 0, 0, 0) := by decide +kernel
theorem c13_20 : zcod 13 20 = some (.putfield 44, 3, 6, 4, 86, 0) := by decide +kernel
theorem c13_23 : zcod 13 23 = some (.aload_n 0, 1, 0, 0, 0, 0) := by decide +kernel
theorem c13_24 : zcod 13 24 = some (.iconst (-1), 1, 0, 0, 0, 0) := by decide +kernel
theorem c13_25 : zcod 13 25 = some (.putfield 19, 3, 6, 3, 84, 0) := by decide +kernel
theorem c13_28 : zcod 13 28 = some (.iconst 0, 1, 0, 0, 0, 0) := by decide +kernel
theorem c13_29 : zcod 13 29 = some (.istore 4, 2, 0, 0, 0, 0) := by decide +kernel
theorem c13_31 : zcod 13 31 = some (.iload 4, 2, 0, 0, 0, 0) := by decide +kernel
theorem c13_33 : zcod 13 33 = some (.sipush 200, 3, 0, 0, 0, 0) := by decide +kernel
theorem c13_36 : zcod 13 36 = some (.if_icmp .ge 21, 3, 57, 0, 0, 0) := by decide +kernel
theorem c13_39 : zcod 13 39 = some (.aload_n 0, 1, 0, 0, 0, 0) := by decide +kernel
theorem c13_40 : zcod 13 40 = some (.invokevirtual 47, 3, 15, 0, 246, 0) := by decide +kernel
theorem c13_43 : zcod 13 43 = some (.ifCond .eq 14, 3, 57, 0, 0, 0) := by decide +kernel
theorem c13_46 : zcod 13 46 = some (.aload_n 0, 1, 0, 0, 0, 0) := by decide +kernel
theorem c13_47 : zcod 13 47 = some (.aload_n 1, 1, 0, 0, 0, 0) := by decide +kernel
theorem c13_48 : zcod 13 48 = some (.invokevirtual 51, 3, 18, 1, 258, 0) := by decide +kernel
theorem c13_51 : zcod 13 51 = some (.iinc 4 1, 3, 0, 0, 0, 0) := by decide +kernel
theorem c13_54 : zcod 13 54 = some (.goto (-23), 3, 31, 0, 0, 0) := by decide +kernel
theorem c13_57 : zcod 13 57 = some (.aload_n 0, 1, 0, 0, 0, 0) := by decide +kernel
theorem c13_58 : zcod 13 58 = some (.getfield 44, 3, 6, 4, 86, 0) := by decide +kernel
theorem c13_61 : zcod 13 61 = some (.ifCond .eq 9, 3, 70, 0, 0, 0) := by decide +kernel
theorem c13_64 : zcod 13 64 = some (.aload_n 1, 1, 0, 0, 0, 0) := by decide +kernel
theorem c13_65 : zcod 13 65 = some (.iload_n 2, 1, 0, 0, 0, 0) := by decide +kernel
theorem c13_66 : zcod 13 66 = some (.iload_n 3, 1, 0, 0, 0, 0) := by decide +kernel
theorem c13_67 : zcod 13 67 = some (.invokevirtual 55, 3, 42, 2, 465, 0) := by decide +kernel
theorem c13_70 : zcod 13 70 = some (.aload_n 0, 1, 0, 0, 0, 0) := by decide +kernel
theorem c13_71 : zcod 13 71 = some (.iconst 0, 1, 0, 0, 0, 0) := by decide +kernel
theorem c13_72 : zcod 13 72 = some (.putfield 23, 3, 6, 2, 82, 0) := by decide +kernel
theorem c13_75 : zcod 13 75 = some (.aload_n 0, 1, 0, 0, 0, 0) := by decide +kernel
theorem c13_76 : zcod 13 76 = some (.getfield 44, 3, 6, 4, 86, 0) := by decide +kernel
theorem c13_79 : zcod 13 79 = some (.ireturn, 1, 0, 0, 0, 0) := by decide +kernel
set_option maxRecDepth 100000 in
theorem b13_0 (l0 : Option Nat) (l1 : Option Nat) (h : zH) : zev 13 0 [some (vR l0), some (vR l1), none, none, none] [] h = (zgR h l1 5 2 fun x1 => (zvr h x1 0 (zcI 14 [vR x1] h fun x3 h2 => (zgI h2 l1 5 3 fun x4 => (zpI h2 l0 6 5 0 fun h5 => (zpI h5 l0 6 4 0 fun h6 => (zpI h6 l0 6 3 (-1) fun h7 => zev 13 31 [some (vR l0), some (vR l1), some (vI x3), some (vI x4), some (vI 0)] [] h7))))))) := by
  refine (zv_an c13_0 rfl).trans ?_
  refine (zv_gR c13_1 zf5_2).trans (zgR_c fun x1 => ?_)
  refine (zv_viI c13_4 zcn_14 rfl zL_14 (Or.inl zrt_14) rfl rfl).trans (zvr_c (zcI_c fun x3 h2 => ?_))
  refine (zv_it c13_7 rfl).trans ?_
  refine (zv_an c13_8 rfl).trans ?_
  refine (zv_gI c13_9 zg5_3).trans (zgI_c fun x4 => ?_)
  refine (zv_it c13_12 rfl).trans ?_
  refine (zv_an c13_13 rfl).trans ?_
  refine (zv_k (v := 0) c13_14 (by decide)).trans ?_
  refine (zv_pI c13_15 zf6_5).trans (zpI_c fun h5 => ?_)
  refine (zv_an c13_18 rfl).trans ?_
  refine (zv_k (v := 0) c13_19 (by decide)).trans ?_
  refine (zv_pI c13_20 zf6_4).trans (zpI_c fun h6 => ?_)
  refine (zv_an c13_23 rfl).trans ?_
  refine (zv_k (v := -1) c13_24 (by decide)).trans ?_
  refine (zv_pI c13_25 zf6_3).trans (zpI_c fun h7 => ?_)
  refine (zv_k (v := 0) c13_28 (by decide)).trans ?_
  refine (zv_is c13_29 rfl).trans ?_
  rfl
theorem e13 (l0 : Option Nat) (l1 : Option Nat) (h : zH) : zcall 13 [vR l0, vR l1] h = (zgR h l1 5 2 fun x1 => (zvr h x1 0 (zcI 14 [vR x1] h fun x3 h2 => (zgI h2 l1 5 3 fun x4 => (zpI h2 l0 6 5 0 fun h5 => (zpI h5 l0 6 4 0 fun h6 => (zpI h6 l0 6 3 (-1) fun h7 => zev 13 31 [some (vR l0), some (vR l1), some (vI x3), some (vI x4), some (vI 0)] [] h7))))))) := by
  refine Eq.trans ?_ (b13_0 l0 l1 h)
  unfold zcall zent
  rw [zL_13]
  rfl
set_option maxRecDepth 100000 in
theorem b13_31 (l0 : Option Nat) (l1 : Option Nat) (l2 : Int32) (l3 : Int32) (l4 : Int32) (h : zH) : zev 13 31 [some (vR l0), some (vR l1), some (vI l2), some (vI l3), some (vI l4)] [] h = (if l4 < 200 then (zvr h l0 6 (zcI 15 [vR l0] h fun x2 h1 => (if x2 = 0 then zev 13 57 [some (vR l0), some (vR l1), some (vI l2), some (vI l3), some (vI l4)] [] h1 else (zvr h1 l0 6 (zcV 18 [vR l0, vR l1] h1 fun h3 => zev 13 31 [some (vR l0), some (vR l1), some (vI l2), some (vI l3), some (vI (l4 + 1))] [] h3))))) else zev 13 57 [some (vR l0), some (vR l1), some (vI l2), some (vI l3), some (vI l4)] [] h) := by
  refine (zv_il c13_31 rfl).trans ?_
  refine (zv_si (v := 200) c13_33 (by decide)).trans ?_
  refine (zv_icge c13_36).trans (zif_c ?_ ?_)
  · refine (zv_an c13_39 rfl).trans ?_
    refine (zv_viI c13_40 zcn_15 rfl zL_15 (Or.inr zrt_15) rfl rfl).trans (zvr_c (zcI_c fun x2 h1 => ?_))
    refine (zv_ifeq c13_43).trans (zif_c ?_ ?_)
    · rfl
    · refine (zv_an c13_46 rfl).trans ?_
      refine (zv_an c13_47 rfl).trans ?_
      refine (zv_viV c13_48 zcn_18 rfl zL_18 zrt_18 rfl rfl).trans (zvr_c (zcV_c fun h3 => ?_))
      refine (zv_inc (y := 1) c13_51 rfl (by decide) rfl).trans ?_
      refine (zv_goto c13_54).trans ?_
      rfl
  · rfl
set_option maxRecDepth 100000 in
theorem b13_57 (l0 : Option Nat) (l1 : Option Nat) (l2 : Int32) (l3 : Int32) (l4 : Int32) (h : zH) : zev 13 57 [some (vR l0), some (vR l1), some (vI l2), some (vI l3), some (vI l4)] [] h = (zgI h l0 6 4 fun x1 => (if x1 = 0 then (zpI h l0 6 2 0 fun h2 => (zgI h2 l0 6 4 fun x3 => some (some (vI x3), h2))) else (zvr h l1 5 (zcV 42 [vR l1, vI l2, vI l3] h fun h4 => (zpI h4 l0 6 2 0 fun h5 => (zgI h5 l0 6 4 fun x6 => some (some (vI x6), h5))))))) := by
  refine (zv_an c13_57 rfl).trans ?_
  refine (zv_gI c13_58 zg6_4).trans (zgI_c fun x1 => ?_)
  refine (zv_ifeq c13_61).trans (zif_c ?_ ?_)
  · refine (zv_an c13_70 rfl).trans ?_
    refine (zv_k (v := 0) c13_71 (by decide)).trans ?_
    refine (zv_pI c13_72 zf6_2).trans (zpI_c fun h2 => ?_)
    refine (zv_an c13_75 rfl).trans ?_
    refine (zv_gI c13_76 zg6_4).trans (zgI_c fun x3 => ?_)
    exact zv_ir c13_79 zrt_13
  · refine (zv_an c13_64 rfl).trans ?_
    refine (zv_in c13_65 rfl).trans ?_
    refine (zv_in c13_66 rfl).trans ?_
    refine (zv_viV c13_67 zcn_42 rfl zL_42 zrt_42 rfl rfl).trans (zvr_c (zcV_c fun h4 => ?_))
    refine (zv_an c13_70 rfl).trans ?_
    refine (zv_k (v := 0) c13_71 (by decide)).trans ?_
    refine (zv_pI c13_72 zf6_2).trans (zpI_c fun h5 => ?_)
    refine (zv_an c13_75 rfl).trans ?_
    refine (zv_gI c13_76 zg6_4).trans (zgI_c fun x6 => ?_)
    exact zv_ir c13_79 zrt_13
theorem c14_0 : zcod 14 0 = some (.aload_n 0, 1, 0, 0, 0, 0) := by decide +kernel
theorem c14_1 : zcod 14 1 = some (.getfield 48, 3, 0, 2, 130, 0) := by decide +kernel
theorem c14_4 : zcod 14 4 = some (.ireturn, 1, 0, 0, 0, 0) := by decide +kernel
set_option maxRecDepth 100000 in
theorem b14_0 (l0 : Option Nat) (h : zH) : zev 14 0 [some (vR l0)] [] h = (zgI h l0 0 2 fun x1 => some (some (vI x1), h)) := by
  refine (zv_an c14_0 rfl).trans ?_
  refine (zv_gI c14_1 zg0_2).trans (zgI_c fun x1 => ?_)
  exact zv_ir c14_4 zrt_14
theorem e14 (l0 : Option Nat) (h : zH) : zcall 14 [vR l0] h = (zgI h l0 0 2 fun x1 => some (some (vI x1), h)) := by
  refine Eq.trans ?_ (b14_0 l0 h)
  unfold zcall zent
  rw [zL_14]
  rfl
theorem c15_0 : zcod 15 0 = some (.aload_n 0, 1, 0, 0, 0, 0) := by decide +kernel
theorem c15_1 : zcod 15 1 = some (.getfield 44, 3, 6, 4, 86, 0) := by decide +kernel
theorem c15_4 : zcod 15 4 = some (.ifCond .eq 5, 3, 9, 0, 0, 0) := by decide +kernel
theorem c15_7 : zcod 15 7 = some (.iconst 0, 1, 0, 0, 0, 0) := by decide +kernel
theorem c15_8 : zcod 15 8 = some (.ireturn, 1, 0, 0, 0, 0) := by decide +kernel
theorem c15_9 : zcod 15 9 = some (.aload_n 0, 1, 0, 0, 0, 0) := by decide +kernel
theorem c15_10 : zcod 15 10 = some (.invokevirtual 59, 3, 16, 0, 250, 0) := by decide +kernel
theorem c15_13 : zcod 15 13 = some (.aload_n 0, 1, 0, 0, 0, 0) := by decide +kernel
theorem c15_14 : zcod 15 14 = some (.getfield 41, 3, 6, 5, 87, 0) := by decide +kernel
theorem c15_17 : zcod 15 17 = some (.aload_n 0, 1, 0, 0, 0, 0) := by decide +kernel
theorem c15_18 : zcod 15 18 = some (.getfield 23, 3, 6, 2, 82, 0) := by decide +kernel
theorem c15_21 : zcod 15 21 = some (.if_icmp .ge 7, 3, 28, 0, 0, 0) := by decide +kernel
theorem c15_24 : zcod 15 24 = some (.iconst 1, 1, 0, 0, 0, 0) := by decide +kernel
theorem c15_25 : zcod 15 25 = some (.goto 4, 3, 29, 0, 0, 0) := by decide +kernel
theorem c15_28 : zcod 15 28 = some (.iconst 0, 1, 0, 0, 0, 0) := by decide +kernel
theorem c15_29 : zcod 15 29 = some (.ireturn, 1, 0, 0, 0, 0) := by decide +kernel
set_option maxRecDepth 100000 in
theorem b15_0 (l0 : Option Nat) (h : zH) : zev 15 0 [some (vR l0)] [] h = (zgI h l0 6 4 fun x1 => (if x1 = 0 then (zvr h l0 6 (zcV 16 [vR l0] h fun h2 => (zgI h2 l0 6 5 fun x3 => (zgI h2 l0 6 2 fun x4 => (if x3 < x4 then zbo 1 (some (some (vI 1), h2)) else zbo 0 (some (some (vI 0), h2))))))) else zbo 0 (some (some (vI 0), h)))) := by
  refine (zv_an c15_0 rfl).trans ?_
  refine (zv_gI c15_1 zg6_4).trans (zgI_c fun x1 => ?_)
  refine (zv_ifeq c15_4).trans (zif_c ?_ ?_)
  · refine (zv_an c15_9 rfl).trans ?_
    refine (zv_viV c15_10 zcn_16 rfl zL_16 zrt_16 rfl rfl).trans (zvr_c (zcV_c fun h2 => ?_))
    refine (zv_an c15_13 rfl).trans ?_
    refine (zv_gI c15_14 zg6_5).trans (zgI_c fun x3 => ?_)
    refine (zv_an c15_17 rfl).trans ?_
    refine (zv_gI c15_18 zg6_2).trans (zgI_c fun x4 => ?_)
    refine (zv_icge c15_21).trans (zif_c ?_ ?_)
    · refine (zv_k (v := 1) c15_24 (by decide)).trans ?_
      refine (zv_goto c15_25).trans ?_
      exact zv_iz c15_29 zrt_15
    · refine (zv_k (v := 0) c15_28 (by decide)).trans ?_
      exact zv_iz c15_29 zrt_15
  · refine (zv_k (v := 0) c15_7 (by decide)).trans ?_
    exact zv_iz c15_8 zrt_15
theorem e15 (l0 : Option Nat) (h : zH) : zcall 15 [vR l0] h = (zgI h l0 6 4 fun x1 => (if x1 = 0 then (zvr h l0 6 (zcV 16 [vR l0] h fun h2 => (zgI h2 l0 6 5 fun x3 => (zgI h2 l0 6 2 fun x4 => (if x3 < x4 then zbo 1 (some (some (vI 1), h2)) else zbo 0 (some (some (vI 0), h2))))))) else zbo 0 (some (some (vI 0), h)))) := by
  refine Eq.trans ?_ (b15_0 l0 h)
  unfold zcall zent
  rw [zL_15]
  rfl
theorem c16_0 : zcod 16 0 = some (.aload_n 0, 1, 0, 0, 0, 0) := by decide +kernel
theorem c16_1 : zcod 16 1 = some (.getfield 41, 3, 6, 5, 87, 0) := by decide +kernel
theorem c16_4 : zcod 16 4 = some (.aload_n 0, 1, 0, 0, 0, 0) := by decide +kernel
theorem c16_5 : zcod 16 5 = some (.getfield 23, 3, 6, 2, 82, 0) := by decide +kernel
theorem c16_8 : zcod 16 8 = some (.if_icmp .ge 29, 3, 37, 0, 0, 0) := by decide +kernel
theorem c16_11 : zcod 16 11 = some (.aload_n 0, 1, 0, 0, 0, 0) := by decide +kernel
theorem c16_12 : zcod 16 12 = some (.aload_n 0, 1, 0, 0, 0, 0) := by decide +kernel
theorem c16_13 : zcod 16 13 = some (.getfield 41, 3, 6, 5, 87, 0) := by decide +kernel
theorem c16_16 : zcod 16 16 = some (.invokevirtual 62, 3, 17, 1, 254, 0) := by decide +kernel
theorem c16_19 : zcod 16 19 = some (.bipush 32, 2, 0, 0, 0, 0) := by decide +kernel
theorem c16_21 : zcod 16 21 = some (.if_icmp .ne 16, 3, 37, 0, 0, 0) := by decide +kernel
theorem c16_24 : zcod 16 24 = some (.aload_n 0, 1, 0, 0, 0, 0) := by decide +kernel
theorem c16_25 : zcod 16 25 = some (.dup, 1, 0, 0, 0, 0) := by decide +kernel
theorem c16_26 : zcod 16 26 = some (.getfield 41, 3, 6, 5, 87, 0) := by decide +kernel
theorem c16_29 : zcod 16 29 = some (.iconst 1, 1, 0, 0, 0, 0) := by decide +kernel
theorem c16_30 : zcod 16 30 = some (.iadd, 1, 0, 0, 0, 0) := by decide +kernel
theorem c16_31 : zcod 16 31 = some (.putfield 41, 3, 6, 5, 87, 0) := by decide +kernel
theorem c16_34 : zcod 16 34 = some (.goto (-34), 3, 0, 0, 0, 0) := by decide +kernel
theorem c16_37 : zcod 16 37 = some (.return_, 1, 0, 0, 0, 0) := by decide +kernel
set_option maxRecDepth 100000 in
theorem b16_0 (l0 : Option Nat) (h : zH) : zev 16 0 [some (vR l0)] [] h = (zgI h l0 6 5 fun x1 => (zgI h l0 6 2 fun x2 => (if x1 < x2 then (zgI h l0 6 5 fun x3 => (zvr h l0 6 (zcI 17 [vR l0, vI x3] h fun x5 h4 => (if x5 = 32 then (zgI h4 l0 6 5 fun x6 => (zpI h4 l0 6 5 (x6 + 1) fun h7 => zev 16 0 [some (vR l0)] [] h7)) else some (none, h4))))) else some (none, h)))) := by
  refine (zv_an c16_0 rfl).trans ?_
  refine (zv_gI c16_1 zg6_5).trans (zgI_c fun x1 => ?_)
  refine (zv_an c16_4 rfl).trans ?_
  refine (zv_gI c16_5 zg6_2).trans (zgI_c fun x2 => ?_)
  refine (zv_icge c16_8).trans (zif_c ?_ ?_)
  · refine (zv_an c16_11 rfl).trans ?_
    refine (zv_an c16_12 rfl).trans ?_
    refine (zv_gI c16_13 zg6_5).trans (zgI_c fun x3 => ?_)
    refine (zv_viI c16_16 zcn_17 rfl zL_17 (Or.inl zrt_17) rfl rfl).trans (zvr_c (zcI_c fun x5 h4 => ?_))
    refine (zv_bi (v := 32) c16_19 (by decide)).trans ?_
    refine (zv_icne c16_21).trans (zif_c ?_ ?_)
    · refine (zv_an c16_24 rfl).trans ?_
      refine (zv_dup c16_25 rfl).trans ?_
      refine (zv_gI c16_26 zg6_5).trans (zgI_c fun x6 => ?_)
      refine (zv_k (v := 1) c16_29 (by decide)).trans ?_
      refine (zv_iadd c16_30).trans ?_
      refine (zv_pI c16_31 zf6_5).trans (zpI_c fun h7 => ?_)
      refine (zv_goto c16_34).trans ?_
      rfl
    · exact zv_vr c16_37 zrt_16
  · exact zv_vr c16_37 zrt_16
theorem e16 (l0 : Option Nat) (h : zH) : zcall 16 [vR l0] h = (zgI h l0 6 5 fun x1 => (zgI h l0 6 2 fun x2 => (if x1 < x2 then (zgI h l0 6 5 fun x3 => (zvr h l0 6 (zcI 17 [vR l0, vI x3] h fun x5 h4 => (if x5 = 32 then (zgI h4 l0 6 5 fun x6 => (zpI h4 l0 6 5 (x6 + 1) fun h7 => zev 16 0 [some (vR l0)] [] h7)) else some (none, h4))))) else some (none, h)))) := by
  refine Eq.trans ?_ (b16_0 l0 h)
  unfold zcall zent
  rw [zL_16]
  rfl
theorem c17_0 : zcod 17 0 = some (.iload_n 1, 1, 0, 0, 0, 0) := by decide +kernel
theorem c17_1 : zcod 17 1 = some (.ifCond .lt 33, 3, 34, 0, 0, 0) := by decide +kernel
theorem c17_4 : zcod 17 4 = some (.iload_n 1, 1, 0, 0, 0, 0) := by decide +kernel
theorem c17_5 : zcod 17 5 = some (.aload_n 0, 1, 0, 0, 0, 0) := by decide +kernel
theorem c17_6 : zcod 17 6 = some (.getfield 23, 3, 6, 2, 82, 0) := by decide +kernel
theorem c17_9 : zcod 17 9 = some (.if_icmp .ge 25, 3, 34, 0, 0, 0) := by decide +kernel
theorem c17_12 : zcod 17 12 = some (.iload_n 1, 1, 0, 0, 0, 0) := by decide +kernel
theorem c17_13 : zcod 17 13 = some (.aload_n 0, 1, 0, 0, 0, 0) := by decide +kernel
theorem c17_14 : zcod 17 14 = some (.getfield 9, 3, 6, 0, 80, 0) := by decide +kernel
theorem c17_17 : zcod 17 17 = some (.arraylength, 1, 0, 0, 0, 0) := by decide +kernel
theorem c17_18 : zcod 17 18 = some (.if_icmp .ge 16, 3, 34, 0, 0, 0) := by decide +kernel
theorem c17_21 : zcod 17 21 = some (.aload_n 0, 1, 0, 0, 0, 0) := by decide +kernel
theorem c17_22 : zcod 17 22 = some (.getfield 9, 3, 6, 0, 80, 0) := by decide +kernel
theorem c17_25 : zcod 17 25 = some (.iload_n 1, 1, 0, 0, 0, 0) := by decide +kernel
theorem c17_26 : zcod 17 26 = some (.baload, 1, 0, 0, 0, 0) := by decide +kernel
theorem c17_27 : zcod 17 27 = some (.sipush 255, 3, 0, 0, 0, 0) := by decide +kernel
theorem c17_30 : zcod 17 30 = some (.iand, 1, 0, 0, 0, 0) := by decide +kernel
theorem c17_31 : zcod 17 31 = some (.goto 4, 3, 35, 0, 0, 0) := by decide +kernel
theorem c17_34 : zcod 17 34 = some (.iconst (-1), 1, 0, 0, 0, 0) := by decide +kernel
theorem c17_35 : zcod 17 35 = some (.ireturn, 1, 0, 0, 0, 0) := by decide +kernel
set_option maxRecDepth 100000 in
theorem b17_0 (l0 : Option Nat) (l1 : Int32) (h : zH) : zev 17 0 [some (vR l0), some (vI l1)] [] h = (if l1 < 0 then some (some (vI (-1)), h) else (zgI h l0 6 2 fun x1 => (if l1 < x1 then (zgR h l0 6 0 fun x2 => (zal h x2 fun x3 => (if l1 < x3 then (zgR h l0 6 0 fun x4 => (zaB h x4 l1 fun x5 => some (some (vI (x5 &&& 255)), h))) else some (some (vI (-1)), h)))) else some (some (vI (-1)), h)))) := by
  refine (zv_in c17_0 rfl).trans ?_
  refine (zv_iflt c17_1).trans (zif_c ?_ ?_)
  · refine (zv_k (v := -1) c17_34 (by decide)).trans ?_
    exact zv_ir c17_35 zrt_17
  · refine (zv_in c17_4 rfl).trans ?_
    refine (zv_an c17_5 rfl).trans ?_
    refine (zv_gI c17_6 zg6_2).trans (zgI_c fun x1 => ?_)
    refine (zv_icge c17_9).trans (zif_c ?_ ?_)
    · refine (zv_in c17_12 rfl).trans ?_
      refine (zv_an c17_13 rfl).trans ?_
      refine (zv_gR c17_14 zf6_0).trans (zgR_c fun x2 => ?_)
      refine (zv_al2 c17_17).trans (zal_c fun x3 => ?_)
      refine (zv_icge c17_18).trans (zif_c ?_ ?_)
      · refine (zv_an c17_21 rfl).trans ?_
        refine (zv_gR c17_22 zf6_0).trans (zgR_c fun x4 => ?_)
        refine (zv_in c17_25 rfl).trans ?_
        refine (zv_aB c17_26).trans (zaB_c fun x5 => ?_)
        refine (zv_si (v := 255) c17_27 (by decide)).trans ?_
        refine (zv_iand c17_30).trans ?_
        refine (zv_goto c17_31).trans ?_
        exact zv_ir c17_35 zrt_17
      · refine (zv_k (v := -1) c17_34 (by decide)).trans ?_
        exact zv_ir c17_35 zrt_17
    · refine (zv_k (v := -1) c17_34 (by decide)).trans ?_
      exact zv_ir c17_35 zrt_17
theorem e17 (l0 : Option Nat) (l1 : Int32) (h : zH) : zcall 17 [vR l0, vI l1] h = (if l1 < 0 then some (some (vI (-1)), h) else (zgI h l0 6 2 fun x1 => (if l1 < x1 then (zgR h l0 6 0 fun x2 => (zal h x2 fun x3 => (if l1 < x3 then (zgR h l0 6 0 fun x4 => (zaB h x4 l1 fun x5 => some (some (vI (x5 &&& 255)), h))) else some (some (vI (-1)), h)))) else some (some (vI (-1)), h)))) := by
  refine Eq.trans ?_ (b17_0 l0 l1 h)
  unfold zcall zent
  rw [zL_17]
  rfl
theorem c18_0 : zcod 18 0 = some (.aload_n 0, 1, 0, 0, 0, 0) := by decide +kernel
theorem c18_1 : zcod 18 1 = some (.getfield 41, 3, 6, 5, 87, 0) := by decide +kernel
theorem c18_4 : zcod 18 4 = some (.istore_n 2, 1, 0, 0, 0, 0) := by decide +kernel
theorem c18_5 : zcod 18 5 = some (.aload_n 0, 1, 0, 0, 0, 0) := by decide +kernel
theorem c18_6 : zcod 18 6 = some (.dup, 1, 0, 0, 0, 0) := by decide +kernel
theorem c18_7 : zcod 18 7 = some (.getfield 41, 3, 6, 5, 87, 0) := by decide +kernel
theorem c18_10 : zcod 18 10 = some (.iconst 1, 1, 0, 0, 0, 0) := by decide +kernel
theorem c18_11 : zcod 18 11 = some (.iadd, 1, 0, 0, 0, 0) := by decide +kernel
theorem c18_12 : zcod 18 12 = some (.putfield 41, 3, 6, 5, 87, 0) := by decide +kernel
theorem c18_15 : zcod 18 15 = some (.aload_n 0, 1, 0, 0, 0, 0) := by decide +kernel
theorem c18_16 : zcod 18 16 = some (.iload_n 2, 1, 0, 0, 0, 0) := by decide +kernel
theorem c18_17 : zcod 18 17 = some (.invokevirtual 62, 3, 17, 1, 254, 0) := by decide +kernel
theorem c18_20 : zcod 18 20 = some (.lookupswitch 111 #[(98, 36), (103, 87), (115, 65)], 36, 0, 0, 0, 0) := by decide +kernel
theorem c18_56 : zcod 18 56 = some (.aload_n 0, 1, 0, 0, 0, 0) := by decide +kernel
theorem c18_57 : zcod 18 57 = some (.getstatic 66, 3, 1, 0, 262, 0) := by decide +kernel
theorem c18_60 : zcod 18 60 = some (.getstatic 69, 3, 2, 0, 264, 0) := by decide +kernel
theorem c18_63 : zcod 18 63 = some (.invokevirtual 72, 3, 19, 2, 266, 0) := by decide +kernel
theorem c18_66 : zcod 18 66 = some (.ifCond .eq 71, 3, 137, 0, 0, 0) := by decide +kernel
theorem c18_69 : zcod 18 69 = some (.aload_n 0, 1, 0, 0, 0, 0) := by decide +kernel
theorem c18_70 : zcod 18 70 = some (.aload_n 1, 1, 0, 0, 0, 0) := by decide +kernel
theorem c18_71 : zcod 18 71 = some (.iload_n 2, 1, 0, 0, 0, 0) := by decide +kernel
theorem c18_72 : zcod 18 72 = some (.aload_n 0, 1, 0, 0, 0, 0) := by decide +kernel
theorem c18_73 : zcod 18 73 = some (.getfield 15, 3, 6, 1, 81, 0) := by decide +kernel
theorem c18_76 : zcod 18 76 = some (.iconst 4, 1, 0, 0, 0, 0) := by decide +kernel
theorem c18_77 : zcod 18 77 = some (.iaload, 1, 0, 0, 0, 0) := by decide +kernel
theorem c18_78 : zcod 18 78 = some (.iconst 0, 1, 0, 0, 0, 0) := by decide +kernel
theorem c18_79 : zcod 18 79 = some (.invokevirtual 76, 3, 23, 4, 281, 0) := by decide +kernel
theorem c18_82 : zcod 18 82 = some (.goto 55, 3, 137, 0, 0, 0) := by decide +kernel
theorem c18_85 : zcod 18 85 = some (.aload_n 0, 1, 0, 0, 0, 0) := by decide +kernel
theorem c18_86 : zcod 18 86 = some (.getstatic 80, 3, 3, 0, 449, 0) := by decide +kernel
theorem c18_89 : zcod 18 89 = some (.getstatic 83, 3, 4, 0, 451, 0) := by decide +kernel
theorem c18_92 : zcod 18 92 = some (.invokevirtual 72, 3, 19, 2, 266, 0) := by decide +kernel
theorem c18_95 : zcod 18 95 = some (.ifCond .eq 42, 3, 137, 0, 0, 0) := by decide +kernel
theorem c18_98 : zcod 18 98 = some (.aload_n 0, 1, 0, 0, 0, 0) := by decide +kernel
theorem c18_99 : zcod 18 99 = some (.aload_n 1, 1, 0, 0, 0, 0) := by decide +kernel
theorem c18_100 : zcod 18 100 = some (.iload_n 2, 1, 0, 0, 0, 0) := by decide +kernel
theorem c18_101 : zcod 18 101 = some (.invokevirtual 86, 3, 40, 2, 453, 0) := by decide +kernel
theorem c18_104 : zcod 18 104 = some (.goto 33, 3, 137, 0, 0, 0) := by decide +kernel
theorem c18_107 : zcod 18 107 = some (.aload_n 0, 1, 0, 0, 0, 0) := by decide +kernel
theorem c18_108 : zcod 18 108 = some (.getstatic 90, 3, 5, 0, 461, 0) := by decide +kernel
theorem c18_111 : zcod 18 111 = some (.getstatic 93, 3, 6, 0, 463, 0) := by decide +kernel
theorem c18_114 : zcod 18 114 = some (.invokevirtual 72, 3, 19, 2, 266, 0) := by decide +kernel
theorem c18_117 : zcod 18 117 = some (.ifCond .eq 20, 3, 137, 0, 0, 0) := by decide +kernel
theorem c18_120 : zcod 18 120 = some (.aload_n 0, 1, 0, 0, 0, 0) := by decide +kernel
theorem c18_121 : zcod 18 121 = some (.aload_n 1, 1, 0, 0, 0, 0) := by decide +kernel
theorem c18_122 : zcod 18 122 = some (.iload_n 2, 1, 0, 0, 0, 0) := by decide +kernel
theorem c18_123 : zcod 18 123 = some (.iconst 1, 1, 0, 0, 0, 0) := by decide +kernel
theorem c18_124 : zcod 18 124 = some (.iconst 1, 1, 0, 0, 0, 0) := by decide +kernel
theorem c18_125 : zcod 18 125 = some (.invokevirtual 76, 3, 23, 4, 281, 0) := by decide +kernel
theorem c18_128 : zcod 18 128 = some (.goto 9, 3, 137, 0, 0, 0) := by decide +kernel
theorem c18_131 : zcod 18 131 = some (.aload_n 0, 1, 0, 0, 0, 0) := by decide +kernel
theorem c18_132 : zcod 18 132 = some (.iconst 1, 1, 0, 0, 0, 0) := by decide +kernel
theorem c18_133 : zcod 18 133 = some (.iload_n 2, 1, 0, 0, 0, 0) := by decide +kernel
theorem c18_134 : zcod 18 134 = some (.invokevirtual 96, 3, 20, 2, 270, 0) := by decide +kernel
theorem c18_137 : zcod 18 137 = some (.aload_n 0, 1, 0, 0, 0, 0) := by decide +kernel
theorem c18_138 : zcod 18 138 = some (.getfield 44, 3, 6, 4, 86, 0) := by decide +kernel
theorem c18_141 : zcod 18 141 = some (.ifCond .ne 36, 3, 177, 0, 0, 0) := by decide +kernel
theorem c18_144 : zcod 18 144 = some (.aload_n 0, 1, 0, 0, 0, 0) := by decide +kernel
theorem c18_145 : zcod 18 145 = some (.getfield 41, 3, 6, 5, 87, 0) := by decide +kernel
theorem c18_148 : zcod 18 148 = some (.aload_n 0, 1, 0, 0, 0, 0) := by decide +kernel
theorem c18_149 : zcod 18 149 = some (.getfield 23, 3, 6, 2, 82, 0) := by decide +kernel
theorem c18_152 : zcod 18 152 = some (.if_icmp .ge 25, 3, 177, 0, 0, 0) := by decide +kernel
theorem c18_155 : zcod 18 155 = some (.aload_n 0, 1, 0, 0, 0, 0) := by decide +kernel
theorem c18_156 : zcod 18 156 = some (.aload_n 0, 1, 0, 0, 0, 0) := by decide +kernel
theorem c18_157 : zcod 18 157 = some (.getfield 41, 3, 6, 5, 87, 0) := by decide +kernel
theorem c18_160 : zcod 18 160 = some (.invokevirtual 62, 3, 17, 1, 254, 0) := by decide +kernel
theorem c18_163 : zcod 18 163 = some (.bipush 32, 2, 0, 0, 0, 0) := by decide +kernel
theorem c18_165 : zcod 18 165 = some (.if_icmp .eq 12, 3, 177, 0, 0, 0) := by decide +kernel
theorem c18_168 : zcod 18 168 = some (.aload_n 0, 1, 0, 0, 0, 0) := by decide +kernel
theorem c18_169 : zcod 18 169 = some (.iconst 1, 1, 0, 0, 0, 0) := by decide +kernel
theorem c18_170 : zcod 18 170 = some (.aload_n 0, 1, 0, 0, 0, 0) := by decide +kernel
theorem c18_171 : zcod 18 171 = some (.getfield 41, 3, 6, 5, 87, 0) := by decide +kernel
theorem c18_174 : zcod 18 174 = some (.invokevirtual 96, 3, 20, 2, 270, 0) := by decide +kernel
theorem c18_177 : zcod 18 177 = some (.return_, 1, 0, 0, 0, 0) := by decide +kernel
set_option maxRecDepth 100000 in
theorem b18_0 (l0 : Option Nat) (l1 : Option Nat) (h : zH) : zev 18 0 [some (vR l0), some (vR l1), none] [] h = (zgI h l0 6 5 fun x1 => (zgI h l0 6 5 fun x2 => (zpI h l0 6 5 (x2 + 1) fun h3 => (zvr h3 l0 6 (zcI 17 [vR l0, vI x1] h3 fun x5 h4 => (if x5 = 98 then zev 18 56 [some (vR l0), some (vR l1), some (vI x1)] [] h4 else (if x5 = 103 then zev 18 107 [some (vR l0), some (vR l1), some (vI x1)] [] h4 else (if x5 = 115 then (zvr h4 l0 6 (zcI 19 [vR l0, vR (some 3), vR (some 4)] h4 fun x7 h6 => (if x7 = 0 then zev 18 137 [some (vR l0), some (vR l1), some (vI x1)] [] h6 else (zvr h6 l0 6 (zcV 40 [vR l0, vR l1, vI x1] h6 fun h8 => zev 18 137 [some (vR l0), some (vR l1), some (vI x1)] [] h8))))) else (zvr h4 l0 6 (zcV 20 [vR l0, vI 1, vI x1] h4 fun h9 => zev 18 137 [some (vR l0), some (vR l1), some (vI x1)] [] h9)))))))))) := by
  refine (zv_an c18_0 rfl).trans ?_
  refine (zv_gI c18_1 zg6_5).trans (zgI_c fun x1 => ?_)
  refine (zv_it c18_4 rfl).trans ?_
  refine (zv_an c18_5 rfl).trans ?_
  refine (zv_dup c18_6 rfl).trans ?_
  refine (zv_gI c18_7 zg6_5).trans (zgI_c fun x2 => ?_)
  refine (zv_k (v := 1) c18_10 (by decide)).trans ?_
  refine (zv_iadd c18_11).trans ?_
  refine (zv_pI c18_12 zf6_5).trans (zpI_c fun h3 => ?_)
  refine (zv_an c18_15 rfl).trans ?_
  refine (zv_in c18_16 rfl).trans ?_
  refine (zv_viI c18_17 zcn_17 rfl zL_17 (Or.inl zrt_17) rfl rfl).trans (zvr_c (zcI_c fun x5 h4 => ?_))
  refine (zv_lk3 c18_20 (k1 := 98) (k2 := 103) (k3 := 115) (t1 := 56) (t2 := 107) (t3 := 85) (dt := 131) (by decide) (by decide) (by decide) (by decide) (by decide) (by decide) (by decide)).trans (zif_c ?_ (zif_c ?_ (zif_c ?_ ?_)))
  · rfl
  · rfl
  · refine (zv_an c18_85 rfl).trans ?_
    refine (zv_gs c18_86).trans ?_
    refine (zv_gs c18_89).trans ?_
    refine (zv_viI c18_92 zcn_19 rfl zL_19 (Or.inr zrt_19) rfl rfl).trans (zvr_c (zcI_c fun x7 h6 => ?_))
    refine (zv_ifeq c18_95).trans (zif_c ?_ ?_)
    · rfl
    · refine (zv_an c18_98 rfl).trans ?_
      refine (zv_an c18_99 rfl).trans ?_
      refine (zv_in c18_100 rfl).trans ?_
      refine (zv_viV c18_101 zcn_40 rfl zL_40 zrt_40 rfl rfl).trans (zvr_c (zcV_c fun h8 => ?_))
      refine (zv_goto c18_104).trans ?_
      rfl
  · refine (zv_an c18_131 rfl).trans ?_
    refine (zv_k (v := 1) c18_132 (by decide)).trans ?_
    refine (zv_in c18_133 rfl).trans ?_
    refine (zv_viV c18_134 zcn_20 rfl zL_20 zrt_20 rfl rfl).trans (zvr_c (zcV_c fun h9 => ?_))
    rfl
theorem e18 (l0 : Option Nat) (l1 : Option Nat) (h : zH) : zcall 18 [vR l0, vR l1] h = (zgI h l0 6 5 fun x1 => (zgI h l0 6 5 fun x2 => (zpI h l0 6 5 (x2 + 1) fun h3 => (zvr h3 l0 6 (zcI 17 [vR l0, vI x1] h3 fun x5 h4 => (if x5 = 98 then zev 18 56 [some (vR l0), some (vR l1), some (vI x1)] [] h4 else (if x5 = 103 then zev 18 107 [some (vR l0), some (vR l1), some (vI x1)] [] h4 else (if x5 = 115 then (zvr h4 l0 6 (zcI 19 [vR l0, vR (some 3), vR (some 4)] h4 fun x7 h6 => (if x7 = 0 then zev 18 137 [some (vR l0), some (vR l1), some (vI x1)] [] h6 else (zvr h6 l0 6 (zcV 40 [vR l0, vR l1, vI x1] h6 fun h8 => zev 18 137 [some (vR l0), some (vR l1), some (vI x1)] [] h8))))) else (zvr h4 l0 6 (zcV 20 [vR l0, vI 1, vI x1] h4 fun h9 => zev 18 137 [some (vR l0), some (vR l1), some (vI x1)] [] h9)))))))))) := by
  refine Eq.trans ?_ (b18_0 l0 l1 h)
  unfold zcall zent
  rw [zL_18]
  rfl
set_option maxRecDepth 100000 in
theorem b18_56 (l0 : Option Nat) (l1 : Option Nat) (l2 : Int32) (h : zH) : zev 18 56 [some (vR l0), some (vR l1), some (vI l2)] [] h = (zvr h l0 6 (zcI 19 [vR l0, vR (some 1), vR (some 2)] h fun x2 h1 => (if x2 = 0 then zev 18 137 [some (vR l0), some (vR l1), some (vI l2)] [] h1 else (zgR h1 l0 6 1 fun x3 => (zaI h1 x3 4 fun x4 => (zvr h1 l0 6 (zcV 23 [vR l0, vR l1, vI l2, vI x4, vI 0] h1 fun h5 => zev 18 137 [some (vR l0), some (vR l1), some (vI l2)] [] h5))))))) := by
  refine (zv_an c18_56 rfl).trans ?_
  refine (zv_gs c18_57).trans ?_
  refine (zv_gs c18_60).trans ?_
  refine (zv_viI c18_63 zcn_19 rfl zL_19 (Or.inr zrt_19) rfl rfl).trans (zvr_c (zcI_c fun x2 h1 => ?_))
  refine (zv_ifeq c18_66).trans (zif_c ?_ ?_)
  · rfl
  · refine (zv_an c18_69 rfl).trans ?_
    refine (zv_an c18_70 rfl).trans ?_
    refine (zv_in c18_71 rfl).trans ?_
    refine (zv_an c18_72 rfl).trans ?_
    refine (zv_gR c18_73 zf6_1).trans (zgR_c fun x3 => ?_)
    refine (zv_k (v := 4) c18_76 (by decide)).trans ?_
    refine (zv_aI c18_77).trans (zaI_c fun x4 => ?_)
    refine (zv_k (v := 0) c18_78 (by decide)).trans ?_
    refine (zv_viV c18_79 zcn_23 rfl zL_23 zrt_23 rfl rfl).trans (zvr_c (zcV_c fun h5 => ?_))
    refine (zv_goto c18_82).trans ?_
    rfl
set_option maxRecDepth 100000 in
theorem b18_107 (l0 : Option Nat) (l1 : Option Nat) (l2 : Int32) (h : zH) : zev 18 107 [some (vR l0), some (vR l1), some (vI l2)] [] h = (zvr h l0 6 (zcI 19 [vR l0, vR (some 5), vR (some 6)] h fun x2 h1 => (if x2 = 0 then zev 18 137 [some (vR l0), some (vR l1), some (vI l2)] [] h1 else (zvr h1 l0 6 (zcV 23 [vR l0, vR l1, vI l2, vI 1, vI 1] h1 fun h3 => zev 18 137 [some (vR l0), some (vR l1), some (vI l2)] [] h3))))) := by
  refine (zv_an c18_107 rfl).trans ?_
  refine (zv_gs c18_108).trans ?_
  refine (zv_gs c18_111).trans ?_
  refine (zv_viI c18_114 zcn_19 rfl zL_19 (Or.inr zrt_19) rfl rfl).trans (zvr_c (zcI_c fun x2 h1 => ?_))
  refine (zv_ifeq c18_117).trans (zif_c ?_ ?_)
  · rfl
  · refine (zv_an c18_120 rfl).trans ?_
    refine (zv_an c18_121 rfl).trans ?_
    refine (zv_in c18_122 rfl).trans ?_
    refine (zv_k (v := 1) c18_123 (by decide)).trans ?_
    refine (zv_k (v := 1) c18_124 (by decide)).trans ?_
    refine (zv_viV c18_125 zcn_23 rfl zL_23 zrt_23 rfl rfl).trans (zvr_c (zcV_c fun h3 => ?_))
    refine (zv_goto c18_128).trans ?_
    rfl
set_option maxRecDepth 100000 in
theorem b18_137 (l0 : Option Nat) (l1 : Option Nat) (l2 : Int32) (h : zH) : zev 18 137 [some (vR l0), some (vR l1), some (vI l2)] [] h = (zgI h l0 6 4 fun x1 => (if x1 = 0 then (zgI h l0 6 5 fun x2 => (zgI h l0 6 2 fun x3 => (if x2 < x3 then (zgI h l0 6 5 fun x4 => (zvr h l0 6 (zcI 17 [vR l0, vI x4] h fun x6 h5 => (if x6 = 32 then some (none, h5) else (zgI h5 l0 6 5 fun x7 => (zvr h5 l0 6 (zcV 20 [vR l0, vI 1, vI x7] h5 fun h8 => some (none, h8)))))))) else some (none, h)))) else some (none, h))) := by
  refine (zv_an c18_137 rfl).trans ?_
  refine (zv_gI c18_138 zg6_4).trans (zgI_c fun x1 => ?_)
  refine (zv_ifne c18_141).trans (zif_c ?_ ?_)
  · refine (zv_an c18_144 rfl).trans ?_
    refine (zv_gI c18_145 zg6_5).trans (zgI_c fun x2 => ?_)
    refine (zv_an c18_148 rfl).trans ?_
    refine (zv_gI c18_149 zg6_2).trans (zgI_c fun x3 => ?_)
    refine (zv_icge c18_152).trans (zif_c ?_ ?_)
    · refine (zv_an c18_155 rfl).trans ?_
      refine (zv_an c18_156 rfl).trans ?_
      refine (zv_gI c18_157 zg6_5).trans (zgI_c fun x4 => ?_)
      refine (zv_viI c18_160 zcn_17 rfl zL_17 (Or.inl zrt_17) rfl rfl).trans (zvr_c (zcI_c fun x6 h5 => ?_))
      refine (zv_bi (v := 32) c18_163 (by decide)).trans ?_
      refine (zv_iceq c18_165).trans (zif_c ?_ ?_)
      · exact zv_vr c18_177 zrt_18
      · refine (zv_an c18_168 rfl).trans ?_
        refine (zv_k (v := 1) c18_169 (by decide)).trans ?_
        refine (zv_an c18_170 rfl).trans ?_
        refine (zv_gI c18_171 zg6_5).trans (zgI_c fun x7 => ?_)
        refine (zv_viV c18_174 zcn_20 rfl zL_20 zrt_20 rfl rfl).trans (zvr_c (zcV_c fun h8 => ?_))
        exact zv_vr c18_177 zrt_18
    · exact zv_vr c18_177 zrt_18
  · exact zv_vr c18_177 zrt_18
theorem c19_0 : zcod 19 0 = some (.iconst 0, 1, 0, 0, 0, 0) := by decide +kernel
theorem c19_1 : zcod 19 1 = some (.istore_n 3, 1, 0, 0, 0, 0) := by decide +kernel
theorem c19_2 : zcod 19 2 = some (.iload_n 3, 1, 0, 0, 0, 0) := by decide +kernel
theorem c19_3 : zcod 19 3 = some (.aload_n 1, 1, 0, 0, 0, 0) := by decide +kernel
theorem c19_4 : zcod 19 4 = some (.arraylength, 1, 0, 0, 0, 0) := by decide +kernel
theorem c19_5 : zcod 19 5 = some (.if_icmp .ge 81, 3, 86, 0, 0, 0) := by decide +kernel
theorem c19_8 : zcod 19 8 = some (.iload_n 3, 1, 0, 0, 0, 0) := by decide +kernel
theorem c19_9 : zcod 19 9 = some (.aload_n 2, 1, 0, 0, 0, 0) := by decide +kernel
theorem c19_10 : zcod 19 10 = some (.arraylength, 1, 0, 0, 0, 0) := by decide +kernel
theorem c19_11 : zcod 19 11 = some (.if_icmp .ge 75, 3, 86, 0, 0, 0) := by decide +kernel
theorem c19_14 : zcod 19 14 = some (.iload_n 3, 1, 0, 0, 0, 0) := by decide +kernel
theorem c19_15 : zcod 19 15 = some (.aload_n 0, 1, 0, 0, 0, 0) := by decide +kernel
theorem c19_16 : zcod 19 16 = some (.getfield 15, 3, 6, 1, 81, 0) := by decide +kernel
theorem c19_19 : zcod 19 19 = some (.arraylength, 1, 0, 0, 0, 0) := by decide +kernel
theorem c19_20 : zcod 19 20 = some (.if_icmp .ge 66, 3, 86, 0, 0, 0) := by decide +kernel
theorem c19_23 : zcod 19 23 = some (.iload_n 3, 1, 0, 0, 0, 0) := by decide +kernel
theorem c19_24 : zcod 19 24 = some (.ifCond .le 27, 3, 51, 0, 0, 0) := by decide +kernel
theorem c19_27 : zcod 19 27 = some (.aload_n 0, 1, 0, 0, 0, 0) := by decide +kernel
theorem c19_28 : zcod 19 28 = some (.aload_n 0, 1, 0, 0, 0, 0) := by decide +kernel
theorem c19_29 : zcod 19 29 = some (.getfield 41, 3, 6, 5, 87, 0) := by decide +kernel
theorem c19_32 : zcod 19 32 = some (.invokevirtual 62, 3, 17, 1, 254, 0) := by decide +kernel
theorem c19_35 : zcod 19 35 = some (.bipush 32, 2, 0, 0, 0, 0) := by decide +kernel
theorem c19_37 : zcod 19 37 = some (.if_icmp .eq 14, 3, 51, 0, 0, 0) := by decide +kernel
theorem c19_40 : zcod 19 40 = some (.aload_n 0, 1, 0, 0, 0, 0) := by decide +kernel
theorem c19_41 : zcod 19 41 = some (.iconst 1, 1, 0, 0, 0, 0) := by decide +kernel
theorem c19_42 : zcod 19 42 = some (.aload_n 0, 1, 0, 0, 0, 0) := by decide +kernel
theorem c19_43 : zcod 19 43 = some (.getfield 41, 3, 6, 5, 87, 0) := by decide +kernel
theorem c19_46 : zcod 19 46 = some (.invokevirtual 96, 3, 20, 2, 270, 0) := by decide +kernel
theorem c19_49 : zcod 19 49 = some (.iconst 0, 1, 0, 0, 0, 0) := by decide +kernel
theorem c19_50 : zcod 19 50 = some (.ireturn, 1, 0, 0, 0, 0) := by decide +kernel
theorem c19_51 : zcod 19 51 = some (.aload_n 0, 1, 0, 0, 0, 0) := by decide +kernel
theorem c19_52 : zcod 19 52 = some (.invokevirtual 59, 3, 16, 0, 250, 0) := by decide +kernel
theorem c19_55 : zcod 19 55 = some (.aload_n 0, 1, 0, 0, 0, 0) := by decide +kernel
theorem c19_56 : zcod 19 56 = some (.getfield 15, 3, 6, 1, 81, 0) := by decide +kernel
theorem c19_59 : zcod 19 59 = some (.iload_n 3, 1, 0, 0, 0, 0) := by decide +kernel
theorem c19_60 : zcod 19 60 = some (.aload_n 0, 1, 0, 0, 0, 0) := by decide +kernel
theorem c19_61 : zcod 19 61 = some (.aload_n 1, 1, 0, 0, 0, 0) := by decide +kernel
theorem c19_62 : zcod 19 62 = some (.iload_n 3, 1, 0, 0, 0, 0) := by decide +kernel
theorem c19_63 : zcod 19 63 = some (.iaload, 1, 0, 0, 0, 0) := by decide +kernel
theorem c19_64 : zcod 19 64 = some (.aload_n 2, 1, 0, 0, 0, 0) := by decide +kernel
theorem c19_65 : zcod 19 65 = some (.iload_n 3, 1, 0, 0, 0, 0) := by decide +kernel
theorem c19_66 : zcod 19 66 = some (.iaload, 1, 0, 0, 0, 0) := by decide +kernel
theorem c19_67 : zcod 19 67 = some (.invokevirtual 99, 3, 21, 2, 274, 0) := by decide +kernel
theorem c19_70 : zcod 19 70 = some (.iastore, 1, 0, 0, 0, 0) := by decide +kernel
theorem c19_71 : zcod 19 71 = some (.aload_n 0, 1, 0, 0, 0, 0) := by decide +kernel
theorem c19_72 : zcod 19 72 = some (.getfield 44, 3, 6, 4, 86, 0) := by decide +kernel
theorem c19_75 : zcod 19 75 = some (.ifCond .eq 5, 3, 80, 0, 0, 0) := by decide +kernel
theorem c19_78 : zcod 19 78 = some (.iconst 0, 1, 0, 0, 0, 0) := by decide +kernel
theorem c19_79 : zcod 19 79 = some (.ireturn, 1, 0, 0, 0, 0) := by decide +kernel
theorem c19_80 : zcod 19 80 = some (.iinc 3 1, 3, 0, 0, 0, 0) := by decide +kernel
theorem c19_83 : zcod 19 83 = some (.goto (-81), 3, 2, 0, 0, 0) := by decide +kernel
theorem c19_86 : zcod 19 86 = some (.iconst 1, 1, 0, 0, 0, 0) := by decide +kernel
theorem c19_87 : zcod 19 87 = some (.ireturn, 1, 0, 0, 0, 0) := by decide +kernel
set_option maxRecDepth 100000 in
theorem b19_0 (l0 : Option Nat) (l1 : Option Nat) (l2 : Option Nat) (h : zH) : zev 19 0 [some (vR l0), some (vR l1), some (vR l2), none] [] h = zev 19 2 [some (vR l0), some (vR l1), some (vR l2), some (vI 0)] [] h := by
  refine (zv_k (v := 0) c19_0 (by decide)).trans ?_
  refine (zv_it c19_1 rfl).trans ?_
  rfl
theorem e19 (l0 : Option Nat) (l1 : Option Nat) (l2 : Option Nat) (h : zH) : zcall 19 [vR l0, vR l1, vR l2] h = zev 19 2 [some (vR l0), some (vR l1), some (vR l2), some (vI 0)] [] h := by
  refine Eq.trans ?_ (b19_0 l0 l1 l2 h)
  unfold zcall zent
  rw [zL_19]
  rfl
set_option maxRecDepth 100000 in
theorem b19_2 (l0 : Option Nat) (l1 : Option Nat) (l2 : Option Nat) (l3 : Int32) (h : zH) : zev 19 2 [some (vR l0), some (vR l1), some (vR l2), some (vI l3)] [] h = (zal h l1 fun x1 => (if l3 < x1 then (zal h l2 fun x2 => (if l3 < x2 then (zgR h l0 6 1 fun x3 => (zal h x3 fun x4 => (if l3 < x4 then (if 0 < l3 then (zgI h l0 6 5 fun x5 => (zvr h l0 6 (zcI 17 [vR l0, vI x5] h fun x7 h6 => (if x7 = 32 then zev 19 51 [some (vR l0), some (vR l1), some (vR l2), some (vI l3)] [] h6 else (zgI h6 l0 6 5 fun x8 => (zvr h6 l0 6 (zcV 20 [vR l0, vI 1, vI x8] h6 fun h9 => zbo 0 (some (some (vI 0), h9))))))))) else zev 19 51 [some (vR l0), some (vR l1), some (vR l2), some (vI l3)] [] h) else zbo 1 (some (some (vI 1), h))))) else zbo 1 (some (some (vI 1), h)))) else zbo 1 (some (some (vI 1), h)))) := by
  refine (zv_in c19_2 rfl).trans ?_
  refine (zv_an c19_3 rfl).trans ?_
  refine (zv_al2 c19_4).trans (zal_c fun x1 => ?_)
  refine (zv_icge c19_5).trans (zif_c ?_ ?_)
  · refine (zv_in c19_8 rfl).trans ?_
    refine (zv_an c19_9 rfl).trans ?_
    refine (zv_al2 c19_10).trans (zal_c fun x2 => ?_)
    refine (zv_icge c19_11).trans (zif_c ?_ ?_)
    · refine (zv_in c19_14 rfl).trans ?_
      refine (zv_an c19_15 rfl).trans ?_
      refine (zv_gR c19_16 zf6_1).trans (zgR_c fun x3 => ?_)
      refine (zv_al2 c19_19).trans (zal_c fun x4 => ?_)
      refine (zv_icge c19_20).trans (zif_c ?_ ?_)
      · refine (zv_in c19_23 rfl).trans ?_
        refine (zv_ifle c19_24).trans (zif_c ?_ ?_)
        · refine (zv_an c19_27 rfl).trans ?_
          refine (zv_an c19_28 rfl).trans ?_
          refine (zv_gI c19_29 zg6_5).trans (zgI_c fun x5 => ?_)
          refine (zv_viI c19_32 zcn_17 rfl zL_17 (Or.inl zrt_17) rfl rfl).trans (zvr_c (zcI_c fun x7 h6 => ?_))
          refine (zv_bi (v := 32) c19_35 (by decide)).trans ?_
          refine (zv_iceq c19_37).trans (zif_c ?_ ?_)
          · rfl
          · refine (zv_an c19_40 rfl).trans ?_
            refine (zv_k (v := 1) c19_41 (by decide)).trans ?_
            refine (zv_an c19_42 rfl).trans ?_
            refine (zv_gI c19_43 zg6_5).trans (zgI_c fun x8 => ?_)
            refine (zv_viV c19_46 zcn_20 rfl zL_20 zrt_20 rfl rfl).trans (zvr_c (zcV_c fun h9 => ?_))
            refine (zv_k (v := 0) c19_49 (by decide)).trans ?_
            exact zv_iz c19_50 zrt_19
        · rfl
      · refine (zv_k (v := 1) c19_86 (by decide)).trans ?_
        exact zv_iz c19_87 zrt_19
    · refine (zv_k (v := 1) c19_86 (by decide)).trans ?_
      exact zv_iz c19_87 zrt_19
  · refine (zv_k (v := 1) c19_86 (by decide)).trans ?_
    exact zv_iz c19_87 zrt_19
set_option maxRecDepth 100000 in
theorem b19_51 (l0 : Option Nat) (l1 : Option Nat) (l2 : Option Nat) (l3 : Int32) (h : zH) : zev 19 51 [some (vR l0), some (vR l1), some (vR l2), some (vI l3)] [] h = (zvr h l0 6 (zcV 16 [vR l0] h fun h1 => (zgR h1 l0 6 1 fun x2 => (zaI h1 l1 l3 fun x3 => (zaI h1 l2 l3 fun x4 => (zvr h1 l0 6 (zcI 21 [vR l0, vI x3, vI x4] h1 fun x6 h5 => (ztI h5 x2 l3 x6 fun h7 => (zgI h7 l0 6 4 fun x8 => (if x8 = 0 then zev 19 2 [some (vR l0), some (vR l1), some (vR l2), some (vI (l3 + 1))] [] h7 else zbo 0 (some (some (vI 0), h7)))))))))))) := by
  refine (zv_an c19_51 rfl).trans ?_
  refine (zv_viV c19_52 zcn_16 rfl zL_16 zrt_16 rfl rfl).trans (zvr_c (zcV_c fun h1 => ?_))
  refine (zv_an c19_55 rfl).trans ?_
  refine (zv_gR c19_56 zf6_1).trans (zgR_c fun x2 => ?_)
  refine (zv_in c19_59 rfl).trans ?_
  refine (zv_an c19_60 rfl).trans ?_
  refine (zv_an c19_61 rfl).trans ?_
  refine (zv_in c19_62 rfl).trans ?_
  refine (zv_aI c19_63).trans (zaI_c fun x3 => ?_)
  refine (zv_an c19_64 rfl).trans ?_
  refine (zv_in c19_65 rfl).trans ?_
  refine (zv_aI c19_66).trans (zaI_c fun x4 => ?_)
  refine (zv_viI c19_67 zcn_21 rfl zL_21 (Or.inl zrt_21) rfl rfl).trans (zvr_c (zcI_c fun x6 h5 => ?_))
  refine (zv_tI c19_70).trans (ztI_c fun h7 => ?_)
  refine (zv_an c19_71 rfl).trans ?_
  refine (zv_gI c19_72 zg6_4).trans (zgI_c fun x8 => ?_)
  refine (zv_ifeq c19_75).trans (zif_c ?_ ?_)
  · refine (zv_inc (y := 1) c19_80 rfl (by decide) rfl).trans ?_
    refine (zv_goto c19_83).trans ?_
    rfl
  · refine (zv_k (v := 0) c19_78 (by decide)).trans ?_
    exact zv_iz c19_79 zrt_19
theorem c20_0 : zcod 20 0 = some (.aload_n 0, 1, 0, 0, 0, 0) := by decide +kernel
theorem c20_1 : zcod 20 1 = some (.iload_n 1, 1, 0, 0, 0, 0) := by decide +kernel
theorem c20_2 : zcod 20 2 = some (.putfield 44, 3, 6, 4, 86, 0) := by decide +kernel
theorem c20_5 : zcod 20 5 = some (.aload_n 0, 1, 0, 0, 0, 0) := by decide +kernel
theorem c20_6 : zcod 20 6 = some (.iload_n 2, 1, 0, 0, 0, 0) := by decide +kernel
theorem c20_7 : zcod 20 7 = some (.putfield 19, 3, 6, 3, 84, 0) := by decide +kernel
theorem c20_10 : zcod 20 10 = some (.return_, 1, 0, 0, 0, 0) := by decide +kernel
set_option maxRecDepth 100000 in
theorem b20_0 (l0 : Option Nat) (l1 : Int32) (l2 : Int32) (h : zH) : zev 20 0 [some (vR l0), some (vI l1), some (vI l2)] [] h = (zpI h l0 6 4 l1 fun h1 => (zpI h1 l0 6 3 l2 fun h2 => some (none, h2))) := by
  refine (zv_an c20_0 rfl).trans ?_
  refine (zv_in c20_1 rfl).trans ?_
  refine (zv_pI c20_2 zf6_4).trans (zpI_c fun h1 => ?_)
  refine (zv_an c20_5 rfl).trans ?_
  refine (zv_in c20_6 rfl).trans ?_
  refine (zv_pI c20_7 zf6_3).trans (zpI_c fun h2 => ?_)
  exact zv_vr c20_10 zrt_20
theorem e20 (l0 : Option Nat) (l1 : Int32) (l2 : Int32) (h : zH) : zcall 20 [vR l0, vI l1, vI l2] h = (zpI h l0 6 4 l1 fun h1 => (zpI h1 l0 6 3 l2 fun h2 => some (none, h2))) := by
  refine Eq.trans ?_ (b20_0 l0 l1 l2 h)
  unfold zcall zent
  rw [zL_20]
  rfl
theorem c21_0 : zcod 21 0 = some (.aload_n 0, 1, 0, 0, 0, 0) := by decide +kernel
theorem c21_1 : zcod 21 1 = some (.getfield 41, 3, 6, 5, 87, 0) := by decide +kernel
theorem c21_4 : zcod 21 4 = some (.istore_n 3, 1, 0, 0, 0, 0) := by decide +kernel
theorem c21_5 : zcod 21 5 = some (.iconst 0, 1, 0, 0, 0, 0) := by decide +kernel
theorem c21_6 : zcod 21 6 = some (.istore 4, 2, 0, 0, 0, 0) := by decide +kernel
theorem c21_8 : zcod 21 8 = some (.aload_n 0, 1, 0, 0, 0, 0) := by decide +kernel
theorem c21_9 : zcod 21 9 = some (.getfield 41, 3, 6, 5, 87, 0) := by decide +kernel
theorem c21_12 : zcod 21 12 = some (.aload_n 0, 1, 0, 0, 0, 0) := by decide +kernel
theorem c21_13 : zcod 21 13 = some (.getfield 23, 3, 6, 2, 82, 0) := by decide +kernel
theorem c21_16 : zcod 21 16 = some (.if_icmp .ge 49, 3, 65, 0, 0, 0) := by decide +kernel
theorem c21_19 : zcod 21 19 = some (.aload_n 0, 1, 0, 0, 0, 0) := by decide +kernel
theorem c21_20 : zcod 21 20 = some (.aload_n 0, 1, 0, 0, 0, 0) := by decide +kernel
theorem c21_21 : zcod 21 21 = some (.getfield 41, 3, 6, 5, 87, 0) := by decide +kernel
theorem c21_24 : zcod 21 24 = some (.invokevirtual 62, 3, 17, 1, 254, 0) := by decide +kernel
theorem c21_27 : zcod 21 27 = some (.invokestatic 103, 3, 22, 1, 278, 0) := by decide +kernel
theorem c21_30 : zcod 21 30 = some (.ifCond .eq 35, 3, 65, 0, 0, 0) := by decide +kernel
theorem c21_33 : zcod 21 33 = some (.bipush 10, 2, 0, 0, 0, 0) := by decide +kernel
theorem c21_35 : zcod 21 35 = some (.iload 4, 2, 0, 0, 0, 0) := by decide +kernel
theorem c21_37 : zcod 21 37 = some (.imul, 1, 0, 0, 0, 0) := by decide +kernel
theorem c21_38 : zcod 21 38 = some (.aload_n 0, 1, 0, 0, 0, 0) := by decide +kernel
theorem c21_39 : zcod 21 39 = some (.aload_n 0, 1, 0, 0, 0, 0) := by decide +kernel
theorem c21_40 : zcod 21 40 = some (.getfield 41, 3, 6, 5, 87, 0) := by decide +kernel
theorem c21_43 : zcod 21 43 = some (.invokevirtual 62, 3, 17, 1, 254, 0) := by decide +kernel
theorem c21_46 : zcod 21 46 = some (.iadd, 1, 0, 0, 0, 0) := by decide +kernel
theorem c21_47 : zcod 21 47 = some (.bipush 48, 2, 0, 0, 0, 0) := by decide +kernel
theorem c21_49 : zcod 21 49 = some (.isub, 1, 0, 0, 0, 0) := by decide +kernel
theorem c21_50 : zcod 21 50 = some (.istore 4, 2, 0, 0, 0, 0) := by decide +kernel
theorem c21_52 : zcod 21 52 = some (.aload_n 0, 1, 0, 0, 0, 0) := by decide +kernel
theorem c21_53 : zcod 21 53 = some (.dup, 1, 0, 0, 0, 0) := by decide +kernel
theorem c21_54 : zcod 21 54 = some (.getfield 41, 3, 6, 5, 87, 0) := by decide +kernel
theorem c21_57 : zcod 21 57 = some (.iconst 1, 1, 0, 0, 0, 0) := by decide +kernel
theorem c21_58 : zcod 21 58 = some (.iadd, 1, 0, 0, 0, 0) := by decide +kernel
theorem c21_59 : zcod 21 59 = some (.putfield 41, 3, 6, 5, 87, 0) := by decide +kernel
theorem c21_62 : zcod 21 62 = some (.goto (-54), 3, 8, 0, 0, 0) := by decide +kernel
theorem c21_65 : zcod 21 65 = some (.aload_n 0, 1, 0, 0, 0, 0) := by decide +kernel
theorem c21_66 : zcod 21 66 = some (.getfield 41, 3, 6, 5, 87, 0) := by decide +kernel
theorem c21_69 : zcod 21 69 = some (.iload_n 3, 1, 0, 0, 0, 0) := by decide +kernel
theorem c21_70 : zcod 21 70 = some (.if_icmp .ne 15, 3, 85, 0, 0, 0) := by decide +kernel
theorem c21_73 : zcod 21 73 = some (.aload_n 0, 1, 0, 0, 0, 0) := by decide +kernel
theorem c21_74 : zcod 21 74 = some (.iconst 1, 1, 0, 0, 0, 0) := by decide +kernel
theorem c21_75 : zcod 21 75 = some (.aload_n 0, 1, 0, 0, 0, 0) := by decide +kernel
theorem c21_76 : zcod 21 76 = some (.getfield 41, 3, 6, 5, 87, 0) := by decide +kernel
theorem c21_79 : zcod 21 79 = some (.invokevirtual 96, 3, 20, 2, 270, 0) := by decide +kernel
theorem c21_82 : zcod 21 82 = some (.goto 31, 3, 113, 0, 0, 0) := by decide +kernel
theorem c21_85 : zcod 21 85 = some (.aload_n 0, 1, 0, 0, 0, 0) := by decide +kernel
theorem c21_86 : zcod 21 86 = some (.getfield 41, 3, 6, 5, 87, 0) := by decide +kernel
theorem c21_89 : zcod 21 89 = some (.iload_n 3, 1, 0, 0, 0, 0) := by decide +kernel
theorem c21_90 : zcod 21 90 = some (.isub, 1, 0, 0, 0, 0) := by decide +kernel
theorem c21_91 : zcod 21 91 = some (.iconst 2, 1, 0, 0, 0, 0) := by decide +kernel
theorem c21_92 : zcod 21 92 = some (.if_icmp .gt 15, 3, 107, 0, 0, 0) := by decide +kernel
theorem c21_95 : zcod 21 95 = some (.iload 4, 2, 0, 0, 0, 0) := by decide +kernel
theorem c21_97 : zcod 21 97 = some (.iload_n 1, 1, 0, 0, 0, 0) := by decide +kernel
theorem c21_98 : zcod 21 98 = some (.if_icmp .lt 9, 3, 107, 0, 0, 0) := by decide +kernel
theorem c21_101 : zcod 21 101 = some (.iload 4, 2, 0, 0, 0, 0) := by decide +kernel
theorem c21_103 : zcod 21 103 = some (.iload_n 2, 1, 0, 0, 0, 0) := by decide +kernel
theorem c21_104 : zcod 21 104 = some (.if_icmp .le 9, 3, 113, 0, 0, 0) := by decide +kernel
theorem c21_107 : zcod 21 107 = some (.aload_n 0, 1, 0, 0, 0, 0) := by decide +kernel
theorem c21_108 : zcod 21 108 = some (.iconst 2, 1, 0, 0, 0, 0) := by decide +kernel
theorem c21_109 : zcod 21 109 = some (.iload_n 3, 1, 0, 0, 0, 0) := by decide +kernel
theorem c21_110 : zcod 21 110 = some (.invokevirtual 96, 3, 20, 2, 270, 0) := by decide +kernel
theorem c21_113 : zcod 21 113 = some (.iload 4, 2, 0, 0, 0, 0) := by decide +kernel
theorem c21_115 : zcod 21 115 = some (.ireturn, 1, 0, 0, 0, 0) := by decide +kernel
set_option maxRecDepth 100000 in
theorem b21_0 (l0 : Option Nat) (l1 : Int32) (l2 : Int32) (h : zH) : zev 21 0 [some (vR l0), some (vI l1), some (vI l2), none, none] [] h = (zgI h l0 6 5 fun x1 => zev 21 8 [some (vR l0), some (vI l1), some (vI l2), some (vI x1), some (vI 0)] [] h) := by
  refine (zv_an c21_0 rfl).trans ?_
  refine (zv_gI c21_1 zg6_5).trans (zgI_c fun x1 => ?_)
  refine (zv_it c21_4 rfl).trans ?_
  refine (zv_k (v := 0) c21_5 (by decide)).trans ?_
  refine (zv_is c21_6 rfl).trans ?_
  rfl
theorem e21 (l0 : Option Nat) (l1 : Int32) (l2 : Int32) (h : zH) : zcall 21 [vR l0, vI l1, vI l2] h = (zgI h l0 6 5 fun x1 => zev 21 8 [some (vR l0), some (vI l1), some (vI l2), some (vI x1), some (vI 0)] [] h) := by
  refine Eq.trans ?_ (b21_0 l0 l1 l2 h)
  unfold zcall zent
  rw [zL_21]
  rfl
set_option maxRecDepth 100000 in
theorem b21_8 (l0 : Option Nat) (l1 : Int32) (l2 : Int32) (l3 : Int32) (l4 : Int32) (h : zH) : zev 21 8 [some (vR l0), some (vI l1), some (vI l2), some (vI l3), some (vI l4)] [] h = (zgI h l0 6 5 fun x1 => (zgI h l0 6 2 fun x2 => (if x1 < x2 then (zgI h l0 6 5 fun x3 => (zvr h l0 6 (zcI 17 [vR l0, vI x3] h fun x5 h4 => (zcI 22 [vI x5] h4 fun x7 h6 => (if x7 = 0 then zev 21 65 [some (vR l0), some (vI l1), some (vI l2), some (vI l3), some (vI l4)] [] h6 else (zgI h6 l0 6 5 fun x8 => (zvr h6 l0 6 (zcI 17 [vR l0, vI x8] h6 fun x10 h9 => (zgI h9 l0 6 5 fun x11 => (zpI h9 l0 6 5 (x11 + 1) fun h12 => zev 21 8 [some (vR l0), some (vI l1), some (vI l2), some (vI l3), some (vI (((10 * l4) + x10) - 48))] [] h12)))))))))) else zev 21 65 [some (vR l0), some (vI l1), some (vI l2), some (vI l3), some (vI l4)] [] h))) := by
  refine (zv_an c21_8 rfl).trans ?_
  refine (zv_gI c21_9 zg6_5).trans (zgI_c fun x1 => ?_)
  refine (zv_an c21_12 rfl).trans ?_
  refine (zv_gI c21_13 zg6_2).trans (zgI_c fun x2 => ?_)
  refine (zv_icge c21_16).trans (zif_c ?_ ?_)
  · refine (zv_an c21_19 rfl).trans ?_
    refine (zv_an c21_20 rfl).trans ?_
    refine (zv_gI c21_21 zg6_5).trans (zgI_c fun x3 => ?_)
    refine (zv_viI c21_24 zcn_17 rfl zL_17 (Or.inl zrt_17) rfl rfl).trans (zvr_c (zcI_c fun x5 h4 => ?_))
    refine (zv_stI c21_27 (by decide) rfl zL_22 (Or.inr zrt_22) rfl rfl).trans (zcI_c fun x7 h6 => ?_)
    refine (zv_ifeq c21_30).trans (zif_c ?_ ?_)
    · rfl
    · refine (zv_bi (v := 10) c21_33 (by decide)).trans ?_
      refine (zv_il c21_35 rfl).trans ?_
      refine (zv_imul c21_37).trans ?_
      refine (zv_an c21_38 rfl).trans ?_
      refine (zv_an c21_39 rfl).trans ?_
      refine (zv_gI c21_40 zg6_5).trans (zgI_c fun x8 => ?_)
      refine (zv_viI c21_43 zcn_17 rfl zL_17 (Or.inl zrt_17) rfl rfl).trans (zvr_c (zcI_c fun x10 h9 => ?_))
      refine (zv_iadd c21_46).trans ?_
      refine (zv_bi (v := 48) c21_47 (by decide)).trans ?_
      refine (zv_isub c21_49).trans ?_
      refine (zv_is c21_50 rfl).trans ?_
      refine (zv_an c21_52 rfl).trans ?_
      refine (zv_dup c21_53 rfl).trans ?_
      refine (zv_gI c21_54 zg6_5).trans (zgI_c fun x11 => ?_)
      refine (zv_k (v := 1) c21_57 (by decide)).trans ?_
      refine (zv_iadd c21_58).trans ?_
      refine (zv_pI c21_59 zf6_5).trans (zpI_c fun h12 => ?_)
      refine (zv_goto c21_62).trans ?_
      rfl
  · rfl
set_option maxRecDepth 100000 in
theorem b21_65 (l0 : Option Nat) (l1 : Int32) (l2 : Int32) (l3 : Int32) (l4 : Int32) (h : zH) : zev 21 65 [some (vR l0), some (vI l1), some (vI l2), some (vI l3), some (vI l4)] [] h = (zgI h l0 6 5 fun x1 => (if x1 = l3 then (zgI h l0 6 5 fun x2 => (zvr h l0 6 (zcV 20 [vR l0, vI 1, vI x2] h fun h3 => some (some (vI l4), h3)))) else (zgI h l0 6 5 fun x4 => (if 2 < (x4 - l3) then (zvr h l0 6 (zcV 20 [vR l0, vI 2, vI l3] h fun h5 => some (some (vI l4), h5))) else (if l4 < l1 then (zvr h l0 6 (zcV 20 [vR l0, vI 2, vI l3] h fun h6 => some (some (vI l4), h6))) else (if l2 < l4 then (zvr h l0 6 (zcV 20 [vR l0, vI 2, vI l3] h fun h7 => some (some (vI l4), h7))) else some (some (vI l4), h))))))) := by
  refine (zv_an c21_65 rfl).trans ?_
  refine (zv_gI c21_66 zg6_5).trans (zgI_c fun x1 => ?_)
  refine (zv_in c21_69 rfl).trans ?_
  refine (zv_icne c21_70).trans (zif_c ?_ ?_)
  · refine (zv_an c21_73 rfl).trans ?_
    refine (zv_k (v := 1) c21_74 (by decide)).trans ?_
    refine (zv_an c21_75 rfl).trans ?_
    refine (zv_gI c21_76 zg6_5).trans (zgI_c fun x2 => ?_)
    refine (zv_viV c21_79 zcn_20 rfl zL_20 zrt_20 rfl rfl).trans (zvr_c (zcV_c fun h3 => ?_))
    refine (zv_goto c21_82).trans ?_
    refine (zv_il c21_113 rfl).trans ?_
    exact zv_ir c21_115 zrt_21
  · refine (zv_an c21_85 rfl).trans ?_
    refine (zv_gI c21_86 zg6_5).trans (zgI_c fun x4 => ?_)
    refine (zv_in c21_89 rfl).trans ?_
    refine (zv_isub c21_90).trans ?_
    refine (zv_k (v := 2) c21_91 (by decide)).trans ?_
    refine (zv_icgt c21_92).trans (zif_c ?_ ?_)
    · refine (zv_an c21_107 rfl).trans ?_
      refine (zv_k (v := 2) c21_108 (by decide)).trans ?_
      refine (zv_in c21_109 rfl).trans ?_
      refine (zv_viV c21_110 zcn_20 rfl zL_20 zrt_20 rfl rfl).trans (zvr_c (zcV_c fun h5 => ?_))
      refine (zv_il c21_113 rfl).trans ?_
      exact zv_ir c21_115 zrt_21
    · refine (zv_il c21_95 rfl).trans ?_
      refine (zv_in c21_97 rfl).trans ?_
      refine (zv_iclt c21_98).trans (zif_c ?_ ?_)
      · refine (zv_an c21_107 rfl).trans ?_
        refine (zv_k (v := 2) c21_108 (by decide)).trans ?_
        refine (zv_in c21_109 rfl).trans ?_
        refine (zv_viV c21_110 zcn_20 rfl zL_20 zrt_20 rfl rfl).trans (zvr_c (zcV_c fun h6 => ?_))
        refine (zv_il c21_113 rfl).trans ?_
        exact zv_ir c21_115 zrt_21
      · refine (zv_il c21_101 rfl).trans ?_
        refine (zv_in c21_103 rfl).trans ?_
        refine (zv_icle c21_104).trans (zif_c ?_ ?_)
        · refine (zv_an c21_107 rfl).trans ?_
          refine (zv_k (v := 2) c21_108 (by decide)).trans ?_
          refine (zv_in c21_109 rfl).trans ?_
          refine (zv_viV c21_110 zcn_20 rfl zL_20 zrt_20 rfl rfl).trans (zvr_c (zcV_c fun h7 => ?_))
          refine (zv_il c21_113 rfl).trans ?_
          exact zv_ir c21_115 zrt_21
        · refine (zv_il c21_113 rfl).trans ?_
          exact zv_ir c21_115 zrt_21
theorem c22_0 : zcod 22 0 = some (.iload_n 0, 1, 0, 0, 0, 0) := by decide +kernel
theorem c22_1 : zcod 22 1 = some (.bipush 48, 2, 0, 0, 0, 0) := by decide +kernel
theorem c22_3 : zcod 22 3 = some (.if_icmp .lt 13, 3, 16, 0, 0, 0) := by decide +kernel
theorem c22_6 : zcod 22 6 = some (.iload_n 0, 1, 0, 0, 0, 0) := by decide +kernel
theorem c22_7 : zcod 22 7 = some (.bipush 57, 2, 0, 0, 0, 0) := by decide +kernel
theorem c22_9 : zcod 22 9 = some (.if_icmp .gt 7, 3, 16, 0, 0, 0) := by decide +kernel
theorem c22_12 : zcod 22 12 = some (.iconst 1, 1, 0, 0, 0, 0) := by decide +kernel
theorem c22_13 : zcod 22 13 = some (.goto 4, 3, 17, 0, 0, 0) := by decide +kernel
theorem c22_16 : zcod 22 16 = some (.iconst 0, 1, 0, 0, 0, 0) := by decide +kernel
theorem c22_17 : zcod 22 17 = some (.ireturn, 1, 0, 0, 0, 0) := by decide +kernel
set_option maxRecDepth 100000 in
theorem b22_0 (l0 : Int32) (h : zH) : zev 22 0 [some (vI l0)] [] h = (if l0 < 48 then zbo 0 (some (some (vI 0), h)) else (if 57 < l0 then zbo 0 (some (some (vI 0), h)) else zbo 1 (some (some (vI 1), h)))) := by
  refine (zv_in c22_0 rfl).trans ?_
  refine (zv_bi (v := 48) c22_1 (by decide)).trans ?_
  refine (zv_iclt c22_3).trans (zif_c ?_ ?_)
  · refine (zv_k (v := 0) c22_16 (by decide)).trans ?_
    exact zv_iz c22_17 zrt_22
  · refine (zv_in c22_6 rfl).trans ?_
    refine (zv_bi (v := 57) c22_7 (by decide)).trans ?_
    refine (zv_icgt c22_9).trans (zif_c ?_ ?_)
    · refine (zv_k (v := 0) c22_16 (by decide)).trans ?_
      exact zv_iz c22_17 zrt_22
    · refine (zv_k (v := 1) c22_12 (by decide)).trans ?_
      refine (zv_goto c22_13).trans ?_
      exact zv_iz c22_17 zrt_22
theorem e22 (l0 : Int32) (h : zH) : zcall 22 [vI l0] h = (if l0 < 48 then zbo 0 (some (some (vI 0), h)) else (if 57 < l0 then zbo 0 (some (some (vI 0), h)) else zbo 1 (some (some (vI 1), h)))) := by
  refine Eq.trans ?_ (b22_0 l0 h)
  unfold zcall zent
  rw [zL_22]
  rfl
theorem c23_0 : zcod 23 0 = some (.aload_n 0, 1, 0, 0, 0, 0) := by decide +kernel
theorem c23_1 : zcod 23 1 = some (.getfield 15, 3, 6, 1, 81, 0) := by decide +kernel
theorem c23_4 : zcod 23 4 = some (.iconst 0, 1, 0, 0, 0, 0) := by decide +kernel
theorem c23_5 : zcod 23 5 = some (.iaload, 1, 0, 0, 0, 0) := by decide +kernel
theorem c23_6 : zcod 23 6 = some (.istore 5, 2, 0, 0, 0, 0) := by decide +kernel
theorem c23_8 : zcod 23 8 = some (.aload_n 0, 1, 0, 0, 0, 0) := by decide +kernel
theorem c23_9 : zcod 23 9 = some (.getfield 15, 3, 6, 1, 81, 0) := by decide +kernel
theorem c23_12 : zcod 23 12 = some (.iconst 1, 1, 0, 0, 0, 0) := by decide +kernel
theorem c23_13 : zcod 23 13 = some (.iaload, 1, 0, 0, 0, 0) := by decide +kernel
theorem c23_14 : zcod 23 14 = some (.istore 6, 2, 0, 0, 0, 0) := by decide +kernel
theorem c23_16 : zcod 23 16 = some (.aload_n 0, 1, 0, 0, 0, 0) := by decide +kernel
theorem c23_17 : zcod 23 17 = some (.getfield 15, 3, 6, 1, 81, 0) := by decide +kernel
theorem c23_20 : zcod 23 20 = some (.iconst 2, 1, 0, 0, 0, 0) := by decide +kernel
theorem c23_21 : zcod 23 21 = some (.iaload, 1, 0, 0, 0, 0) := by decide +kernel
theorem c23_22 : zcod 23 22 = some (.istore 7, 2, 0, 0, 0, 0) := by decide +kernel
theorem c23_24 : zcod 23 24 = some (.aload_n 0, 1, 0, 0, 0, 0) := by decide +kernel
theorem c23_25 : zcod 23 25 = some (.getfield 15, 3, 6, 1, 81, 0) := by decide +kernel
theorem c23_28 : zcod 23 28 = some (.iconst 3, 1, 0, 0, 0, 0) := by decide +kernel
theorem c23_29 : zcod 23 29 = some (.iaload, 1, 0, 0, 0, 0) := by decide +kernel
theorem c23_30 : zcod 23 30 = some (.istore 8, 2, 0, 0, 0, 0) := by decide +kernel
theorem c23_32 : zcod 23 32 = some (.aload_n 1, 1, 0, 0, 0, 0) := by decide +kernel
theorem c23_33 : zcod 23 33 = some (.iload 5, 2, 0, 0, 0, 0) := by decide +kernel
theorem c23_35 : zcod 23 35 = some (.iload 6, 2, 0, 0, 0, 0) := by decide +kernel
theorem c23_37 : zcod 23 37 = some (.iload_n 3, 1, 0, 0, 0, 0) := by decide +kernel
theorem c23_38 : zcod 23 38 = some (.iload 7, 2, 0, 0, 0, 0) := by decide +kernel
theorem c23_40 : zcod 23 40 = some (.imul, 1, 0, 0, 0, 0) := by decide +kernel
theorem c23_41 : zcod 23 41 = some (.iload 8, 2, 0, 0, 0, 0) := by decide +kernel
theorem c23_43 : zcod 23 43 = some (.iconst 0, 1, 0, 0, 0, 0) := by decide +kernel
theorem c23_44 : zcod 23 44 = some (.invokevirtual 107, 3, 24, 5, 285, 0) := by decide +kernel
theorem c23_47 : zcod 23 47 = some (.ifCond .ne 12, 3, 59, 0, 0, 0) := by decide +kernel
theorem c23_50 : zcod 23 50 = some (.aload_n 0, 1, 0, 0, 0, 0) := by decide +kernel
theorem c23_51 : zcod 23 51 = some (.iconst 3, 1, 0, 0, 0, 0) := by decide +kernel
theorem c23_52 : zcod 23 52 = some (.iload_n 2, 1, 0, 0, 0, 0) := by decide +kernel
theorem c23_53 : zcod 23 53 = some (.invokevirtual 96, 3, 20, 2, 270, 0) := by decide +kernel
theorem c23_56 : zcod 23 56 = some (.goto 61, 3, 117, 0, 0, 0) := by decide +kernel
theorem c23_59 : zcod 23 59 = some (.aload_n 1, 1, 0, 0, 0, 0) := by decide +kernel
theorem c23_60 : zcod 23 60 = some (.getfield 26, 3, 5, 2, 148, 0) := by decide +kernel
theorem c23_63 : zcod 23 63 = some (.invokevirtual 32, 3, 14, 0, 242, 0) := by decide +kernel
theorem c23_66 : zcod 23 66 = some (.iload_n 3, 1, 0, 0, 0, 0) := by decide +kernel
theorem c23_67 : zcod 23 67 = some (.iadd, 1, 0, 0, 0, 0) := by decide +kernel
theorem c23_68 : zcod 23 68 = some (.bipush 40, 2, 0, 0, 0, 0) := by decide +kernel
theorem c23_70 : zcod 23 70 = some (.if_icmp .le 12, 3, 82, 0, 0, 0) := by decide +kernel
theorem c23_73 : zcod 23 73 = some (.aload_n 0, 1, 0, 0, 0, 0) := by decide +kernel
theorem c23_74 : zcod 23 74 = some (.iconst 4, 1, 0, 0, 0, 0) := by decide +kernel
theorem c23_75 : zcod 23 75 = some (.iload_n 2, 1, 0, 0, 0, 0) := by decide +kernel
theorem c23_76 : zcod 23 76 = some (.invokevirtual 96, 3, 20, 2, 270, 0) := by decide +kernel
theorem c23_79 : zcod 23 79 = some (.goto 38, 3, 117, 0, 0, 0) := by decide +kernel
theorem c23_82 : zcod 23 82 = some (.iconst 0, 1, 0, 0, 0, 0) := by decide +kernel
theorem c23_83 : zcod 23 83 = some (.istore 9, 2, 0, 0, 0, 0) := by decide +kernel
theorem c23_85 : zcod 23 85 = some (.iload 9, 2, 0, 0, 0, 0) := by decide +kernel
theorem c23_87 : zcod 23 87 = some (.iload_n 3, 1, 0, 0, 0, 0) := by decide +kernel
theorem c23_88 : zcod 23 88 = some (.if_icmp .ge 29, 3, 117, 0, 0, 0) := by decide +kernel
theorem c23_91 : zcod 23 91 = some (.aload_n 1, 1, 0, 0, 0, 0) := by decide +kernel
theorem c23_92 : zcod 23 92 = some (.iload 5, 2, 0, 0, 0, 0) := by decide +kernel
theorem c23_94 : zcod 23 94 = some (.iload 9, 2, 0, 0, 0, 0) := by decide +kernel
theorem c23_96 : zcod 23 96 = some (.iload 7, 2, 0, 0, 0, 0) := by decide +kernel
theorem c23_98 : zcod 23 98 = some (.imul, 1, 0, 0, 0, 0) := by decide +kernel
theorem c23_99 : zcod 23 99 = some (.iadd, 1, 0, 0, 0, 0) := by decide +kernel
theorem c23_100 : zcod 23 100 = some (.iload 6, 2, 0, 0, 0, 0) := by decide +kernel
theorem c23_102 : zcod 23 102 = some (.iload 7, 2, 0, 0, 0, 0) := by decide +kernel
theorem c23_104 : zcod 23 104 = some (.iload 8, 2, 0, 0, 0, 0) := by decide +kernel
theorem c23_106 : zcod 23 106 = some (.iload 4, 2, 0, 0, 0, 0) := by decide +kernel
theorem c23_108 : zcod 23 108 = some (.invokevirtual 111, 3, 27, 5, 296, 0) := by decide +kernel
theorem c23_111 : zcod 23 111 = some (.iinc 9 1, 3, 0, 0, 0, 0) := by decide +kernel
theorem c23_114 : zcod 23 114 = some (.goto (-29), 3, 85, 0, 0, 0) := by decide +kernel
theorem c23_117 : zcod 23 117 = some (.return_, 1, 0, 0, 0, 0) := by decide +kernel
set_option maxRecDepth 100000 in
theorem b23_0 (l0 : Option Nat) (l1 : Option Nat) (l2 : Int32) (l3 : Int32) (l4 : Int32) (h : zH) : zev 23 0 [some (vR l0), some (vR l1), some (vI l2), some (vI l3), some (vI l4), none, none, none, none, none] [] h = (zgR h l0 6 1 fun x1 => (zaI h x1 0 fun x2 => (zgR h l0 6 1 fun x3 => (zaI h x3 1 fun x4 => (zgR h l0 6 1 fun x5 => (zaI h x5 2 fun x6 => (zgR h l0 6 1 fun x7 => (zaI h x7 3 fun x8 => (zvr h l1 5 (zcI 24 [vR l1, vI x2, vI x4, vI (l3 * x6), vI x8, vI 0] h fun x10 h9 => (if x10 = 0 then (zvr h9 l0 6 (zcV 20 [vR l0, vI 3, vI l2] h9 fun h11 => some (none, h11))) else (zgR h9 l1 5 2 fun x12 => (zvr h9 x12 0 (zcI 14 [vR x12] h9 fun x14 h13 => (if 40 < (x14 + l3) then (zvr h13 l0 6 (zcV 20 [vR l0, vI 4, vI l2] h13 fun h15 => some (none, h15))) else zev 23 85 [some (vR l0), some (vR l1), some (vI l2), some (vI l3), some (vI l4), some (vI x2), some (vI x4), some (vI x6), some (vI x8), some (vI 0)] [] h13))))))))))))))) := by
  refine (zv_an c23_0 rfl).trans ?_
  refine (zv_gR c23_1 zf6_1).trans (zgR_c fun x1 => ?_)
  refine (zv_k (v := 0) c23_4 (by decide)).trans ?_
  refine (zv_aI c23_5).trans (zaI_c fun x2 => ?_)
  refine (zv_is c23_6 rfl).trans ?_
  refine (zv_an c23_8 rfl).trans ?_
  refine (zv_gR c23_9 zf6_1).trans (zgR_c fun x3 => ?_)
  refine (zv_k (v := 1) c23_12 (by decide)).trans ?_
  refine (zv_aI c23_13).trans (zaI_c fun x4 => ?_)
  refine (zv_is c23_14 rfl).trans ?_
  refine (zv_an c23_16 rfl).trans ?_
  refine (zv_gR c23_17 zf6_1).trans (zgR_c fun x5 => ?_)
  refine (zv_k (v := 2) c23_20 (by decide)).trans ?_
  refine (zv_aI c23_21).trans (zaI_c fun x6 => ?_)
  refine (zv_is c23_22 rfl).trans ?_
  refine (zv_an c23_24 rfl).trans ?_
  refine (zv_gR c23_25 zf6_1).trans (zgR_c fun x7 => ?_)
  refine (zv_k (v := 3) c23_28 (by decide)).trans ?_
  refine (zv_aI c23_29).trans (zaI_c fun x8 => ?_)
  refine (zv_is c23_30 rfl).trans ?_
  refine (zv_an c23_32 rfl).trans ?_
  refine (zv_il c23_33 rfl).trans ?_
  refine (zv_il c23_35 rfl).trans ?_
  refine (zv_in c23_37 rfl).trans ?_
  refine (zv_il c23_38 rfl).trans ?_
  refine (zv_imul c23_40).trans ?_
  refine (zv_il c23_41 rfl).trans ?_
  refine (zv_k (v := 0) c23_43 (by decide)).trans ?_
  refine (zv_viI c23_44 zcn_24 rfl zL_24 (Or.inr zrt_24) rfl rfl).trans (zvr_c (zcI_c fun x10 h9 => ?_))
  refine (zv_ifne c23_47).trans (zif_c ?_ ?_)
  · refine (zv_an c23_50 rfl).trans ?_
    refine (zv_k (v := 3) c23_51 (by decide)).trans ?_
    refine (zv_in c23_52 rfl).trans ?_
    refine (zv_viV c23_53 zcn_20 rfl zL_20 zrt_20 rfl rfl).trans (zvr_c (zcV_c fun h11 => ?_))
    refine (zv_goto c23_56).trans ?_
    exact zv_vr c23_117 zrt_23
  · refine (zv_an c23_59 rfl).trans ?_
    refine (zv_gR c23_60 zf5_2).trans (zgR_c fun x12 => ?_)
    refine (zv_viI c23_63 zcn_14 rfl zL_14 (Or.inl zrt_14) rfl rfl).trans (zvr_c (zcI_c fun x14 h13 => ?_))
    refine (zv_in c23_66 rfl).trans ?_
    refine (zv_iadd c23_67).trans ?_
    refine (zv_bi (v := 40) c23_68 (by decide)).trans ?_
    refine (zv_icle c23_70).trans (zif_c ?_ ?_)
    · refine (zv_an c23_73 rfl).trans ?_
      refine (zv_k (v := 4) c23_74 (by decide)).trans ?_
      refine (zv_in c23_75 rfl).trans ?_
      refine (zv_viV c23_76 zcn_20 rfl zL_20 zrt_20 rfl rfl).trans (zvr_c (zcV_c fun h15 => ?_))
      refine (zv_goto c23_79).trans ?_
      exact zv_vr c23_117 zrt_23
    · refine (zv_k (v := 0) c23_82 (by decide)).trans ?_
      refine (zv_is c23_83 rfl).trans ?_
      rfl
theorem e23 (l0 : Option Nat) (l1 : Option Nat) (l2 : Int32) (l3 : Int32) (l4 : Int32) (h : zH) : zcall 23 [vR l0, vR l1, vI l2, vI l3, vI l4] h = (zgR h l0 6 1 fun x1 => (zaI h x1 0 fun x2 => (zgR h l0 6 1 fun x3 => (zaI h x3 1 fun x4 => (zgR h l0 6 1 fun x5 => (zaI h x5 2 fun x6 => (zgR h l0 6 1 fun x7 => (zaI h x7 3 fun x8 => (zvr h l1 5 (zcI 24 [vR l1, vI x2, vI x4, vI (l3 * x6), vI x8, vI 0] h fun x10 h9 => (if x10 = 0 then (zvr h9 l0 6 (zcV 20 [vR l0, vI 3, vI l2] h9 fun h11 => some (none, h11))) else (zgR h9 l1 5 2 fun x12 => (zvr h9 x12 0 (zcI 14 [vR x12] h9 fun x14 h13 => (if 40 < (x14 + l3) then (zvr h13 l0 6 (zcV 20 [vR l0, vI 4, vI l2] h13 fun h15 => some (none, h15))) else zev 23 85 [some (vR l0), some (vR l1), some (vI l2), some (vI l3), some (vI l4), some (vI x2), some (vI x4), some (vI x6), some (vI x8), some (vI 0)] [] h13))))))))))))))) := by
  refine Eq.trans ?_ (b23_0 l0 l1 l2 l3 l4 h)
  unfold zcall zent
  rw [zL_23]
  rfl
set_option maxRecDepth 100000 in
theorem b23_85 (l0 : Option Nat) (l1 : Option Nat) (l2 : Int32) (l3 : Int32) (l4 : Int32) (l5 : Int32) (l6 : Int32) (l7 : Int32) (l8 : Int32) (l9 : Int32) (h : zH) : zev 23 85 [some (vR l0), some (vR l1), some (vI l2), some (vI l3), some (vI l4), some (vI l5), some (vI l6), some (vI l7), some (vI l8), some (vI l9)] [] h = (if l9 < l3 then (zvr h l1 5 (zcV 27 [vR l1, vI (l5 + (l9 * l7)), vI l6, vI l7, vI l8, vI l4] h fun h1 => zev 23 85 [some (vR l0), some (vR l1), some (vI l2), some (vI l3), some (vI l4), some (vI l5), some (vI l6), some (vI l7), some (vI l8), some (vI (l9 + 1))] [] h1)) else some (none, h)) := by
  refine (zv_il c23_85 rfl).trans ?_
  refine (zv_in c23_87 rfl).trans ?_
  refine (zv_icge c23_88).trans (zif_c ?_ ?_)
  · refine (zv_an c23_91 rfl).trans ?_
    refine (zv_il c23_92 rfl).trans ?_
    refine (zv_il c23_94 rfl).trans ?_
    refine (zv_il c23_96 rfl).trans ?_
    refine (zv_imul c23_98).trans ?_
    refine (zv_iadd c23_99).trans ?_
    refine (zv_il c23_100 rfl).trans ?_
    refine (zv_il c23_102 rfl).trans ?_
    refine (zv_il c23_104 rfl).trans ?_
    refine (zv_il c23_106 rfl).trans ?_
    refine (zv_viV c23_108 zcn_27 rfl zL_27 zrt_27 rfl rfl).trans (zvr_c (zcV_c fun h1 => ?_))
    refine (zv_inc (y := 1) c23_111 rfl (by decide) rfl).trans ?_
    refine (zv_goto c23_114).trans ?_
    rfl
  · exact zv_vr c23_117 zrt_23
theorem c24_0 : zcod 24 0 = some (.iload_n 1, 1, 0, 0, 0, 0) := by decide +kernel
theorem c24_1 : zcod 24 1 = some (.ifCond .lt 24, 3, 25, 0, 0, 0) := by decide +kernel
theorem c24_4 : zcod 24 4 = some (.iload_n 2, 1, 0, 0, 0, 0) := by decide +kernel
theorem c24_5 : zcod 24 5 = some (.ifCond .lt 20, 3, 25, 0, 0, 0) := by decide +kernel
theorem c24_8 : zcod 24 8 = some (.iload_n 1, 1, 0, 0, 0, 0) := by decide +kernel
theorem c24_9 : zcod 24 9 = some (.iload_n 3, 1, 0, 0, 0, 0) := by decide +kernel
theorem c24_10 : zcod 24 10 = some (.iadd, 1, 0, 0, 0, 0) := by decide +kernel
theorem c24_11 : zcod 24 11 = some (.bipush 20, 2, 0, 0, 0, 0) := by decide +kernel
theorem c24_13 : zcod 24 13 = some (.if_icmp .gt 12, 3, 25, 0, 0, 0) := by decide +kernel
theorem c24_16 : zcod 24 16 = some (.iload_n 2, 1, 0, 0, 0, 0) := by decide +kernel
theorem c24_17 : zcod 24 17 = some (.iload 4, 2, 0, 0, 0, 0) := by decide +kernel
theorem c24_19 : zcod 24 19 = some (.iadd, 1, 0, 0, 0, 0) := by decide +kernel
theorem c24_20 : zcod 24 20 = some (.bipush 16, 2, 0, 0, 0, 0) := by decide +kernel
theorem c24_22 : zcod 24 22 = some (.if_icmp .le 5, 3, 27, 0, 0, 0) := by decide +kernel
theorem c24_25 : zcod 24 25 = some (.iconst 0, 1, 0, 0, 0, 0) := by decide +kernel
theorem c24_26 : zcod 24 26 = some (.ireturn, 1, 0, 0, 0, 0) := by decide +kernel
theorem c24_27 : zcod 24 27 = some (.iload_n 2, 1, 0, 0, 0, 0) := by decide +kernel
theorem c24_28 : zcod 24 28 = some (.istore 6, 2, 0, 0, 0, 0) := by decide +kernel
theorem c24_30 : zcod 24 30 = some (.iload 6, 2, 0, 0, 0, 0) := by decide +kernel
theorem c24_32 : zcod 24 32 = some (.iload_n 2, 1, 0, 0, 0, 0) := by decide +kernel
theorem c24_33 : zcod 24 33 = some (.iload 4, 2, 0, 0, 0, 0) := by decide +kernel
theorem c24_35 : zcod 24 35 = some (.iadd, 1, 0, 0, 0, 0) := by decide +kernel
theorem c24_36 : zcod 24 36 = some (.if_icmp .ge 56, 3, 92, 0, 0, 0) := by decide +kernel
theorem c24_39 : zcod 24 39 = some (.iload_n 1, 1, 0, 0, 0, 0) := by decide +kernel
theorem c24_40 : zcod 24 40 = some (.istore 7, 2, 0, 0, 0, 0) := by decide +kernel
theorem c24_42 : zcod 24 42 = some (.iload 7, 2, 0, 0, 0, 0) := by decide +kernel
theorem c24_44 : zcod 24 44 = some (.iload_n 1, 1, 0, 0, 0, 0) := by decide +kernel
theorem c24_45 : zcod 24 45 = some (.iload_n 3, 1, 0, 0, 0, 0) := by decide +kernel
theorem c24_46 : zcod 24 46 = some (.iadd, 1, 0, 0, 0, 0) := by decide +kernel
theorem c24_47 : zcod 24 47 = some (.if_icmp .ge 39, 3, 86, 0, 0, 0) := by decide +kernel
theorem c24_50 : zcod 24 50 = some (.aload_n 0, 1, 0, 0, 0, 0) := by decide +kernel
theorem c24_51 : zcod 24 51 = some (.iload 7, 2, 0, 0, 0, 0) := by decide +kernel
theorem c24_53 : zcod 24 53 = some (.iload 6, 2, 0, 0, 0, 0) := by decide +kernel
theorem c24_55 : zcod 24 55 = some (.invokevirtual 50, 3, 25, 2, 289, 0) := by decide +kernel
theorem c24_58 : zcod 24 58 = some (.istore 8, 2, 0, 0, 0, 0) := by decide +kernel
theorem c24_60 : zcod 24 60 = some (.iload 8, 2, 0, 0, 0, 0) := by decide +kernel
theorem c24_62 : zcod 24 62 = some (.iconst (-1), 1, 0, 0, 0, 0) := by decide +kernel
theorem c24_63 : zcod 24 63 = some (.if_icmp .eq 17, 3, 80, 0, 0, 0) := by decide +kernel
theorem c24_66 : zcod 24 66 = some (.iload 5, 2, 0, 0, 0, 0) := by decide +kernel
theorem c24_68 : zcod 24 68 = some (.ifCond .eq 10, 3, 78, 0, 0, 0) := by decide +kernel
theorem c24_71 : zcod 24 71 = some (.iload 8, 2, 0, 0, 0, 0) := by decide +kernel
theorem c24_73 : zcod 24 73 = some (.bipush 100, 2, 0, 0, 0, 0) := by decide +kernel
theorem c24_75 : zcod 24 75 = some (.if_icmp .ge 5, 3, 80, 0, 0, 0) := by decide +kernel
theorem c24_78 : zcod 24 78 = some (.iconst 0, 1, 0, 0, 0, 0) := by decide +kernel
theorem c24_79 : zcod 24 79 = some (.ireturn, 1, 0, 0, 0, 0) := by decide +kernel
theorem c24_80 : zcod 24 80 = some (.iinc 7 1, 3, 0, 0, 0, 0) := by decide +kernel
theorem c24_83 : zcod 24 83 = some (.goto (-41), 3, 42, 0, 0, 0) := by decide +kernel
theorem c24_86 : zcod 24 86 = some (.iinc 6 1, 3, 0, 0, 0, 0) := by decide +kernel
theorem c24_89 : zcod 24 89 = some (.goto (-59), 3, 30, 0, 0, 0) := by decide +kernel
theorem c24_92 : zcod 24 92 = some (.iconst 1, 1, 0, 0, 0, 0) := by decide +kernel
theorem c24_93 : zcod 24 93 = some (.ireturn, 1, 0, 0, 0, 0) := by decide +kernel
set_option maxRecDepth 100000 in
theorem b24_0 (l0 : Option Nat) (l1 : Int32) (l2 : Int32) (l3 : Int32) (l4 : Int32) (l5 : Int32) (h : zH) : zev 24 0 [some (vR l0), some (vI l1), some (vI l2), some (vI l3), some (vI l4), some (vI l5), none, none, none] [] h = (if l1 < 0 then zbo 0 (some (some (vI 0), h)) else (if l2 < 0 then zbo 0 (some (some (vI 0), h)) else (if 20 < (l1 + l3) then zbo 0 (some (some (vI 0), h)) else (if 16 < (l2 + l4) then zbo 0 (some (some (vI 0), h)) else zev 24 30 [some (vR l0), some (vI l1), some (vI l2), some (vI l3), some (vI l4), some (vI l5), some (vI l2), none, none] [] h)))) := by
  refine (zv_in c24_0 rfl).trans ?_
  refine (zv_iflt c24_1).trans (zif_c ?_ ?_)
  · refine (zv_k (v := 0) c24_25 (by decide)).trans ?_
    exact zv_iz c24_26 zrt_24
  · refine (zv_in c24_4 rfl).trans ?_
    refine (zv_iflt c24_5).trans (zif_c ?_ ?_)
    · refine (zv_k (v := 0) c24_25 (by decide)).trans ?_
      exact zv_iz c24_26 zrt_24
    · refine (zv_in c24_8 rfl).trans ?_
      refine (zv_in c24_9 rfl).trans ?_
      refine (zv_iadd c24_10).trans ?_
      refine (zv_bi (v := 20) c24_11 (by decide)).trans ?_
      refine (zv_icgt c24_13).trans (zif_c ?_ ?_)
      · refine (zv_k (v := 0) c24_25 (by decide)).trans ?_
        exact zv_iz c24_26 zrt_24
      · refine (zv_in c24_16 rfl).trans ?_
        refine (zv_il c24_17 rfl).trans ?_
        refine (zv_iadd c24_19).trans ?_
        refine (zv_bi (v := 16) c24_20 (by decide)).trans ?_
        refine (zv_icle c24_22).trans (zif_c ?_ ?_)
        · refine (zv_k (v := 0) c24_25 (by decide)).trans ?_
          exact zv_iz c24_26 zrt_24
        · refine (zv_in c24_27 rfl).trans ?_
          refine (zv_is c24_28 rfl).trans ?_
          rfl
theorem e24 (l0 : Option Nat) (l1 : Int32) (l2 : Int32) (l3 : Int32) (l4 : Int32) (l5 : Int32) (h : zH) : zcall 24 [vR l0, vI l1, vI l2, vI l3, vI l4, vI l5] h = (if l1 < 0 then zbo 0 (some (some (vI 0), h)) else (if l2 < 0 then zbo 0 (some (some (vI 0), h)) else (if 20 < (l1 + l3) then zbo 0 (some (some (vI 0), h)) else (if 16 < (l2 + l4) then zbo 0 (some (some (vI 0), h)) else zev 24 30 [some (vR l0), some (vI l1), some (vI l2), some (vI l3), some (vI l4), some (vI l5), some (vI l2), none, none] [] h)))) := by
  refine Eq.trans ?_ (b24_0 l0 l1 l2 l3 l4 l5 h)
  unfold zcall zent
  rw [zL_24]
  rfl
set_option maxRecDepth 100000 in
theorem b24_30 (l0 : Option Nat) (l1 : Int32) (l2 : Int32) (l3 : Int32) (l4 : Int32) (l5 : Int32) (l6 : Int32) (l7 : Option zV) (l8 : Option zV) (h : zH) : zev 24 30 [some (vR l0), some (vI l1), some (vI l2), some (vI l3), some (vI l4), some (vI l5), some (vI l6), l7, l8] [] h = (if l6 < (l2 + l4) then zev 24 42 [some (vR l0), some (vI l1), some (vI l2), some (vI l3), some (vI l4), some (vI l5), some (vI l6), some (vI l1), l8] [] h else zbo 1 (some (some (vI 1), h))) := by
  refine (zv_il c24_30 rfl).trans ?_
  refine (zv_in c24_32 rfl).trans ?_
  refine (zv_il c24_33 rfl).trans ?_
  refine (zv_iadd c24_35).trans ?_
  refine (zv_icge c24_36).trans (zif_c ?_ ?_)
  · refine (zv_in c24_39 rfl).trans ?_
    refine (zv_is c24_40 rfl).trans ?_
    rfl
  · refine (zv_k (v := 1) c24_92 (by decide)).trans ?_
    exact zv_iz c24_93 zrt_24
set_option maxRecDepth 100000 in
theorem b24_42 (l0 : Option Nat) (l1 : Int32) (l2 : Int32) (l3 : Int32) (l4 : Int32) (l5 : Int32) (l6 : Int32) (l7 : Int32) (l8 : Option zV) (h : zH) : zev 24 42 [some (vR l0), some (vI l1), some (vI l2), some (vI l3), some (vI l4), some (vI l5), some (vI l6), some (vI l7), l8] [] h = (if l7 < (l1 + l3) then (zvr h l0 5 (zcI 25 [vR l0, vI l7, vI l6] h fun x2 h1 => (if x2 = (-1) then zev 24 42 [some (vR l0), some (vI l1), some (vI l2), some (vI l3), some (vI l4), some (vI l5), some (vI l6), some (vI (l7 + 1)), some (vI x2)] [] h1 else (if l5 = 0 then zbo 0 (some (some (vI 0), h1)) else (if x2 < 100 then zbo 0 (some (some (vI 0), h1)) else zev 24 42 [some (vR l0), some (vI l1), some (vI l2), some (vI l3), some (vI l4), some (vI l5), some (vI l6), some (vI (l7 + 1)), some (vI x2)] [] h1))))) else zev 24 30 [some (vR l0), some (vI l1), some (vI l2), some (vI l3), some (vI l4), some (vI l5), some (vI (l6 + 1)), some (vI l7), l8] [] h) := by
  refine (zv_il c24_42 rfl).trans ?_
  refine (zv_in c24_44 rfl).trans ?_
  refine (zv_in c24_45 rfl).trans ?_
  refine (zv_iadd c24_46).trans ?_
  refine (zv_icge c24_47).trans (zif_c ?_ ?_)
  · refine (zv_an c24_50 rfl).trans ?_
    refine (zv_il c24_51 rfl).trans ?_
    refine (zv_il c24_53 rfl).trans ?_
    refine (zv_viI c24_55 zcn_25 rfl zL_25 (Or.inl zrt_25) rfl rfl).trans (zvr_c (zcI_c fun x2 h1 => ?_))
    refine (zv_is c24_58 rfl).trans ?_
    refine (zv_il c24_60 rfl).trans ?_
    refine (zv_k (v := -1) c24_62 (by decide)).trans ?_
    refine (zv_iceq c24_63).trans (zif_c ?_ ?_)
    · refine (zv_inc (y := 1) c24_80 rfl (by decide) rfl).trans ?_
      refine (zv_goto c24_83).trans ?_
      rfl
    · refine (zv_il c24_66 rfl).trans ?_
      refine (zv_ifeq c24_68).trans (zif_c ?_ ?_)
      · refine (zv_k (v := 0) c24_78 (by decide)).trans ?_
        exact zv_iz c24_79 zrt_24
      · refine (zv_il c24_71 rfl).trans ?_
        refine (zv_bi (v := 100) c24_73 (by decide)).trans ?_
        refine (zv_icge c24_75).trans (zif_c ?_ ?_)
        · refine (zv_k (v := 0) c24_78 (by decide)).trans ?_
          exact zv_iz c24_79 zrt_24
        · refine (zv_inc (y := 1) c24_80 rfl (by decide) rfl).trans ?_
          refine (zv_goto c24_83).trans ?_
          rfl
  · refine (zv_inc (y := 1) c24_86 rfl (by decide) rfl).trans ?_
    refine (zv_goto c24_89).trans ?_
    rfl
theorem c25_0 : zcod 25 0 = some (.iload_n 1, 1, 0, 0, 0, 0) := by decide +kernel
theorem c25_1 : zcod 25 1 = some (.iload_n 2, 1, 0, 0, 0, 0) := by decide +kernel
theorem c25_2 : zcod 25 2 = some (.invokestatic 32, 3, 26, 2, 293, 1) := by decide +kernel
theorem c25_5 : zcod 25 5 = some (.ifCond .eq 17, 3, 22, 0, 0, 0) := by decide +kernel
theorem c25_8 : zcod 25 8 = some (.aload_n 0, 1, 0, 0, 0, 0) := by decide +kernel
theorem c25_9 : zcod 25 9 = some (.getfield 9, 3, 5, 0, 145, 0) := by decide +kernel
theorem c25_12 : zcod 25 12 = some (.iload_n 2, 1, 0, 0, 0, 0) := by decide +kernel
theorem c25_13 : zcod 25 13 = some (.bipush 20, 2, 0, 0, 0, 0) := by decide +kernel
theorem c25_15 : zcod 25 15 = some (.imul, 1, 0, 0, 0, 0) := by decide +kernel
theorem c25_16 : zcod 25 16 = some (.iload_n 1, 1, 0, 0, 0, 0) := by decide +kernel
theorem c25_17 : zcod 25 17 = some (.iadd, 1, 0, 0, 0, 0) := by decide +kernel
theorem c25_18 : zcod 25 18 = some (.iaload, 1, 0, 0, 0, 0) := by decide +kernel
theorem c25_19 : zcod 25 19 = some (.goto 4, 3, 23, 0, 0, 0) := by decide +kernel
theorem c25_22 : zcod 25 22 = some (.iconst (-1), 1, 0, 0, 0, 0) := by decide +kernel
theorem c25_23 : zcod 25 23 = some (.ireturn, 1, 0, 0, 0, 0) := by decide +kernel
set_option maxRecDepth 100000 in
theorem b25_0 (l0 : Option Nat) (l1 : Int32) (l2 : Int32) (h : zH) : zev 25 0 [some (vR l0), some (vI l1), some (vI l2)] [] h = (zcI 26 [vI l1, vI l2] h fun x2 h1 => (if x2 = 0 then some (some (vI (-1)), h1) else (zgR h1 l0 5 0 fun x3 => (zaI h1 x3 ((l2 * 20) + l1) fun x4 => some (some (vI x4), h1))))) := by
  refine (zv_in c25_0 rfl).trans ?_
  refine (zv_in c25_1 rfl).trans ?_
  refine (zv_stI c25_2 (by decide) rfl zL_26 (Or.inr zrt_26) rfl rfl).trans (zcI_c fun x2 h1 => ?_)
  refine (zv_ifeq c25_5).trans (zif_c ?_ ?_)
  · refine (zv_k (v := -1) c25_22 (by decide)).trans ?_
    exact zv_ir c25_23 zrt_25
  · refine (zv_an c25_8 rfl).trans ?_
    refine (zv_gR c25_9 zf5_0).trans (zgR_c fun x3 => ?_)
    refine (zv_in c25_12 rfl).trans ?_
    refine (zv_bi (v := 20) c25_13 (by decide)).trans ?_
    refine (zv_imul c25_15).trans ?_
    refine (zv_in c25_16 rfl).trans ?_
    refine (zv_iadd c25_17).trans ?_
    refine (zv_aI c25_18).trans (zaI_c fun x4 => ?_)
    refine (zv_goto c25_19).trans ?_
    exact zv_ir c25_23 zrt_25
theorem e25 (l0 : Option Nat) (l1 : Int32) (l2 : Int32) (h : zH) : zcall 25 [vR l0, vI l1, vI l2] h = (zcI 26 [vI l1, vI l2] h fun x2 h1 => (if x2 = 0 then some (some (vI (-1)), h1) else (zgR h1 l0 5 0 fun x3 => (zaI h1 x3 ((l2 * 20) + l1) fun x4 => some (some (vI x4), h1))))) := by
  refine Eq.trans ?_ (b25_0 l0 l1 l2 h)
  unfold zcall zent
  rw [zL_25]
  rfl
theorem c26_0 : zcod 26 0 = some (.iload_n 0, 1, 0, 0, 0, 0) := by decide +kernel
theorem c26_1 : zcod 26 1 = some (.ifCond .lt 23, 3, 24, 0, 0, 0) := by decide +kernel
theorem c26_4 : zcod 26 4 = some (.iload_n 0, 1, 0, 0, 0, 0) := by decide +kernel
theorem c26_5 : zcod 26 5 = some (.bipush 20, 2, 0, 0, 0, 0) := by decide +kernel
theorem c26_7 : zcod 26 7 = some (.if_icmp .ge 17, 3, 24, 0, 0, 0) := by decide +kernel
theorem c26_10 : zcod 26 10 = some (.iload_n 1, 1, 0, 0, 0, 0) := by decide +kernel
theorem c26_11 : zcod 26 11 = some (.ifCond .lt 13, 3, 24, 0, 0, 0) := by decide +kernel
theorem c26_14 : zcod 26 14 = some (.iload_n 1, 1, 0, 0, 0, 0) := by decide +kernel
theorem c26_15 : zcod 26 15 = some (.bipush 16, 2, 0, 0, 0, 0) := by decide +kernel
theorem c26_17 : zcod 26 17 = some (.if_icmp .ge 7, 3, 24, 0, 0, 0) := by decide +kernel
theorem c26_20 : zcod 26 20 = some (.iconst 1, 1, 0, 0, 0, 0) := by decide +kernel
theorem c26_21 : zcod 26 21 = some (.goto 4, 3, 25, 0, 0, 0) := by decide +kernel
theorem c26_24 : zcod 26 24 = some (.iconst 0, 1, 0, 0, 0, 0) := by decide +kernel
theorem c26_25 : zcod 26 25 = some (.ireturn, 1, 0, 0, 0, 0) := by decide +kernel
set_option maxRecDepth 100000 in
theorem b26_0 (l0 : Int32) (l1 : Int32) (h : zH) : zev 26 0 [some (vI l0), some (vI l1)] [] h = (if l0 < 0 then zbo 0 (some (some (vI 0), h)) else (if l0 < 20 then (if l1 < 0 then zbo 0 (some (some (vI 0), h)) else (if l1 < 16 then zbo 1 (some (some (vI 1), h)) else zbo 0 (some (some (vI 0), h)))) else zbo 0 (some (some (vI 0), h)))) := by
  refine (zv_in c26_0 rfl).trans ?_
  refine (zv_iflt c26_1).trans (zif_c ?_ ?_)
  · refine (zv_k (v := 0) c26_24 (by decide)).trans ?_
    exact zv_iz c26_25 zrt_26
  · refine (zv_in c26_4 rfl).trans ?_
    refine (zv_bi (v := 20) c26_5 (by decide)).trans ?_
    refine (zv_icge c26_7).trans (zif_c ?_ ?_)
    · refine (zv_in c26_10 rfl).trans ?_
      refine (zv_iflt c26_11).trans (zif_c ?_ ?_)
      · refine (zv_k (v := 0) c26_24 (by decide)).trans ?_
        exact zv_iz c26_25 zrt_26
      · refine (zv_in c26_14 rfl).trans ?_
        refine (zv_bi (v := 16) c26_15 (by decide)).trans ?_
        refine (zv_icge c26_17).trans (zif_c ?_ ?_)
        · refine (zv_k (v := 1) c26_20 (by decide)).trans ?_
          refine (zv_goto c26_21).trans ?_
          exact zv_iz c26_25 zrt_26
        · refine (zv_k (v := 0) c26_24 (by decide)).trans ?_
          exact zv_iz c26_25 zrt_26
    · refine (zv_k (v := 0) c26_24 (by decide)).trans ?_
      exact zv_iz c26_25 zrt_26
theorem e26 (l0 : Int32) (l1 : Int32) (h : zH) : zcall 26 [vI l0, vI l1] h = (if l0 < 0 then zbo 0 (some (some (vI 0), h)) else (if l0 < 20 then (if l1 < 0 then zbo 0 (some (some (vI 0), h)) else (if l1 < 16 then zbo 1 (some (some (vI 1), h)) else zbo 0 (some (some (vI 0), h)))) else zbo 0 (some (some (vI 0), h)))) := by
  refine Eq.trans ?_ (b26_0 l0 l1 h)
  unfold zcall zent
  rw [zL_26]
  rfl
theorem c27_0 : zcod 27 0 = some (.aload_n 0, 1, 0, 0, 0, 0) := by decide +kernel
theorem c27_1 : zcod 27 1 = some (.getfield 22, 3, 5, 2, 147, 0) := by decide +kernel
theorem c27_4 : zcod 27 4 = some (.invokevirtual 36, 3, 14, 0, 300, 0) := by decide +kernel
theorem c27_7 : zcod 27 7 = some (.istore 6, 2, 0, 0, 0, 0) := by decide +kernel
theorem c27_9 : zcod 27 9 = some (.aload_n 0, 1, 0, 0, 0, 0) := by decide +kernel
theorem c27_10 : zcod 27 10 = some (.getfield 22, 3, 5, 2, 147, 0) := by decide +kernel
theorem c27_13 : zcod 27 13 = some (.new 44, 3, 2, 0, 301, 0) := by decide +kernel
theorem c27_16 : zcod 27 16 = some (.dup, 1, 0, 0, 0, 0) := by decide +kernel
theorem c27_17 : zcod 27 17 = some (.iload_n 1, 1, 0, 0, 0, 0) := by decide +kernel
theorem c27_18 : zcod 27 18 = some (.iload_n 2, 1, 0, 0, 0, 0) := by decide +kernel
theorem c27_19 : zcod 27 19 = some (.iload_n 3, 1, 0, 0, 0, 0) := by decide +kernel
theorem c27_20 : zcod 27 20 = some (.iload 4, 2, 0, 0, 0, 0) := by decide +kernel
theorem c27_22 : zcod 27 22 = some (.iload 5, 2, 0, 0, 0, 0) := by decide +kernel
theorem c27_24 : zcod 27 24 = some (.invokespecial 54, 3, 28, 5, 303, 0) := by decide +kernel
theorem c27_27 : zcod 27 27 = some (.invokevirtual 57, 3, 29, 1, 388, 0) := by decide +kernel
theorem c27_30 : zcod 27 30 = some (.pop, 1, 0, 0, 0, 0) := by decide +kernel
theorem c27_31 : zcod 27 31 = some (.aload_n 0, 1, 0, 0, 0, 0) := by decide +kernel
theorem c27_32 : zcod 27 32 = some (.iload_n 1, 1, 0, 0, 0, 0) := by decide +kernel
theorem c27_33 : zcod 27 33 = some (.iload_n 2, 1, 0, 0, 0, 0) := by decide +kernel
theorem c27_34 : zcod 27 34 = some (.iload_n 3, 1, 0, 0, 0, 0) := by decide +kernel
theorem c27_35 : zcod 27 35 = some (.iload 4, 2, 0, 0, 0, 0) := by decide +kernel
theorem c27_37 : zcod 27 37 = some (.iload 6, 2, 0, 0, 0, 0) := by decide +kernel
theorem c27_39 : zcod 27 39 = some (.invokevirtual 61, 3, 39, 5, 445, 0) := by decide +kernel
theorem c27_42 : zcod 27 42 = some (.return_, 1, 0, 0, 0, 0) := by decide +kernel
set_option maxRecDepth 100000 in
theorem b27_0 (l0 : Option Nat) (l1 : Int32) (l2 : Int32) (l3 : Int32) (l4 : Int32) (l5 : Int32) (h : zH) : zev 27 0 [some (vR l0), some (vI l1), some (vI l2), some (vI l3), some (vI l4), some (vI l5), none] [] h = (zgR h l0 5 2 fun x1 => (zvr h x1 0 (zcI 14 [vR x1] h fun x3 h2 => (zgR h2 l0 5 2 fun x4 => (zno h2 2 fun x5 h6 => (zul x5 none (zcV 28 [vR x5, vI l1, vI l2, vI l3, vI l4, vI l5] h6 fun h7 => (zvr h7 x4 0 (zcI 29 [vR x4, vR x5] h7 fun x9 h8 => (zvr h8 l0 5 (zcV 39 [vR l0, vI l1, vI l2, vI l3, vI l4, vI x3] h8 fun h10 => some (none, h10)))))))))))) := by
  refine (zv_an c27_0 rfl).trans ?_
  refine (zv_gR c27_1 zf5_2).trans (zgR_c fun x1 => ?_)
  refine (zv_viI c27_4 zcn_14 rfl zL_14 (Or.inl zrt_14) rfl rfl).trans (zvr_c (zcI_c fun x3 h2 => ?_))
  refine (zv_is c27_7 rfl).trans ?_
  refine (zv_an c27_9 rfl).trans ?_
  refine (zv_gR c27_10 zf5_2).trans (zgR_c fun x4 => ?_)
  refine (zv_new c27_13).trans (zno_c fun x5 h6 => ?_)
  refine (zv_dup c27_16 rfl).trans ?_
  refine (zv_in c27_17 rfl).trans ?_
  refine (zv_in c27_18 rfl).trans ?_
  refine (zv_in c27_19 rfl).trans ?_
  refine (zv_il c27_20 rfl).trans ?_
  refine (zv_il c27_22 rfl).trans ?_
  refine (zv_spV c27_24 (by decide) rfl zL_28 zrt_28 rfl rfl).trans (zul_c rfl (zcV_c fun h7 => ?_))
  refine (zv_viI c27_27 zcn_29 rfl zL_29 (Or.inr zrt_29) rfl rfl).trans (zvr_c (zcI_c fun x9 h8 => ?_))
  refine (zv_pop c27_30 rfl).trans ?_
  refine (zv_an c27_31 rfl).trans ?_
  refine (zv_in c27_32 rfl).trans ?_
  refine (zv_in c27_33 rfl).trans ?_
  refine (zv_in c27_34 rfl).trans ?_
  refine (zv_il c27_35 rfl).trans ?_
  refine (zv_il c27_37 rfl).trans ?_
  refine (zv_viV c27_39 zcn_39 rfl zL_39 zrt_39 rfl rfl).trans (zvr_c (zcV_c fun h10 => ?_))
  exact zv_vr c27_42 zrt_27
theorem e27 (l0 : Option Nat) (l1 : Int32) (l2 : Int32) (l3 : Int32) (l4 : Int32) (l5 : Int32) (h : zH) : zcall 27 [vR l0, vI l1, vI l2, vI l3, vI l4, vI l5] h = (zgR h l0 5 2 fun x1 => (zvr h x1 0 (zcI 14 [vR x1] h fun x3 h2 => (zgR h2 l0 5 2 fun x4 => (zno h2 2 fun x5 h6 => (zul x5 none (zcV 28 [vR x5, vI l1, vI l2, vI l3, vI l4, vI l5] h6 fun h7 => (zvr h7 x4 0 (zcI 29 [vR x4, vR x5] h7 fun x9 h8 => (zvr h8 l0 5 (zcV 39 [vR l0, vI l1, vI l2, vI l3, vI l4, vI x3] h8 fun h10 => some (none, h10)))))))))))) := by
  refine Eq.trans ?_ (b27_0 l0 l1 l2 l3 l4 l5 h)
  unfold zcall zent
  rw [zL_27]
  rfl
theorem c28_0 : zcod 28 0 = some (.aload_n 0, 1, 0, 0, 0, 0) := by decide +kernel
theorem c28_1 : zcod 28 1 = some (.invokespecial 3, 3, 1, 0, 306, 0) := by decide +kernel
theorem c28_4 : zcod 28 4 = some (.aload_n 0, 1, 0, 0, 0, 0) := by decide +kernel
theorem c28_5 : zcod 28 5 = some (.new 9, 3, 0, 0, 307, 0) := by decide +kernel
theorem c28_8 : zcod 28 8 = some (.dup, 1, 0, 0, 0, 0) := by decide +kernel
theorem c28_9 : zcod 28 9 = some (.invokespecial 11, 3, 5, 0, 308, 0) := by decide +kernel
theorem c28_12 : zcod 28 12 = some (.putfield 12, 3, 2, 6, 323, 0) := by decide +kernel
theorem c28_15 : zcod 28 15 = some (.aload_n 0, 1, 0, 0, 0, 0) := by decide +kernel
theorem c28_16 : zcod 28 16 = some (.iconst (-1), 1, 0, 0, 0, 0) := by decide +kernel
theorem c28_17 : zcod 28 17 = some (.putfield 18, 3, 2, 7, 326, 0) := by decide +kernel
theorem c28_20 : zcod 28 20 = some (.aload_n 0, 1, 0, 0, 0, 0) := by decide +kernel
theorem c28_21 : zcod 28 21 = some (.iconst (-1), 1, 0, 0, 0, 0) := by decide +kernel
theorem c28_22 : zcod 28 22 = some (.putfield 22, 3, 2, 8, 330, 0) := by decide +kernel
theorem c28_25 : zcod 28 25 = some (.aload_n 0, 1, 0, 0, 0, 0) := by decide +kernel
theorem c28_26 : zcod 28 26 = some (.iconst (-1), 1, 0, 0, 0, 0) := by decide +kernel
theorem c28_27 : zcod 28 27 = some (.putfield 25, 3, 2, 16, 350, 0) := by decide +kernel
theorem c28_30 : zcod 28 30 = some (.aload_n 0, 1, 0, 0, 0, 0) := by decide +kernel
theorem c28_31 : zcod 28 31 = some (.iload_n 1, 1, 0, 0, 0, 0) := by decide +kernel
theorem c28_32 : zcod 28 32 = some (.putfield 28, 3, 2, 0, 309, 0) := by decide +kernel
theorem c28_35 : zcod 28 35 = some (.aload_n 0, 1, 0, 0, 0, 0) := by decide +kernel
theorem c28_36 : zcod 28 36 = some (.iload_n 2, 1, 0, 0, 0, 0) := by decide +kernel
theorem c28_37 : zcod 28 37 = some (.putfield 31, 3, 2, 1, 312, 0) := by decide +kernel
theorem c28_40 : zcod 28 40 = some (.aload_n 0, 1, 0, 0, 0, 0) := by decide +kernel
theorem c28_41 : zcod 28 41 = some (.iload_n 3, 1, 0, 0, 0, 0) := by decide +kernel
theorem c28_42 : zcod 28 42 = some (.putfield 34, 3, 2, 2, 315, 0) := by decide +kernel
theorem c28_45 : zcod 28 45 = some (.aload_n 0, 1, 0, 0, 0, 0) := by decide +kernel
theorem c28_46 : zcod 28 46 = some (.iload 4, 2, 0, 0, 0, 0) := by decide +kernel
theorem c28_48 : zcod 28 48 = some (.putfield 37, 3, 2, 3, 317, 0) := by decide +kernel
theorem c28_51 : zcod 28 51 = some (.aload_n 0, 1, 0, 0, 0, 0) := by decide +kernel
theorem c28_52 : zcod 28 52 = some (.iload 5, 2, 0, 0, 0, 0) := by decide +kernel
theorem c28_54 : zcod 28 54 = some (.putfield 40, 3, 2, 4, 319, 0) := by decide +kernel
theorem c28_57 : zcod 28 57 = some (.return_, 1, 0, 0, 0, 0) := by decide +kernel
set_option maxRecDepth 100000 in
theorem b28_0 (l0 : Option Nat) (l1 : Int32) (l2 : Int32) (l3 : Int32) (l4 : Int32) (l5 : Int32) (h : zH) : zev 28 0 [some (vR l0), some (vI l1), some (vI l2), some (vI l3), some (vI l4), some (vI l5)] [] h = (zul l0 none ((zno h 0 fun x1 h2 => (zul x1 none (zcV 5 [vR x1] h2 fun h3 => (zpR h3 l0 2 6 x1 fun h4 => (zpI h4 l0 2 7 (-1) fun h5 => (zpI h5 l0 2 8 (-1) fun h6 => (zpI h6 l0 2 16 (-1) fun h7 => (zpI h7 l0 2 0 l1 fun h8 => (zpI h8 l0 2 1 l2 fun h9 => (zpI h9 l0 2 2 l3 fun h10 => (zpI h10 l0 2 3 l4 fun h11 => (zpZ h11 l0 2 4 l5 fun h12 => some (none, h12))))))))))))))) := by
  refine (zv_an c28_0 rfl).trans ?_
  refine (zv_ob c28_1 (zle rfl)).trans (zul_c rfl ?_)
  refine (zv_an c28_4 rfl).trans ?_
  refine (zv_new c28_5).trans (zno_c fun x1 h2 => ?_)
  refine (zv_dup c28_8 rfl).trans ?_
  refine (zv_spV c28_9 (by decide) rfl zL_5 zrt_5 rfl rfl).trans (zul_c rfl (zcV_c fun h3 => ?_))
  refine (zv_pR c28_12 zf2_6).trans (zpR_c fun h4 => ?_)
  refine (zv_an c28_15 rfl).trans ?_
  refine (zv_k (v := -1) c28_16 (by decide)).trans ?_
  refine (zv_pI c28_17 zf2_7).trans (zpI_c fun h5 => ?_)
  refine (zv_an c28_20 rfl).trans ?_
  refine (zv_k (v := -1) c28_21 (by decide)).trans ?_
  refine (zv_pI c28_22 zf2_8).trans (zpI_c fun h6 => ?_)
  refine (zv_an c28_25 rfl).trans ?_
  refine (zv_k (v := -1) c28_26 (by decide)).trans ?_
  refine (zv_pI c28_27 zf2_16).trans (zpI_c fun h7 => ?_)
  refine (zv_an c28_30 rfl).trans ?_
  refine (zv_in c28_31 rfl).trans ?_
  refine (zv_pI c28_32 zf2_0).trans (zpI_c fun h8 => ?_)
  refine (zv_an c28_35 rfl).trans ?_
  refine (zv_in c28_36 rfl).trans ?_
  refine (zv_pI c28_37 zf2_1).trans (zpI_c fun h9 => ?_)
  refine (zv_an c28_40 rfl).trans ?_
  refine (zv_in c28_41 rfl).trans ?_
  refine (zv_pI c28_42 zf2_2).trans (zpI_c fun h10 => ?_)
  refine (zv_an c28_45 rfl).trans ?_
  refine (zv_il c28_46 rfl).trans ?_
  refine (zv_pI c28_48 zf2_3).trans (zpI_c fun h11 => ?_)
  refine (zv_an c28_51 rfl).trans ?_
  refine (zv_il c28_52 rfl).trans ?_
  refine (zv_pZ c28_54 zf2_4).trans (zpZ_c fun h12 => ?_)
  exact zv_vr c28_57 zrt_28
theorem e28 (l0 : Option Nat) (l1 : Int32) (l2 : Int32) (l3 : Int32) (l4 : Int32) (l5 : Int32) (h : zH) : zcall 28 [vR l0, vI l1, vI l2, vI l3, vI l4, vI l5] h = (zul l0 none ((zno h 0 fun x1 h2 => (zul x1 none (zcV 5 [vR x1] h2 fun h3 => (zpR h3 l0 2 6 x1 fun h4 => (zpI h4 l0 2 7 (-1) fun h5 => (zpI h5 l0 2 8 (-1) fun h6 => (zpI h6 l0 2 16 (-1) fun h7 => (zpI h7 l0 2 0 l1 fun h8 => (zpI h8 l0 2 1 l2 fun h9 => (zpI h9 l0 2 2 l3 fun h10 => (zpI h10 l0 2 3 l4 fun h11 => (zpZ h11 l0 2 4 l5 fun h12 => some (none, h12))))))))))))))) := by
  refine Eq.trans ?_ (b28_0 l0 l1 l2 l3 l4 l5 h)
  unfold zcall zent
  rw [zL_28]
  rfl
theorem c29_0 : zcod 29 0 = some (.aload_n 0, 1, 0, 0, 0, 0) := by decide +kernel
theorem c29_1 : zcod 29 1 = some (.dup, 1, 0, 0, 0, 0) := by decide +kernel
theorem c29_2 : zcod 29 2 = some (.getfield 63, 3, 0, 0, 132, 1) := by decide +kernel
theorem c29_5 : zcod 29 5 = some (.iconst 1, 1, 0, 0, 0, 0) := by decide +kernel
theorem c29_6 : zcod 29 6 = some (.iadd, 1, 0, 0, 0, 0) := by decide +kernel
theorem c29_7 : zcod 29 7 = some (.putfield 63, 3, 0, 0, 132, 1) := by decide +kernel
theorem c29_10 : zcod 29 10 = some (.aload_n 0, 1, 0, 0, 0, 0) := by decide +kernel
theorem c29_11 : zcod 29 11 = some (.aload_n 1, 1, 0, 0, 0, 0) := by decide +kernel
theorem c29_12 : zcod 29 12 = some (.aload_n 0, 1, 0, 0, 0, 0) := by decide +kernel
theorem c29_13 : zcod 29 13 = some (.getfield 9, 3, 0, 1, 129, 0) := by decide +kernel
theorem c29_16 : zcod 29 16 = some (.aload_n 0, 1, 0, 0, 0, 0) := by decide +kernel
theorem c29_17 : zcod 29 17 = some (.getfield 48, 3, 0, 2, 130, 0) := by decide +kernel
theorem c29_20 : zcod 29 20 = some (.invokevirtual 131, 3, 30, 3, 392, 0) := by decide +kernel
theorem c29_23 : zcod 29 23 = some (.iconst 1, 1, 0, 0, 0, 0) := by decide +kernel
theorem c29_24 : zcod 29 24 = some (.ireturn, 1, 0, 0, 0, 0) := by decide +kernel
set_option maxRecDepth 100000 in
theorem b29_0 (l0 : Option Nat) (l1 : Option Nat) (h : zH) : zev 29 0 [some (vR l0), some (vR l1)] [] h = (zgI h l0 0 0 fun x1 => (zpI h l0 0 0 (x1 + 1) fun h2 => (zgR h2 l0 0 1 fun x3 => (zgI h2 l0 0 2 fun x4 => (zvr h2 l0 0 (zcV 30 [vR l0, vR l1, vR x3, vI x4] h2 fun h5 => zbo 1 (some (some (vI 1), h5)))))))) := by
  refine (zv_an c29_0 rfl).trans ?_
  refine (zv_dup c29_1 rfl).trans ?_
  refine (zv_gI c29_2 zg0_0).trans (zgI_c fun x1 => ?_)
  refine (zv_k (v := 1) c29_5 (by decide)).trans ?_
  refine (zv_iadd c29_6).trans ?_
  refine (zv_pI c29_7 zf0_0).trans (zpI_c fun h2 => ?_)
  refine (zv_an c29_10 rfl).trans ?_
  refine (zv_an c29_11 rfl).trans ?_
  refine (zv_an c29_12 rfl).trans ?_
  refine (zv_gR c29_13 zf0_1).trans (zgR_c fun x3 => ?_)
  refine (zv_an c29_16 rfl).trans ?_
  refine (zv_gI c29_17 zg0_2).trans (zgI_c fun x4 => ?_)
  refine (zv_viV c29_20 zcn_30 rfl zL_30 zrt_30 rfl rfl).trans (zvr_c (zcV_c fun h5 => ?_))
  refine (zv_k (v := 1) c29_23 (by decide)).trans ?_
  exact zv_iz c29_24 zrt_29
theorem e29 (l0 : Option Nat) (l1 : Option Nat) (h : zH) : zcall 29 [vR l0, vR l1] h = (zgI h l0 0 0 fun x1 => (zpI h l0 0 0 (x1 + 1) fun h2 => (zgR h2 l0 0 1 fun x3 => (zgI h2 l0 0 2 fun x4 => (zvr h2 l0 0 (zcV 30 [vR l0, vR l1, vR x3, vI x4] h2 fun h5 => zbo 1 (some (some (vI 1), h5)))))))) := by
  refine Eq.trans ?_ (b29_0 l0 l1 h)
  unfold zcall zent
  rw [zL_29]
  rfl
theorem c30_0 : zcod 30 0 = some (.iload_n 3, 1, 0, 0, 0, 0) := by decide +kernel
theorem c30_1 : zcod 30 1 = some (.aload_n 2, 1, 0, 0, 0, 0) := by decide +kernel
theorem c30_2 : zcod 30 2 = some (.arraylength, 1, 0, 0, 0, 0) := by decide +kernel
theorem c30_3 : zcod 30 3 = some (.if_icmp .ne 8, 3, 11, 0, 0, 0) := by decide +kernel
theorem c30_6 : zcod 30 6 = some (.aload_n 0, 1, 0, 0, 0, 0) := by decide +kernel
theorem c30_7 : zcod 30 7 = some (.invokevirtual 129, 3, 31, 0, 396, 0) := by decide +kernel
theorem c30_10 : zcod 30 10 = some (.astore_n 2, 1, 0, 0, 0, 0) := by decide +kernel
theorem c30_11 : zcod 30 11 = some (.aload_n 2, 1, 0, 0, 0, 0) := by decide +kernel
theorem c30_12 : zcod 30 12 = some (.iload_n 3, 1, 0, 0, 0, 0) := by decide +kernel
theorem c30_13 : zcod 30 13 = some (.aload_n 1, 1, 0, 0, 0, 0) := by decide +kernel
theorem c30_14 : zcod 30 14 = some (.aastore, 1, 0, 0, 0, 0) := by decide +kernel
theorem c30_15 : zcod 30 15 = some (.aload_n 0, 1, 0, 0, 0, 0) := by decide +kernel
theorem c30_16 : zcod 30 16 = some (.iload_n 3, 1, 0, 0, 0, 0) := by decide +kernel
theorem c30_17 : zcod 30 17 = some (.iconst 1, 1, 0, 0, 0, 0) := by decide +kernel
theorem c30_18 : zcod 30 18 = some (.iadd, 1, 0, 0, 0, 0) := by decide +kernel
theorem c30_19 : zcod 30 19 = some (.putfield 48, 3, 0, 2, 130, 0) := by decide +kernel
theorem c30_22 : zcod 30 22 = some (.return_, 1, 0, 0, 0, 0) := by decide +kernel
set_option maxRecDepth 100000 in
theorem b30_0 (l0 : Option Nat) (l1 : Option Nat) (l2 : Option Nat) (l3 : Int32) (h : zH) : zev 30 0 [some (vR l0), some (vR l1), some (vR l2), some (vI l3)] [] h = (zal h l2 fun x1 => (if l3 = x1 then (zvr h l0 0 (zcR 31 [vR l0] h fun x3 h2 => (ztR h2 x3 l3 l1 fun h4 => (zpI h4 l0 0 2 (l3 + 1) fun h5 => some (none, h5))))) else (ztR h l2 l3 l1 fun h6 => (zpI h6 l0 0 2 (l3 + 1) fun h7 => some (none, h7))))) := by
  refine (zv_in c30_0 rfl).trans ?_
  refine (zv_an c30_1 rfl).trans ?_
  refine (zv_al2 c30_2).trans (zal_c fun x1 => ?_)
  refine (zv_icne c30_3).trans (zif_c ?_ ?_)
  · refine (zv_an c30_6 rfl).trans ?_
    refine (zv_viR c30_7 zcn_31 rfl zL_31 zrt_31 rfl rfl).trans (zvr_c (zcR_c fun x3 h2 => ?_))
    refine (zv_at c30_10 rfl).trans ?_
    refine (zv_an c30_11 rfl).trans ?_
    refine (zv_in c30_12 rfl).trans ?_
    refine (zv_an c30_13 rfl).trans ?_
    refine (zv_tR c30_14).trans (ztR_c fun h4 => ?_)
    refine (zv_an c30_15 rfl).trans ?_
    refine (zv_in c30_16 rfl).trans ?_
    refine (zv_k (v := 1) c30_17 (by decide)).trans ?_
    refine (zv_iadd c30_18).trans ?_
    refine (zv_pI c30_19 zf0_2).trans (zpI_c fun h5 => ?_)
    exact zv_vr c30_22 zrt_30
  · refine (zv_an c30_11 rfl).trans ?_
    refine (zv_in c30_12 rfl).trans ?_
    refine (zv_an c30_13 rfl).trans ?_
    refine (zv_tR c30_14).trans (ztR_c fun h6 => ?_)
    refine (zv_an c30_15 rfl).trans ?_
    refine (zv_in c30_16 rfl).trans ?_
    refine (zv_k (v := 1) c30_17 (by decide)).trans ?_
    refine (zv_iadd c30_18).trans ?_
    refine (zv_pI c30_19 zf0_2).trans (zpI_c fun h7 => ?_)
    exact zv_vr c30_22 zrt_30
theorem e30 (l0 : Option Nat) (l1 : Option Nat) (l2 : Option Nat) (l3 : Int32) (h : zH) : zcall 30 [vR l0, vR l1, vR l2, vI l3] h = (zal h l2 fun x1 => (if l3 = x1 then (zvr h l0 0 (zcR 31 [vR l0] h fun x3 h2 => (ztR h2 x3 l3 l1 fun h4 => (zpI h4 l0 0 2 (l3 + 1) fun h5 => some (none, h5))))) else (ztR h l2 l3 l1 fun h6 => (zpI h6 l0 0 2 (l3 + 1) fun h7 => some (none, h7))))) := by
  refine Eq.trans ?_ (b30_0 l0 l1 l2 l3 h)
  unfold zcall zent
  rw [zL_30]
  rfl
theorem c31_0 : zcod 31 0 = some (.aload_n 0, 1, 0, 0, 0, 0) := by decide +kernel
theorem c31_1 : zcod 31 1 = some (.aload_n 0, 1, 0, 0, 0, 0) := by decide +kernel
theorem c31_2 : zcod 31 2 = some (.getfield 48, 3, 0, 2, 130, 0) := by decide +kernel
theorem c31_5 : zcod 31 5 = some (.iconst 1, 1, 0, 0, 0, 0) := by decide +kernel
theorem c31_6 : zcod 31 6 = some (.iadd, 1, 0, 0, 0, 0) := by decide +kernel
theorem c31_7 : zcod 31 7 = some (.invokevirtual 69, 3, 32, 1, 400, 0) := by decide +kernel
theorem c31_10 : zcod 31 10 = some (.areturn, 1, 0, 0, 0, 0) := by decide +kernel
set_option maxRecDepth 100000 in
theorem b31_0 (l0 : Option Nat) (h : zH) : zev 31 0 [some (vR l0)] [] h = (zgI h l0 0 2 fun x1 => (zvr h l0 0 (zcR 32 [vR l0, vI (x1 + 1)] h fun x3 h2 => some (some (vR x3), h2)))) := by
  refine (zv_an c31_0 rfl).trans ?_
  refine (zv_an c31_1 rfl).trans ?_
  refine (zv_gI c31_2 zg0_2).trans (zgI_c fun x1 => ?_)
  refine (zv_k (v := 1) c31_5 (by decide)).trans ?_
  refine (zv_iadd c31_6).trans ?_
  refine (zv_viR c31_7 zcn_32 rfl zL_32 zrt_32 rfl rfl).trans (zvr_c (zcR_c fun x3 h2 => ?_))
  exact zv_ar c31_10 zrt_31
theorem e31 (l0 : Option Nat) (h : zH) : zcall 31 [vR l0] h = (zgI h l0 0 2 fun x1 => (zvr h l0 0 (zcR 32 [vR l0, vI (x1 + 1)] h fun x3 h2 => some (some (vR x3), h2)))) := by
  refine Eq.trans ?_ (b31_0 l0 h)
  unfold zcall zent
  rw [zL_31]
  rfl
theorem c32_0 : zcod 32 0 = some (.aload_n 0, 1, 0, 0, 0, 0) := by decide +kernel
theorem c32_1 : zcod 32 1 = some (.getfield 9, 3, 0, 1, 129, 0) := by decide +kernel
theorem c32_4 : zcod 32 4 = some (.arraylength, 1, 0, 0, 0, 0) := by decide +kernel
theorem c32_5 : zcod 32 5 = some (.istore_n 2, 1, 0, 0, 0, 0) := by decide +kernel
theorem c32_6 : zcod 32 6 = some (.iload_n 2, 1, 0, 0, 0, 0) := by decide +kernel
theorem c32_7 : zcod 32 7 = some (.ifCond .gt 13, 3, 20, 0, 0, 0) := by decide +kernel
theorem c32_10 : zcod 32 10 = some (.aload_n 0, 1, 0, 0, 0, 0) := by decide +kernel
theorem c32_11 : zcod 32 11 = some (.getfield 9, 3, 0, 1, 129, 0) := by decide +kernel
theorem c32_14 : zcod 32 14 = some (.getstatic 39, 3, 7, 0, 127, 0) := by decide +kernel
theorem c32_17 : zcod 32 17 = some (.if_acmp .eq 28, 3, 45, 0, 0, 0) := by decide +kernel
theorem c32_20 : zcod 32 20 = some (.iload_n 2, 1, 0, 0, 0, 0) := by decide +kernel
theorem c32_21 : zcod 32 21 = some (.iload_n 1, 1, 0, 0, 0, 0) := by decide +kernel
theorem c32_22 : zcod 32 22 = some (.iload_n 2, 1, 0, 0, 0, 0) := by decide +kernel
theorem c32_23 : zcod 32 23 = some (.isub, 1, 0, 0, 0, 0) := by decide +kernel
theorem c32_24 : zcod 32 24 = some (.iload_n 2, 1, 0, 0, 0, 0) := by decide +kernel
theorem c32_25 : zcod 32 25 = some (.iconst 1, 1, 0, 0, 0, 0) := by decide +kernel
theorem c32_26 : zcod 32 26 = some (.ishr, 1, 0, 0, 0, 0) := by decide +kernel
theorem c32_27 : zcod 32 27 = some (.invokestatic 73, 3, 33, 3, 404, 0) := by decide +kernel
theorem c32_30 : zcod 32 30 = some (.istore_n 3, 1, 0, 0, 0, 0) := by decide +kernel
theorem c32_31 : zcod 32 31 = some (.aload_n 0, 1, 0, 0, 0, 0) := by decide +kernel
theorem c32_32 : zcod 32 32 = some (.aload_n 0, 1, 0, 0, 0, 0) := by decide +kernel
theorem c32_33 : zcod 32 33 = some (.getfield 9, 3, 0, 1, 129, 0) := by decide +kernel
theorem c32_36 : zcod 32 36 = some (.iload_n 3, 1, 0, 0, 0, 0) := by decide +kernel
theorem c32_37 : zcod 32 37 = some (.invokestatic 66, 3, 36, 2, 414, 0) := by decide +kernel
theorem c32_40 : zcod 32 40 = some (.dup_x1, 1, 0, 0, 0, 0) := by decide +kernel
theorem c32_41 : zcod 32 41 = some (.putfield 9, 3, 0, 1, 129, 0) := by decide +kernel
theorem c32_44 : zcod 32 44 = some (.areturn, 1, 0, 0, 0, 0) := by decide +kernel
theorem c32_45 : zcod 32 45 = some (.aload_n 0, 1, 0, 0, 0, 0) := by decide +kernel
theorem c32_46 : zcod 32 46 = some (.bipush 10, 2, 0, 0, 0, 0) := by decide +kernel
theorem c32_48 : zcod 32 48 = some (.iload_n 1, 1, 0, 0, 0, 0) := by decide +kernel
theorem c32_49 : zcod 32 49 = some (.invokestatic 79, 3, 34, 2, 443, 0) := by decide +kernel
theorem c32_52 : zcod 32 52 = some (.anewarray 7, 3, 0, 0, 444, 0) := by decide +kernel
theorem c32_55 : zcod 32 55 = some (.dup_x1, 1, 0, 0, 0, 0) := by decide +kernel
theorem c32_56 : zcod 32 56 = some (.putfield 9, 3, 0, 1, 129, 0) := by decide +kernel
theorem c32_59 : zcod 32 59 = some (.areturn, 1, 0, 0, 0, 0) := by decide +kernel
set_option maxRecDepth 100000 in
theorem b32_0 (l0 : Option Nat) (l1 : Int32) (h : zH) : zev 32 0 [some (vR l0), some (vI l1), none, none] [] h = (zgR h l0 0 1 fun x1 => (zal h x1 fun x2 => (if 0 < x2 then zev 32 20 [some (vR l0), some (vI l1), some (vI x2), none] [] h else (zgR h l0 0 1 fun x3 => (zac x3 (some 7) ((zcI 34 [vI 10, vI l1] h fun x5 h4 => (zna h4 103 x5 fun x6 h7 => (zpR h7 l0 0 1 x6 fun h8 => some (some (vR x6), h8))))) (zev 32 20 [some (vR l0), some (vI l1), some (vI x2), none] [] h)))))) := by
  refine (zv_an c32_0 rfl).trans ?_
  refine (zv_gR c32_1 zf0_1).trans (zgR_c fun x1 => ?_)
  refine (zv_al2 c32_4).trans (zal_c fun x2 => ?_)
  refine (zv_it c32_5 rfl).trans ?_
  refine (zv_in c32_6 rfl).trans ?_
  refine (zv_ifgt c32_7).trans (zif_c ?_ ?_)
  · rfl
  · refine (zv_an c32_10 rfl).trans ?_
    refine (zv_gR c32_11 zf0_1).trans (zgR_c fun x3 => ?_)
    refine (zv_gs c32_14).trans ?_
    refine (zv_aeq c32_17).trans (zac_c ?_ ?_)
    · refine (zv_an c32_45 rfl).trans ?_
      refine (zv_bi (v := 10) c32_46 (by decide)).trans ?_
      refine (zv_in c32_48 rfl).trans ?_
      refine (zv_stI c32_49 (by decide) rfl zL_34 (Or.inl zrt_34) rfl rfl).trans (zcI_c fun x5 h4 => ?_)
      refine (zv_an2 c32_52).trans (zna_c fun x6 h7 => ?_)
      refine (zv_dx1 c32_55 rfl rfl).trans ?_
      refine (zv_pR c32_56 zf0_1).trans (zpR_c fun h8 => ?_)
      exact zv_ar c32_59 zrt_32
    · rfl
theorem e32 (l0 : Option Nat) (l1 : Int32) (h : zH) : zcall 32 [vR l0, vI l1] h = (zgR h l0 0 1 fun x1 => (zal h x1 fun x2 => (if 0 < x2 then zev 32 20 [some (vR l0), some (vI l1), some (vI x2), none] [] h else (zgR h l0 0 1 fun x3 => (zac x3 (some 7) ((zcI 34 [vI 10, vI l1] h fun x5 h4 => (zna h4 103 x5 fun x6 h7 => (zpR h7 l0 0 1 x6 fun h8 => some (some (vR x6), h8))))) (zev 32 20 [some (vR l0), some (vI l1), some (vI x2), none] [] h)))))) := by
  refine Eq.trans ?_ (b32_0 l0 l1 h)
  unfold zcall zent
  rw [zL_32]
  rfl
set_option maxRecDepth 100000 in
theorem b32_20 (l0 : Option Nat) (l1 : Int32) (l2 : Int32) (l3 : Option zV) (h : zH) : zev 32 20 [some (vR l0), some (vI l1), some (vI l2), l3] [] h = (zcI 33 [vI l2, vI (l1 - l2), vI (l2 >>> (1 &&& 31))] h fun x2 h1 => (zgR h1 l0 0 1 fun x3 => (zcO h1 x3 x2 fun x4 h5 => (zpR h5 l0 0 1 x4 fun h6 => some (some (vR x4), h6))))) := by
  refine (zv_in c32_20 rfl).trans ?_
  refine (zv_in c32_21 rfl).trans ?_
  refine (zv_in c32_22 rfl).trans ?_
  refine (zv_isub c32_23).trans ?_
  refine (zv_in c32_24 rfl).trans ?_
  refine (zv_k (v := 1) c32_25 (by decide)).trans ?_
  refine (zv_ishr c32_26).trans ?_
  refine (zv_stI c32_27 (by decide) rfl zL_33 (Or.inl zrt_33) rfl rfl).trans (zcI_c fun x2 h1 => ?_)
  refine (zv_it c32_30 rfl).trans ?_
  refine (zv_an c32_31 rfl).trans ?_
  refine (zv_an c32_32 rfl).trans ?_
  refine (zv_gR c32_33 zf0_1).trans (zgR_c fun x3 => ?_)
  refine (zv_in c32_36 rfl).trans ?_
  refine (zv_cO c32_37 (zle rfl)).trans (zcO_c fun x4 h5 => ?_)
  refine (zv_dx1 c32_40 rfl rfl).trans ?_
  refine (zv_pR c32_41 zf0_1).trans (zpR_c fun h6 => ?_)
  exact zv_ar c32_44 zrt_32
theorem c33_0 : zcod 33 0 = some (.iload_n 0, 1, 0, 0, 0, 0) := by decide +kernel
theorem c33_1 : zcod 33 1 = some (.iload_n 1, 1, 0, 0, 0, 0) := by decide +kernel
theorem c33_2 : zcod 33 2 = some (.iload_n 2, 1, 0, 0, 0, 0) := by decide +kernel
theorem c33_3 : zcod 33 3 = some (.invokestatic 194, 3, 34, 2, 407, 0) := by decide +kernel
theorem c33_6 : zcod 33 6 = some (.iadd, 1, 0, 0, 0, 0) := by decide +kernel
theorem c33_7 : zcod 33 7 = some (.istore_n 3, 1, 0, 0, 0, 0) := by decide +kernel
theorem c33_8 : zcod 33 8 = some (.iconst 0, 1, 0, 0, 0, 0) := by decide +kernel
theorem c33_9 : zcod 33 9 = some (.iload_n 3, 1, 0, 0, 0, 0) := by decide +kernel
theorem c33_10 : zcod 33 10 = some (.if_icmp .ge 11, 3, 21, 0, 0, 0) := by decide +kernel
theorem c33_13 : zcod 33 13 = some (.iload_n 3, 1, 0, 0, 0, 0) := by decide +kernel
theorem c33_14 : zcod 33 14 = some (.ldc 200, 2, 0, 0, 410, 2147483639) := by decide +kernel
theorem c33_16 : zcod 33 16 = some (.if_icmp .gt 5, 3, 21, 0, 0, 0) := by decide +kernel
theorem c33_19 : zcod 33 19 = some (.iload_n 3, 1, 0, 0, 0, 0) := by decide +kernel
theorem c33_20 : zcod 33 20 = some (.ireturn, 1, 0, 0, 0, 0) := by decide +kernel
theorem c33_21 : zcod 33 21 = some (.iload_n 0, 1, 0, 0, 0, 0) := by decide +kernel
theorem c33_22 : zcod 33 22 = some (.iload_n 1, 1, 0, 0, 0, 0) := by decide +kernel
theorem c33_23 : zcod 33 23 = some (.invokestatic 201, 3, 35, 2, 411, 0) := by decide +kernel
theorem c33_26 : zcod 33 26 = some (.ireturn, 1, 0, 0, 0, 0) := by decide +kernel
set_option maxRecDepth 100000 in
theorem b33_0 (l0 : Int32) (l1 : Int32) (l2 : Int32) (h : zH) : zev 33 0 [some (vI l0), some (vI l1), some (vI l2), none] [] h = (zcI 34 [vI l1, vI l2] h fun x2 h1 => (if 0 < (l0 + x2) then (if 2147483639 < (l0 + x2) then (zcI 35 [vI l0, vI l1] h1 fun x4 h3 => some (some (vI x4), h3)) else some (some (vI (l0 + x2)), h1)) else (zcI 35 [vI l0, vI l1] h1 fun x6 h5 => some (some (vI x6), h5)))) := by
  refine (zv_in c33_0 rfl).trans ?_
  refine (zv_in c33_1 rfl).trans ?_
  refine (zv_in c33_2 rfl).trans ?_
  refine (zv_stI c33_3 (by decide) rfl zL_34 (Or.inl zrt_34) rfl rfl).trans (zcI_c fun x2 h1 => ?_)
  refine (zv_iadd c33_6).trans ?_
  refine (zv_it c33_7 rfl).trans ?_
  refine (zv_k (v := 0) c33_8 (by decide)).trans ?_
  refine (zv_in c33_9 rfl).trans ?_
  refine (zv_icge c33_10).trans (zif_c ?_ ?_)
  · refine (zv_in c33_13 rfl).trans ?_
    refine (zv_ldc (v := 2147483639) c33_14 (by decide)).trans ?_
    refine (zv_icgt c33_16).trans (zif_c ?_ ?_)
    · refine (zv_in c33_21 rfl).trans ?_
      refine (zv_in c33_22 rfl).trans ?_
      refine (zv_stI c33_23 (by decide) rfl zL_35 (Or.inl zrt_35) rfl rfl).trans (zcI_c fun x4 h3 => ?_)
      exact zv_ir c33_26 zrt_33
    · refine (zv_in c33_19 rfl).trans ?_
      exact zv_ir c33_20 zrt_33
  · refine (zv_in c33_21 rfl).trans ?_
    refine (zv_in c33_22 rfl).trans ?_
    refine (zv_stI c33_23 (by decide) rfl zL_35 (Or.inl zrt_35) rfl rfl).trans (zcI_c fun x6 h5 => ?_)
    exact zv_ir c33_26 zrt_33
theorem e33 (l0 : Int32) (l1 : Int32) (l2 : Int32) (h : zH) : zcall 33 [vI l0, vI l1, vI l2] h = (zcI 34 [vI l1, vI l2] h fun x2 h1 => (if 0 < (l0 + x2) then (if 2147483639 < (l0 + x2) then (zcI 35 [vI l0, vI l1] h1 fun x4 h3 => some (some (vI x4), h3)) else some (some (vI (l0 + x2)), h1)) else (zcI 35 [vI l0, vI l1] h1 fun x6 h5 => some (some (vI x6), h5)))) := by
  refine Eq.trans ?_ (b33_0 l0 l1 l2 h)
  unfold zcall zent
  rw [zL_33]
  rfl
theorem c34_0 : zcod 34 0 = some (.iload_n 0, 1, 0, 0, 0, 0) := by decide +kernel
theorem c34_1 : zcod 34 1 = some (.iload_n 1, 1, 0, 0, 0, 0) := by decide +kernel
theorem c34_2 : zcod 34 2 = some (.if_icmp .lt 7, 3, 9, 0, 0, 0) := by decide +kernel
theorem c34_5 : zcod 34 5 = some (.iload_n 0, 1, 0, 0, 0, 0) := by decide +kernel
theorem c34_6 : zcod 34 6 = some (.goto 4, 3, 10, 0, 0, 0) := by decide +kernel
theorem c34_9 : zcod 34 9 = some (.iload_n 1, 1, 0, 0, 0, 0) := by decide +kernel
theorem c34_10 : zcod 34 10 = some (.ireturn, 1, 0, 0, 0, 0) := by decide +kernel
set_option maxRecDepth 100000 in
theorem b34_0 (l0 : Int32) (l1 : Int32) (h : zH) : zev 34 0 [some (vI l0), some (vI l1)] [] h = (if l0 < l1 then some (some (vI l1), h) else some (some (vI l0), h)) := by
  refine (zv_in c34_0 rfl).trans ?_
  refine (zv_in c34_1 rfl).trans ?_
  refine (zv_iclt c34_2).trans (zif_c ?_ ?_)
  · refine (zv_in c34_9 rfl).trans ?_
    exact zv_ir c34_10 zrt_34
  · refine (zv_in c34_5 rfl).trans ?_
    refine (zv_goto c34_6).trans ?_
    exact zv_ir c34_10 zrt_34
theorem e34 (l0 : Int32) (l1 : Int32) (h : zH) : zcall 34 [vI l0, vI l1] h = (if l0 < l1 then some (some (vI l1), h) else some (some (vI l0), h)) := by
  refine Eq.trans ?_ (b34_0 l0 l1 h)
  unfold zcall zent
  rw [zL_34]
  rfl
theorem c38_0 : zcod 38 0 = some (.iload_n 0, 1, 0, 0, 0, 0) := by decide +kernel
theorem c38_1 : zcod 38 1 = some (.iload_n 1, 1, 0, 0, 0, 0) := by decide +kernel
theorem c38_2 : zcod 38 2 = some (.if_icmp .gt 7, 3, 9, 0, 0, 0) := by decide +kernel
theorem c38_5 : zcod 38 5 = some (.iload_n 0, 1, 0, 0, 0, 0) := by decide +kernel
theorem c38_6 : zcod 38 6 = some (.goto 4, 3, 10, 0, 0, 0) := by decide +kernel
theorem c38_9 : zcod 38 9 = some (.iload_n 1, 1, 0, 0, 0, 0) := by decide +kernel
theorem c38_10 : zcod 38 10 = some (.ireturn, 1, 0, 0, 0, 0) := by decide +kernel
set_option maxRecDepth 100000 in
theorem b38_0 (l0 : Int32) (l1 : Int32) (h : zH) : zev 38 0 [some (vI l0), some (vI l1)] [] h = (if l1 < l0 then some (some (vI l1), h) else some (some (vI l0), h)) := by
  refine (zv_in c38_0 rfl).trans ?_
  refine (zv_in c38_1 rfl).trans ?_
  refine (zv_icgt c38_2).trans (zif_c ?_ ?_)
  · refine (zv_in c38_9 rfl).trans ?_
    exact zv_ir c38_10 zrt_38
  · refine (zv_in c38_5 rfl).trans ?_
    refine (zv_goto c38_6).trans ?_
    exact zv_ir c38_10 zrt_38
theorem e38 (l0 : Int32) (l1 : Int32) (h : zH) : zcall 38 [vI l0, vI l1] h = (if l1 < l0 then some (some (vI l1), h) else some (some (vI l0), h)) := by
  refine Eq.trans ?_ (b38_0 l0 l1 h)
  unfold zcall zent
  rw [zL_38]
  rfl
theorem c39_0 : zcod 39 0 = some (.iload_n 2, 1, 0, 0, 0, 0) := by decide +kernel
theorem c39_1 : zcod 39 1 = some (.istore 6, 2, 0, 0, 0, 0) := by decide +kernel
theorem c39_3 : zcod 39 3 = some (.iload 6, 2, 0, 0, 0, 0) := by decide +kernel
theorem c39_5 : zcod 39 5 = some (.iload_n 2, 1, 0, 0, 0, 0) := by decide +kernel
theorem c39_6 : zcod 39 6 = some (.iload 4, 2, 0, 0, 0, 0) := by decide +kernel
theorem c39_8 : zcod 39 8 = some (.iadd, 1, 0, 0, 0, 0) := by decide +kernel
theorem c39_9 : zcod 39 9 = some (.if_icmp .ge 68, 3, 77, 0, 0, 0) := by decide +kernel
theorem c39_12 : zcod 39 12 = some (.iload_n 1, 1, 0, 0, 0, 0) := by decide +kernel
theorem c39_13 : zcod 39 13 = some (.istore 7, 2, 0, 0, 0, 0) := by decide +kernel
theorem c39_15 : zcod 39 15 = some (.iload 7, 2, 0, 0, 0, 0) := by decide +kernel
theorem c39_17 : zcod 39 17 = some (.iload_n 1, 1, 0, 0, 0, 0) := by decide +kernel
theorem c39_18 : zcod 39 18 = some (.iload_n 3, 1, 0, 0, 0, 0) := by decide +kernel
theorem c39_19 : zcod 39 19 = some (.iadd, 1, 0, 0, 0, 0) := by decide +kernel
theorem c39_20 : zcod 39 20 = some (.if_icmp .ge 51, 3, 71, 0, 0, 0) := by decide +kernel
theorem c39_23 : zcod 39 23 = some (.iload 7, 2, 0, 0, 0, 0) := by decide +kernel
theorem c39_25 : zcod 39 25 = some (.iload 6, 2, 0, 0, 0, 0) := by decide +kernel
theorem c39_27 : zcod 39 27 = some (.invokestatic 32, 3, 26, 2, 293, 1) := by decide +kernel
theorem c39_30 : zcod 39 30 = some (.ifCond .eq 35, 3, 65, 0, 0, 0) := by decide +kernel
theorem c39_33 : zcod 39 33 = some (.aload_n 0, 1, 0, 0, 0, 0) := by decide +kernel
theorem c39_34 : zcod 39 34 = some (.getfield 9, 3, 5, 0, 145, 0) := by decide +kernel
theorem c39_37 : zcod 39 37 = some (.iload 6, 2, 0, 0, 0, 0) := by decide +kernel
theorem c39_39 : zcod 39 39 = some (.bipush 20, 2, 0, 0, 0, 0) := by decide +kernel
theorem c39_41 : zcod 39 41 = some (.imul, 1, 0, 0, 0, 0) := by decide +kernel
theorem c39_42 : zcod 39 42 = some (.iload 7, 2, 0, 0, 0, 0) := by decide +kernel
theorem c39_44 : zcod 39 44 = some (.iadd, 1, 0, 0, 0, 0) := by decide +kernel
theorem c39_45 : zcod 39 45 = some (.iaload, 1, 0, 0, 0, 0) := by decide +kernel
theorem c39_46 : zcod 39 46 = some (.iconst (-1), 1, 0, 0, 0, 0) := by decide +kernel
theorem c39_47 : zcod 39 47 = some (.if_icmp .ne 18, 3, 65, 0, 0, 0) := by decide +kernel
theorem c39_50 : zcod 39 50 = some (.aload_n 0, 1, 0, 0, 0, 0) := by decide +kernel
theorem c39_51 : zcod 39 51 = some (.getfield 9, 3, 5, 0, 145, 0) := by decide +kernel
theorem c39_54 : zcod 39 54 = some (.iload 6, 2, 0, 0, 0, 0) := by decide +kernel
theorem c39_56 : zcod 39 56 = some (.bipush 20, 2, 0, 0, 0, 0) := by decide +kernel
theorem c39_58 : zcod 39 58 = some (.imul, 1, 0, 0, 0, 0) := by decide +kernel
theorem c39_59 : zcod 39 59 = some (.iload 7, 2, 0, 0, 0, 0) := by decide +kernel
theorem c39_61 : zcod 39 61 = some (.iadd, 1, 0, 0, 0, 0) := by decide +kernel
theorem c39_62 : zcod 39 62 = some (.iload 5, 2, 0, 0, 0, 0) := by decide +kernel
theorem c39_64 : zcod 39 64 = some (.iastore, 1, 0, 0, 0, 0) := by decide +kernel
theorem c39_65 : zcod 39 65 = some (.iinc 7 1, 3, 0, 0, 0, 0) := by decide +kernel
theorem c39_68 : zcod 39 68 = some (.goto (-53), 3, 15, 0, 0, 0) := by decide +kernel
theorem c39_71 : zcod 39 71 = some (.iinc 6 1, 3, 0, 0, 0, 0) := by decide +kernel
theorem c39_74 : zcod 39 74 = some (.goto (-71), 3, 3, 0, 0, 0) := by decide +kernel
theorem c39_77 : zcod 39 77 = some (.return_, 1, 0, 0, 0, 0) := by decide +kernel
set_option maxRecDepth 100000 in
theorem b39_0 (l0 : Option Nat) (l1 : Int32) (l2 : Int32) (l3 : Int32) (l4 : Int32) (l5 : Int32) (h : zH) : zev 39 0 [some (vR l0), some (vI l1), some (vI l2), some (vI l3), some (vI l4), some (vI l5), none, none] [] h = zev 39 3 [some (vR l0), some (vI l1), some (vI l2), some (vI l3), some (vI l4), some (vI l5), some (vI l2), none] [] h := by
  refine (zv_in c39_0 rfl).trans ?_
  refine (zv_is c39_1 rfl).trans ?_
  rfl
theorem e39 (l0 : Option Nat) (l1 : Int32) (l2 : Int32) (l3 : Int32) (l4 : Int32) (l5 : Int32) (h : zH) : zcall 39 [vR l0, vI l1, vI l2, vI l3, vI l4, vI l5] h = zev 39 3 [some (vR l0), some (vI l1), some (vI l2), some (vI l3), some (vI l4), some (vI l5), some (vI l2), none] [] h := by
  refine Eq.trans ?_ (b39_0 l0 l1 l2 l3 l4 l5 h)
  unfold zcall zent
  rw [zL_39]
  rfl
set_option maxRecDepth 100000 in
theorem b39_3 (l0 : Option Nat) (l1 : Int32) (l2 : Int32) (l3 : Int32) (l4 : Int32) (l5 : Int32) (l6 : Int32) (l7 : Option zV) (h : zH) : zev 39 3 [some (vR l0), some (vI l1), some (vI l2), some (vI l3), some (vI l4), some (vI l5), some (vI l6), l7] [] h = (if l6 < (l2 + l4) then zev 39 15 [some (vR l0), some (vI l1), some (vI l2), some (vI l3), some (vI l4), some (vI l5), some (vI l6), some (vI l1)] [] h else some (none, h)) := by
  refine (zv_il c39_3 rfl).trans ?_
  refine (zv_in c39_5 rfl).trans ?_
  refine (zv_il c39_6 rfl).trans ?_
  refine (zv_iadd c39_8).trans ?_
  refine (zv_icge c39_9).trans (zif_c ?_ ?_)
  · refine (zv_in c39_12 rfl).trans ?_
    refine (zv_is c39_13 rfl).trans ?_
    rfl
  · exact zv_vr c39_77 zrt_39
set_option maxRecDepth 100000 in
theorem b39_15 (l0 : Option Nat) (l1 : Int32) (l2 : Int32) (l3 : Int32) (l4 : Int32) (l5 : Int32) (l6 : Int32) (l7 : Int32) (h : zH) : zev 39 15 [some (vR l0), some (vI l1), some (vI l2), some (vI l3), some (vI l4), some (vI l5), some (vI l6), some (vI l7)] [] h = (if l7 < (l1 + l3) then (zcI 26 [vI l7, vI l6] h fun x2 h1 => (if x2 = 0 then zev 39 15 [some (vR l0), some (vI l1), some (vI l2), some (vI l3), some (vI l4), some (vI l5), some (vI l6), some (vI (l7 + 1))] [] h1 else (zgR h1 l0 5 0 fun x3 => (zaI h1 x3 ((l6 * 20) + l7) fun x4 => (if x4 = (-1) then (zgR h1 l0 5 0 fun x5 => (ztI h1 x5 ((l6 * 20) + l7) l5 fun h6 => zev 39 15 [some (vR l0), some (vI l1), some (vI l2), some (vI l3), some (vI l4), some (vI l5), some (vI l6), some (vI (l7 + 1))] [] h6)) else zev 39 15 [some (vR l0), some (vI l1), some (vI l2), some (vI l3), some (vI l4), some (vI l5), some (vI l6), some (vI (l7 + 1))] [] h1))))) else zev 39 3 [some (vR l0), some (vI l1), some (vI l2), some (vI l3), some (vI l4), some (vI l5), some (vI (l6 + 1)), some (vI l7)] [] h) := by
  refine (zv_il c39_15 rfl).trans ?_
  refine (zv_in c39_17 rfl).trans ?_
  refine (zv_in c39_18 rfl).trans ?_
  refine (zv_iadd c39_19).trans ?_
  refine (zv_icge c39_20).trans (zif_c ?_ ?_)
  · refine (zv_il c39_23 rfl).trans ?_
    refine (zv_il c39_25 rfl).trans ?_
    refine (zv_stI c39_27 (by decide) rfl zL_26 (Or.inr zrt_26) rfl rfl).trans (zcI_c fun x2 h1 => ?_)
    refine (zv_ifeq c39_30).trans (zif_c ?_ ?_)
    · refine (zv_inc (y := 1) c39_65 rfl (by decide) rfl).trans ?_
      refine (zv_goto c39_68).trans ?_
      rfl
    · refine (zv_an c39_33 rfl).trans ?_
      refine (zv_gR c39_34 zf5_0).trans (zgR_c fun x3 => ?_)
      refine (zv_il c39_37 rfl).trans ?_
      refine (zv_bi (v := 20) c39_39 (by decide)).trans ?_
      refine (zv_imul c39_41).trans ?_
      refine (zv_il c39_42 rfl).trans ?_
      refine (zv_iadd c39_44).trans ?_
      refine (zv_aI c39_45).trans (zaI_c fun x4 => ?_)
      refine (zv_k (v := -1) c39_46 (by decide)).trans ?_
      refine (zv_icne c39_47).trans (zif_c ?_ ?_)
      · refine (zv_an c39_50 rfl).trans ?_
        refine (zv_gR c39_51 zf5_0).trans (zgR_c fun x5 => ?_)
        refine (zv_il c39_54 rfl).trans ?_
        refine (zv_bi (v := 20) c39_56 (by decide)).trans ?_
        refine (zv_imul c39_58).trans ?_
        refine (zv_il c39_59 rfl).trans ?_
        refine (zv_iadd c39_61).trans ?_
        refine (zv_il c39_62 rfl).trans ?_
        refine (zv_tI c39_64).trans (ztI_c fun h6 => ?_)
        refine (zv_inc (y := 1) c39_65 rfl (by decide) rfl).trans ?_
        refine (zv_goto c39_68).trans ?_
        rfl
      · refine (zv_inc (y := 1) c39_65 rfl (by decide) rfl).trans ?_
        refine (zv_goto c39_68).trans ?_
        rfl
  · refine (zv_inc (y := 1) c39_71 rfl (by decide) rfl).trans ?_
    refine (zv_goto c39_74).trans ?_
    rfl
theorem c40_0 : zcod 40 0 = some (.aload_n 0, 1, 0, 0, 0, 0) := by decide +kernel
theorem c40_1 : zcod 40 1 = some (.getfield 15, 3, 6, 1, 81, 0) := by decide +kernel
theorem c40_4 : zcod 40 4 = some (.iconst 0, 1, 0, 0, 0, 0) := by decide +kernel
theorem c40_5 : zcod 40 5 = some (.iaload, 1, 0, 0, 0, 0) := by decide +kernel
theorem c40_6 : zcod 40 6 = some (.istore_n 3, 1, 0, 0, 0, 0) := by decide +kernel
theorem c40_7 : zcod 40 7 = some (.aload_n 0, 1, 0, 0, 0, 0) := by decide +kernel
theorem c40_8 : zcod 40 8 = some (.getfield 15, 3, 6, 1, 81, 0) := by decide +kernel
theorem c40_11 : zcod 40 11 = some (.iconst 1, 1, 0, 0, 0, 0) := by decide +kernel
theorem c40_12 : zcod 40 12 = some (.iaload, 1, 0, 0, 0, 0) := by decide +kernel
theorem c40_13 : zcod 40 13 = some (.istore 4, 2, 0, 0, 0, 0) := by decide +kernel
theorem c40_15 : zcod 40 15 = some (.aload_n 0, 1, 0, 0, 0, 0) := by decide +kernel
theorem c40_16 : zcod 40 16 = some (.getfield 15, 3, 6, 1, 81, 0) := by decide +kernel
theorem c40_19 : zcod 40 19 = some (.iconst 2, 1, 0, 0, 0, 0) := by decide +kernel
theorem c40_20 : zcod 40 20 = some (.iaload, 1, 0, 0, 0, 0) := by decide +kernel
theorem c40_21 : zcod 40 21 = some (.ifCond .ne 12, 3, 33, 0, 0, 0) := by decide +kernel
theorem c40_24 : zcod 40 24 = some (.aload_n 0, 1, 0, 0, 0, 0) := by decide +kernel
theorem c40_25 : zcod 40 25 = some (.getfield 15, 3, 6, 1, 81, 0) := by decide +kernel
theorem c40_28 : zcod 40 28 = some (.iconst 3, 1, 0, 0, 0, 0) := by decide +kernel
theorem c40_29 : zcod 40 29 = some (.iaload, 1, 0, 0, 0, 0) := by decide +kernel
theorem c40_30 : zcod 40 30 = some (.goto 4, 3, 34, 0, 0, 0) := by decide +kernel
theorem c40_33 : zcod 40 33 = some (.iconst 1, 1, 0, 0, 0, 0) := by decide +kernel
theorem c40_34 : zcod 40 34 = some (.istore 5, 2, 0, 0, 0, 0) := by decide +kernel
theorem c40_36 : zcod 40 36 = some (.aload_n 0, 1, 0, 0, 0, 0) := by decide +kernel
theorem c40_37 : zcod 40 37 = some (.getfield 15, 3, 6, 1, 81, 0) := by decide +kernel
theorem c40_40 : zcod 40 40 = some (.iconst 2, 1, 0, 0, 0, 0) := by decide +kernel
theorem c40_41 : zcod 40 41 = some (.iaload, 1, 0, 0, 0, 0) := by decide +kernel
theorem c40_42 : zcod 40 42 = some (.ifCond .ne 7, 3, 49, 0, 0, 0) := by decide +kernel
theorem c40_45 : zcod 40 45 = some (.iconst 1, 1, 0, 0, 0, 0) := by decide +kernel
theorem c40_46 : zcod 40 46 = some (.goto 9, 3, 55, 0, 0, 0) := by decide +kernel
theorem c40_49 : zcod 40 49 = some (.aload_n 0, 1, 0, 0, 0, 0) := by decide +kernel
theorem c40_50 : zcod 40 50 = some (.getfield 15, 3, 6, 1, 81, 0) := by decide +kernel
theorem c40_53 : zcod 40 53 = some (.iconst 3, 1, 0, 0, 0, 0) := by decide +kernel
theorem c40_54 : zcod 40 54 = some (.iaload, 1, 0, 0, 0, 0) := by decide +kernel
theorem c40_55 : zcod 40 55 = some (.istore 6, 2, 0, 0, 0, 0) := by decide +kernel
theorem c40_57 : zcod 40 57 = some (.aload_n 1, 1, 0, 0, 0, 0) := by decide +kernel
theorem c40_58 : zcod 40 58 = some (.iload_n 3, 1, 0, 0, 0, 0) := by decide +kernel
theorem c40_59 : zcod 40 59 = some (.iload 4, 2, 0, 0, 0, 0) := by decide +kernel
theorem c40_61 : zcod 40 61 = some (.iload 5, 2, 0, 0, 0, 0) := by decide +kernel
theorem c40_63 : zcod 40 63 = some (.iload 6, 2, 0, 0, 0, 0) := by decide +kernel
theorem c40_65 : zcod 40 65 = some (.iconst 1, 1, 0, 0, 0, 0) := by decide +kernel
theorem c40_66 : zcod 40 66 = some (.invokevirtual 107, 3, 24, 5, 285, 0) := by decide +kernel
theorem c40_69 : zcod 40 69 = some (.ifCond .ne 12, 3, 81, 0, 0, 0) := by decide +kernel
theorem c40_72 : zcod 40 72 = some (.aload_n 0, 1, 0, 0, 0, 0) := by decide +kernel
theorem c40_73 : zcod 40 73 = some (.iconst 3, 1, 0, 0, 0, 0) := by decide +kernel
theorem c40_74 : zcod 40 74 = some (.iload_n 2, 1, 0, 0, 0, 0) := by decide +kernel
theorem c40_75 : zcod 40 75 = some (.invokevirtual 96, 3, 20, 2, 270, 0) := by decide +kernel
theorem c40_78 : zcod 40 78 = some (.goto 32, 3, 110, 0, 0, 0) := by decide +kernel
theorem c40_81 : zcod 40 81 = some (.aload_n 1, 1, 0, 0, 0, 0) := by decide +kernel
theorem c40_82 : zcod 40 82 = some (.getfield 38, 3, 5, 3, 151, 0) := by decide +kernel
theorem c40_85 : zcod 40 85 = some (.bipush 12, 2, 0, 0, 0, 0) := by decide +kernel
theorem c40_87 : zcod 40 87 = some (.if_icmp .lt 12, 3, 99, 0, 0, 0) := by decide +kernel
theorem c40_90 : zcod 40 90 = some (.aload_n 0, 1, 0, 0, 0, 0) := by decide +kernel
theorem c40_91 : zcod 40 91 = some (.iconst 4, 1, 0, 0, 0, 0) := by decide +kernel
theorem c40_92 : zcod 40 92 = some (.iload_n 2, 1, 0, 0, 0, 0) := by decide +kernel
theorem c40_93 : zcod 40 93 = some (.invokevirtual 96, 3, 20, 2, 270, 0) := by decide +kernel
theorem c40_96 : zcod 40 96 = some (.goto 14, 3, 110, 0, 0, 0) := by decide +kernel
theorem c40_99 : zcod 40 99 = some (.aload_n 1, 1, 0, 0, 0, 0) := by decide +kernel
theorem c40_100 : zcod 40 100 = some (.iload_n 3, 1, 0, 0, 0, 0) := by decide +kernel
theorem c40_101 : zcod 40 101 = some (.iload 4, 2, 0, 0, 0, 0) := by decide +kernel
theorem c40_103 : zcod 40 103 = some (.iload 5, 2, 0, 0, 0, 0) := by decide +kernel
theorem c40_105 : zcod 40 105 = some (.iload 6, 2, 0, 0, 0, 0) := by decide +kernel
theorem c40_107 : zcod 40 107 = some (.invokevirtual 115, 3, 41, 4, 457, 0) := by decide +kernel
theorem c40_110 : zcod 40 110 = some (.return_, 1, 0, 0, 0, 0) := by decide +kernel
set_option maxRecDepth 100000 in
theorem b40_0 (l0 : Option Nat) (l1 : Option Nat) (l2 : Int32) (h : zH) : zev 40 0 [some (vR l0), some (vR l1), some (vI l2), none, none, none, none] [] h = (zgR h l0 6 1 fun x1 => (zaI h x1 0 fun x2 => (zgR h l0 6 1 fun x3 => (zaI h x3 1 fun x4 => (zgR h l0 6 1 fun x5 => (zaI h x5 2 fun x6 => (if x6 = 0 then (zgR h l0 6 1 fun x7 => (zaI h x7 3 fun x8 => (zgR h l0 6 1 fun x9 => (zaI h x9 2 fun x10 => (if x10 = 0 then zev 40 55 [some (vR l0), some (vR l1), some (vI l2), some (vI x2), some (vI x4), some (vI x8), none] [vI 1] h else (zgR h l0 6 1 fun x11 => (zaI h x11 3 fun x12 => zev 40 55 [some (vR l0), some (vR l1), some (vI l2), some (vI x2), some (vI x4), some (vI x8), none] [vI x12] h))))))) else (zgR h l0 6 1 fun x13 => (zaI h x13 2 fun x14 => (if x14 = 0 then zev 40 55 [some (vR l0), some (vR l1), some (vI l2), some (vI x2), some (vI x4), some (vI 1), none] [vI 1] h else (zgR h l0 6 1 fun x15 => (zaI h x15 3 fun x16 => zev 40 55 [some (vR l0), some (vR l1), some (vI l2), some (vI x2), some (vI x4), some (vI 1), none] [vI x16] h)))))))))))) := by
  refine (zv_an c40_0 rfl).trans ?_
  refine (zv_gR c40_1 zf6_1).trans (zgR_c fun x1 => ?_)
  refine (zv_k (v := 0) c40_4 (by decide)).trans ?_
  refine (zv_aI c40_5).trans (zaI_c fun x2 => ?_)
  refine (zv_it c40_6 rfl).trans ?_
  refine (zv_an c40_7 rfl).trans ?_
  refine (zv_gR c40_8 zf6_1).trans (zgR_c fun x3 => ?_)
  refine (zv_k (v := 1) c40_11 (by decide)).trans ?_
  refine (zv_aI c40_12).trans (zaI_c fun x4 => ?_)
  refine (zv_is c40_13 rfl).trans ?_
  refine (zv_an c40_15 rfl).trans ?_
  refine (zv_gR c40_16 zf6_1).trans (zgR_c fun x5 => ?_)
  refine (zv_k (v := 2) c40_19 (by decide)).trans ?_
  refine (zv_aI c40_20).trans (zaI_c fun x6 => ?_)
  refine (zv_ifne c40_21).trans (zif_c ?_ ?_)
  · refine (zv_an c40_24 rfl).trans ?_
    refine (zv_gR c40_25 zf6_1).trans (zgR_c fun x7 => ?_)
    refine (zv_k (v := 3) c40_28 (by decide)).trans ?_
    refine (zv_aI c40_29).trans (zaI_c fun x8 => ?_)
    refine (zv_goto c40_30).trans ?_
    refine (zv_is c40_34 rfl).trans ?_
    refine (zv_an c40_36 rfl).trans ?_
    refine (zv_gR c40_37 zf6_1).trans (zgR_c fun x9 => ?_)
    refine (zv_k (v := 2) c40_40 (by decide)).trans ?_
    refine (zv_aI c40_41).trans (zaI_c fun x10 => ?_)
    refine (zv_ifne c40_42).trans (zif_c ?_ ?_)
    · refine (zv_k (v := 1) c40_45 (by decide)).trans ?_
      refine (zv_goto c40_46).trans ?_
      rfl
    · refine (zv_an c40_49 rfl).trans ?_
      refine (zv_gR c40_50 zf6_1).trans (zgR_c fun x11 => ?_)
      refine (zv_k (v := 3) c40_53 (by decide)).trans ?_
      refine (zv_aI c40_54).trans (zaI_c fun x12 => ?_)
      rfl
  · refine (zv_k (v := 1) c40_33 (by decide)).trans ?_
    refine (zv_is c40_34 rfl).trans ?_
    refine (zv_an c40_36 rfl).trans ?_
    refine (zv_gR c40_37 zf6_1).trans (zgR_c fun x13 => ?_)
    refine (zv_k (v := 2) c40_40 (by decide)).trans ?_
    refine (zv_aI c40_41).trans (zaI_c fun x14 => ?_)
    refine (zv_ifne c40_42).trans (zif_c ?_ ?_)
    · refine (zv_k (v := 1) c40_45 (by decide)).trans ?_
      refine (zv_goto c40_46).trans ?_
      rfl
    · refine (zv_an c40_49 rfl).trans ?_
      refine (zv_gR c40_50 zf6_1).trans (zgR_c fun x15 => ?_)
      refine (zv_k (v := 3) c40_53 (by decide)).trans ?_
      refine (zv_aI c40_54).trans (zaI_c fun x16 => ?_)
      rfl
theorem e40 (l0 : Option Nat) (l1 : Option Nat) (l2 : Int32) (h : zH) : zcall 40 [vR l0, vR l1, vI l2] h = (zgR h l0 6 1 fun x1 => (zaI h x1 0 fun x2 => (zgR h l0 6 1 fun x3 => (zaI h x3 1 fun x4 => (zgR h l0 6 1 fun x5 => (zaI h x5 2 fun x6 => (if x6 = 0 then (zgR h l0 6 1 fun x7 => (zaI h x7 3 fun x8 => (zgR h l0 6 1 fun x9 => (zaI h x9 2 fun x10 => (if x10 = 0 then zev 40 55 [some (vR l0), some (vR l1), some (vI l2), some (vI x2), some (vI x4), some (vI x8), none] [vI 1] h else (zgR h l0 6 1 fun x11 => (zaI h x11 3 fun x12 => zev 40 55 [some (vR l0), some (vR l1), some (vI l2), some (vI x2), some (vI x4), some (vI x8), none] [vI x12] h))))))) else (zgR h l0 6 1 fun x13 => (zaI h x13 2 fun x14 => (if x14 = 0 then zev 40 55 [some (vR l0), some (vR l1), some (vI l2), some (vI x2), some (vI x4), some (vI 1), none] [vI 1] h else (zgR h l0 6 1 fun x15 => (zaI h x15 3 fun x16 => zev 40 55 [some (vR l0), some (vR l1), some (vI l2), some (vI x2), some (vI x4), some (vI 1), none] [vI x16] h)))))))))))) := by
  refine Eq.trans ?_ (b40_0 l0 l1 l2 h)
  unfold zcall zent
  rw [zL_40]
  rfl
set_option maxRecDepth 100000 in
theorem b40_55 (l0 : Option Nat) (l1 : Option Nat) (l2 : Int32) (l3 : Int32) (l4 : Int32) (l5 : Int32) (l6 : Option zV) (s0 : Int32) (h : zH) : zev 40 55 [some (vR l0), some (vR l1), some (vI l2), some (vI l3), some (vI l4), some (vI l5), l6] [vI s0] h = (zvr h l1 5 (zcI 24 [vR l1, vI l3, vI l4, vI l5, vI s0, vI 1] h fun x2 h1 => (if x2 = 0 then (zvr h1 l0 6 (zcV 20 [vR l0, vI 3, vI l2] h1 fun h3 => some (none, h3))) else (zgI h1 l1 5 3 fun x4 => (if x4 < 12 then (zvr h1 l1 5 (zcV 41 [vR l1, vI l3, vI l4, vI l5, vI s0] h1 fun h5 => some (none, h5))) else (zvr h1 l0 6 (zcV 20 [vR l0, vI 4, vI l2] h1 fun h6 => some (none, h6)))))))) := by
  refine (zv_is c40_55 rfl).trans ?_
  refine (zv_an c40_57 rfl).trans ?_
  refine (zv_in c40_58 rfl).trans ?_
  refine (zv_il c40_59 rfl).trans ?_
  refine (zv_il c40_61 rfl).trans ?_
  refine (zv_il c40_63 rfl).trans ?_
  refine (zv_k (v := 1) c40_65 (by decide)).trans ?_
  refine (zv_viI c40_66 zcn_24 rfl zL_24 (Or.inr zrt_24) rfl rfl).trans (zvr_c (zcI_c fun x2 h1 => ?_))
  refine (zv_ifne c40_69).trans (zif_c ?_ ?_)
  · refine (zv_an c40_72 rfl).trans ?_
    refine (zv_k (v := 3) c40_73 (by decide)).trans ?_
    refine (zv_in c40_74 rfl).trans ?_
    refine (zv_viV c40_75 zcn_20 rfl zL_20 zrt_20 rfl rfl).trans (zvr_c (zcV_c fun h3 => ?_))
    refine (zv_goto c40_78).trans ?_
    exact zv_vr c40_110 zrt_40
  · refine (zv_an c40_81 rfl).trans ?_
    refine (zv_gI c40_82 zg5_3).trans (zgI_c fun x4 => ?_)
    refine (zv_bi (v := 12) c40_85 (by decide)).trans ?_
    refine (zv_iclt c40_87).trans (zif_c ?_ ?_)
    · refine (zv_an c40_99 rfl).trans ?_
      refine (zv_in c40_100 rfl).trans ?_
      refine (zv_il c40_101 rfl).trans ?_
      refine (zv_il c40_103 rfl).trans ?_
      refine (zv_il c40_105 rfl).trans ?_
      refine (zv_viV c40_107 zcn_41 rfl zL_41 zrt_41 rfl rfl).trans (zvr_c (zcV_c fun h5 => ?_))
      exact zv_vr c40_110 zrt_40
    · refine (zv_an c40_90 rfl).trans ?_
      refine (zv_k (v := 4) c40_91 (by decide)).trans ?_
      refine (zv_in c40_92 rfl).trans ?_
      refine (zv_viV c40_93 zcn_20 rfl zL_20 zrt_20 rfl rfl).trans (zvr_c (zcV_c fun h6 => ?_))
      refine (zv_goto c40_96).trans ?_
      exact zv_vr c40_110 zrt_40
theorem c41_0 : zcod 41 0 = some (.aload_n 0, 1, 0, 0, 0, 0) := by decide +kernel
theorem c41_1 : zcod 41 1 = some (.getfield 46, 3, 5, 3, 152, 0) := by decide +kernel
theorem c41_4 : zcod 41 4 = some (.istore 5, 2, 0, 0, 0, 0) := by decide +kernel
theorem c41_6 : zcod 41 6 = some (.aload_n 0, 1, 0, 0, 0, 0) := by decide +kernel
theorem c41_7 : zcod 41 7 = some (.dup, 1, 0, 0, 0, 0) := by decide +kernel
theorem c41_8 : zcod 41 8 = some (.getfield 46, 3, 5, 3, 152, 0) := by decide +kernel
theorem c41_11 : zcod 41 11 = some (.iconst 1, 1, 0, 0, 0, 0) := by decide +kernel
theorem c41_12 : zcod 41 12 = some (.iadd, 1, 0, 0, 0, 0) := by decide +kernel
theorem c41_13 : zcod 41 13 = some (.putfield 46, 3, 5, 3, 152, 0) := by decide +kernel
theorem c41_16 : zcod 41 16 = some (.aload_n 0, 1, 0, 0, 0, 0) := by decide +kernel
theorem c41_17 : zcod 41 17 = some (.iload_n 1, 1, 0, 0, 0, 0) := by decide +kernel
theorem c41_18 : zcod 41 18 = some (.iload_n 2, 1, 0, 0, 0, 0) := by decide +kernel
theorem c41_19 : zcod 41 19 = some (.iload_n 3, 1, 0, 0, 0, 0) := by decide +kernel
theorem c41_20 : zcod 41 20 = some (.iload 4, 2, 0, 0, 0, 0) := by decide +kernel
theorem c41_22 : zcod 41 22 = some (.bipush 100, 2, 0, 0, 0, 0) := by decide +kernel
theorem c41_24 : zcod 41 24 = some (.iload 5, 2, 0, 0, 0, 0) := by decide +kernel
theorem c41_26 : zcod 41 26 = some (.iadd, 1, 0, 0, 0, 0) := by decide +kernel
theorem c41_27 : zcod 41 27 = some (.invokevirtual 61, 3, 39, 5, 445, 0) := by decide +kernel
theorem c41_30 : zcod 41 30 = some (.return_, 1, 0, 0, 0, 0) := by decide +kernel
set_option maxRecDepth 100000 in
theorem b41_0 (l0 : Option Nat) (l1 : Int32) (l2 : Int32) (l3 : Int32) (l4 : Int32) (h : zH) : zev 41 0 [some (vR l0), some (vI l1), some (vI l2), some (vI l3), some (vI l4), none] [] h = (zgI h l0 5 3 fun x1 => (zgI h l0 5 3 fun x2 => (zpI h l0 5 3 (x2 + 1) fun h3 => (zvr h3 l0 5 (zcV 39 [vR l0, vI l1, vI l2, vI l3, vI l4, vI (100 + x1)] h3 fun h4 => some (none, h4)))))) := by
  refine (zv_an c41_0 rfl).trans ?_
  refine (zv_gI c41_1 zg5_3).trans (zgI_c fun x1 => ?_)
  refine (zv_is c41_4 rfl).trans ?_
  refine (zv_an c41_6 rfl).trans ?_
  refine (zv_dup c41_7 rfl).trans ?_
  refine (zv_gI c41_8 zg5_3).trans (zgI_c fun x2 => ?_)
  refine (zv_k (v := 1) c41_11 (by decide)).trans ?_
  refine (zv_iadd c41_12).trans ?_
  refine (zv_pI c41_13 zf5_3).trans (zpI_c fun h3 => ?_)
  refine (zv_an c41_16 rfl).trans ?_
  refine (zv_in c41_17 rfl).trans ?_
  refine (zv_in c41_18 rfl).trans ?_
  refine (zv_in c41_19 rfl).trans ?_
  refine (zv_il c41_20 rfl).trans ?_
  refine (zv_bi (v := 100) c41_22 (by decide)).trans ?_
  refine (zv_il c41_24 rfl).trans ?_
  refine (zv_iadd c41_26).trans ?_
  refine (zv_viV c41_27 zcn_39 rfl zL_39 zrt_39 rfl rfl).trans (zvr_c (zcV_c fun h4 => ?_))
  exact zv_vr c41_30 zrt_41
theorem e41 (l0 : Option Nat) (l1 : Int32) (l2 : Int32) (l3 : Int32) (l4 : Int32) (h : zH) : zcall 41 [vR l0, vI l1, vI l2, vI l3, vI l4] h = (zgI h l0 5 3 fun x1 => (zgI h l0 5 3 fun x2 => (zpI h l0 5 3 (x2 + 1) fun h3 => (zvr h3 l0 5 (zcV 39 [vR l0, vI l1, vI l2, vI l3, vI l4, vI (100 + x1)] h3 fun h4 => some (none, h4)))))) := by
  refine Eq.trans ?_ (b41_0 l0 l1 l2 l3 l4 h)
  unfold zcall zent
  rw [zL_41]
  rfl
theorem c42_0 : zcod 42 0 = some (.iconst 0, 1, 0, 0, 0, 0) := by decide +kernel
theorem c42_1 : zcod 42 1 = some (.istore_n 3, 1, 0, 0, 0, 0) := by decide +kernel
theorem c42_2 : zcod 42 2 = some (.iload_n 3, 1, 0, 0, 0, 0) := by decide +kernel
theorem c42_3 : zcod 42 3 = some (.aload_n 0, 1, 0, 0, 0, 0) := by decide +kernel
theorem c42_4 : zcod 42 4 = some (.getfield 9, 3, 5, 0, 145, 0) := by decide +kernel
theorem c42_7 : zcod 42 7 = some (.arraylength, 1, 0, 0, 0, 0) := by decide +kernel
theorem c42_8 : zcod 42 8 = some (.if_icmp .ge 78, 3, 86, 0, 0, 0) := by decide +kernel
theorem c42_11 : zcod 42 11 = some (.aload_n 0, 1, 0, 0, 0, 0) := by decide +kernel
theorem c42_12 : zcod 42 12 = some (.getfield 9, 3, 5, 0, 145, 0) := by decide +kernel
theorem c42_15 : zcod 42 15 = some (.iload_n 3, 1, 0, 0, 0, 0) := by decide +kernel
theorem c42_16 : zcod 42 16 = some (.iaload, 1, 0, 0, 0, 0) := by decide +kernel
theorem c42_17 : zcod 42 17 = some (.istore 4, 2, 0, 0, 0, 0) := by decide +kernel
theorem c42_19 : zcod 42 19 = some (.iload 4, 2, 0, 0, 0, 0) := by decide +kernel
theorem c42_21 : zcod 42 21 = some (.iload_n 1, 1, 0, 0, 0, 0) := by decide +kernel
theorem c42_22 : zcod 42 22 = some (.if_icmp .lt 14, 3, 36, 0, 0, 0) := by decide +kernel
theorem c42_25 : zcod 42 25 = some (.iload 4, 2, 0, 0, 0, 0) := by decide +kernel
theorem c42_27 : zcod 42 27 = some (.bipush 100, 2, 0, 0, 0, 0) := by decide +kernel
theorem c42_29 : zcod 42 29 = some (.if_icmp .ge 7, 3, 36, 0, 0, 0) := by decide +kernel
theorem c42_32 : zcod 42 32 = some (.iconst 1, 1, 0, 0, 0, 0) := by decide +kernel
theorem c42_33 : zcod 42 33 = some (.goto 4, 3, 37, 0, 0, 0) := by decide +kernel
theorem c42_36 : zcod 42 36 = some (.iconst 0, 1, 0, 0, 0, 0) := by decide +kernel
theorem c42_37 : zcod 42 37 = some (.istore 5, 2, 0, 0, 0, 0) := by decide +kernel
theorem c42_39 : zcod 42 39 = some (.iload 4, 2, 0, 0, 0, 0) := by decide +kernel
theorem c42_41 : zcod 42 41 = some (.bipush 100, 2, 0, 0, 0, 0) := by decide +kernel
theorem c42_43 : zcod 42 43 = some (.iload_n 2, 1, 0, 0, 0, 0) := by decide +kernel
theorem c42_44 : zcod 42 44 = some (.iadd, 1, 0, 0, 0, 0) := by decide +kernel
theorem c42_45 : zcod 42 45 = some (.if_icmp .lt 15, 3, 60, 0, 0, 0) := by decide +kernel
theorem c42_48 : zcod 42 48 = some (.iload 4, 2, 0, 0, 0, 0) := by decide +kernel
theorem c42_50 : zcod 42 50 = some (.sipush 200, 3, 0, 0, 0, 0) := by decide +kernel
theorem c42_53 : zcod 42 53 = some (.if_icmp .ge 7, 3, 60, 0, 0, 0) := by decide +kernel
theorem c42_56 : zcod 42 56 = some (.iconst 1, 1, 0, 0, 0, 0) := by decide +kernel
theorem c42_57 : zcod 42 57 = some (.goto 4, 3, 61, 0, 0, 0) := by decide +kernel
theorem c42_60 : zcod 42 60 = some (.iconst 0, 1, 0, 0, 0, 0) := by decide +kernel
theorem c42_61 : zcod 42 61 = some (.istore 6, 2, 0, 0, 0, 0) := by decide +kernel
theorem c42_63 : zcod 42 63 = some (.iload 5, 2, 0, 0, 0, 0) := by decide +kernel
theorem c42_65 : zcod 42 65 = some (.ifCond .ne 8, 3, 73, 0, 0, 0) := by decide +kernel
theorem c42_68 : zcod 42 68 = some (.iload 6, 2, 0, 0, 0, 0) := by decide +kernel
theorem c42_70 : zcod 42 70 = some (.ifCond .eq 10, 3, 80, 0, 0, 0) := by decide +kernel
theorem c42_73 : zcod 42 73 = some (.aload_n 0, 1, 0, 0, 0, 0) := by decide +kernel
theorem c42_74 : zcod 42 74 = some (.getfield 9, 3, 5, 0, 145, 0) := by decide +kernel
theorem c42_77 : zcod 42 77 = some (.iload_n 3, 1, 0, 0, 0, 0) := by decide +kernel
theorem c42_78 : zcod 42 78 = some (.iconst (-1), 1, 0, 0, 0, 0) := by decide +kernel
theorem c42_79 : zcod 42 79 = some (.iastore, 1, 0, 0, 0, 0) := by decide +kernel
theorem c42_80 : zcod 42 80 = some (.iinc 3 1, 3, 0, 0, 0, 0) := by decide +kernel
theorem c42_83 : zcod 42 83 = some (.goto (-81), 3, 2, 0, 0, 0) := by decide +kernel
theorem c42_86 : zcod 42 86 = some (.aload_n 0, 1, 0, 0, 0, 0) := by decide +kernel
theorem c42_87 : zcod 42 87 = some (.getfield 22, 3, 5, 2, 147, 0) := by decide +kernel
theorem c42_90 : zcod 42 90 = some (.invokevirtual 36, 3, 14, 0, 300, 0) := by decide +kernel
theorem c42_93 : zcod 42 93 = some (.iconst 1, 1, 0, 0, 0, 0) := by decide +kernel
theorem c42_94 : zcod 42 94 = some (.isub, 1, 0, 0, 0, 0) := by decide +kernel
theorem c42_95 : zcod 42 95 = some (.istore_n 3, 1, 0, 0, 0, 0) := by decide +kernel
theorem c42_96 : zcod 42 96 = some (.iload_n 3, 1, 0, 0, 0, 0) := by decide +kernel
theorem c42_97 : zcod 42 97 = some (.iload_n 1, 1, 0, 0, 0, 0) := by decide +kernel
theorem c42_98 : zcod 42 98 = some (.if_icmp .lt 22, 3, 120, 0, 0, 0) := by decide +kernel
theorem c42_101 : zcod 42 101 = some (.iload_n 3, 1, 0, 0, 0, 0) := by decide +kernel
theorem c42_102 : zcod 42 102 = some (.ifCond .lt 18, 3, 120, 0, 0, 0) := by decide +kernel
theorem c42_105 : zcod 42 105 = some (.aload_n 0, 1, 0, 0, 0, 0) := by decide +kernel
theorem c42_106 : zcod 42 106 = some (.getfield 22, 3, 5, 2, 147, 0) := by decide +kernel
theorem c42_109 : zcod 42 109 = some (.iload_n 3, 1, 0, 0, 0, 0) := by decide +kernel
theorem c42_110 : zcod 42 110 = some (.invokevirtual 65, 3, 43, 1, 469, 0) := by decide +kernel
theorem c42_113 : zcod 42 113 = some (.pop, 1, 0, 0, 0, 0) := by decide +kernel
theorem c42_114 : zcod 42 114 = some (.iinc 3 (-1), 3, 0, 0, 0, 0) := by decide +kernel
theorem c42_117 : zcod 42 117 = some (.goto (-21), 3, 96, 0, 0, 0) := by decide +kernel
theorem c42_120 : zcod 42 120 = some (.aload_n 0, 1, 0, 0, 0, 0) := by decide +kernel
theorem c42_121 : zcod 42 121 = some (.iload_n 2, 1, 0, 0, 0, 0) := by decide +kernel
theorem c42_122 : zcod 42 122 = some (.putfield 46, 3, 5, 3, 152, 0) := by decide +kernel
theorem c42_125 : zcod 42 125 = some (.return_, 1, 0, 0, 0, 0) := by decide +kernel
set_option maxRecDepth 100000 in
theorem b42_0 (l0 : Option Nat) (l1 : Int32) (l2 : Int32) (h : zH) : zev 42 0 [some (vR l0), some (vI l1), some (vI l2), none, none, none, none] [] h = zev 42 2 [some (vR l0), some (vI l1), some (vI l2), some (vI 0), none, none, none] [] h := by
  refine (zv_k (v := 0) c42_0 (by decide)).trans ?_
  refine (zv_it c42_1 rfl).trans ?_
  rfl
theorem e42 (l0 : Option Nat) (l1 : Int32) (l2 : Int32) (h : zH) : zcall 42 [vR l0, vI l1, vI l2] h = zev 42 2 [some (vR l0), some (vI l1), some (vI l2), some (vI 0), none, none, none] [] h := by
  refine Eq.trans ?_ (b42_0 l0 l1 l2 h)
  unfold zcall zent
  rw [zL_42]
  rfl
set_option maxRecDepth 100000 in
theorem b42_2 (l0 : Option Nat) (l1 : Int32) (l2 : Int32) (l3 : Int32) (l4 : Option zV) (l5 : Option zV) (l6 : Option zV) (h : zH) : zev 42 2 [some (vR l0), some (vI l1), some (vI l2), some (vI l3), l4, l5, l6] [] h = (zgR h l0 5 0 fun x1 => (zal h x1 fun x2 => (if l3 < x2 then (zgR h l0 5 0 fun x3 => (zaI h x3 l3 fun x4 => (if x4 < l1 then zev 42 37 [some (vR l0), some (vI l1), some (vI l2), some (vI l3), some (vI x4), l5, l6] [vI 0] h else (if x4 < 100 then zev 42 37 [some (vR l0), some (vI l1), some (vI l2), some (vI l3), some (vI x4), l5, l6] [vI 1] h else zev 42 37 [some (vR l0), some (vI l1), some (vI l2), some (vI l3), some (vI x4), l5, l6] [vI 0] h)))) else (zgR h l0 5 2 fun x5 => (zvr h x5 0 (zcI 14 [vR x5] h fun x7 h6 => zev 42 96 [some (vR l0), some (vI l1), some (vI l2), some (vI (x7 - 1)), l4, l5, l6] [] h6)))))) := by
  refine (zv_in c42_2 rfl).trans ?_
  refine (zv_an c42_3 rfl).trans ?_
  refine (zv_gR c42_4 zf5_0).trans (zgR_c fun x1 => ?_)
  refine (zv_al2 c42_7).trans (zal_c fun x2 => ?_)
  refine (zv_icge c42_8).trans (zif_c ?_ ?_)
  · refine (zv_an c42_11 rfl).trans ?_
    refine (zv_gR c42_12 zf5_0).trans (zgR_c fun x3 => ?_)
    refine (zv_in c42_15 rfl).trans ?_
    refine (zv_aI c42_16).trans (zaI_c fun x4 => ?_)
    refine (zv_is c42_17 rfl).trans ?_
    refine (zv_il c42_19 rfl).trans ?_
    refine (zv_in c42_21 rfl).trans ?_
    refine (zv_iclt c42_22).trans (zif_c ?_ ?_)
    · refine (zv_k (v := 0) c42_36 (by decide)).trans ?_
      rfl
    · refine (zv_il c42_25 rfl).trans ?_
      refine (zv_bi (v := 100) c42_27 (by decide)).trans ?_
      refine (zv_icge c42_29).trans (zif_c ?_ ?_)
      · refine (zv_k (v := 1) c42_32 (by decide)).trans ?_
        refine (zv_goto c42_33).trans ?_
        rfl
      · refine (zv_k (v := 0) c42_36 (by decide)).trans ?_
        rfl
  · refine (zv_an c42_86 rfl).trans ?_
    refine (zv_gR c42_87 zf5_2).trans (zgR_c fun x5 => ?_)
    refine (zv_viI c42_90 zcn_14 rfl zL_14 (Or.inl zrt_14) rfl rfl).trans (zvr_c (zcI_c fun x7 h6 => ?_))
    refine (zv_k (v := 1) c42_93 (by decide)).trans ?_
    refine (zv_isub c42_94).trans ?_
    refine (zv_it c42_95 rfl).trans ?_
    rfl
set_option maxRecDepth 100000 in
theorem b42_37 (l0 : Option Nat) (l1 : Int32) (l2 : Int32) (l3 : Int32) (l4 : Int32) (l5 : Option zV) (l6 : Option zV) (s0 : Int32) (h : zH) : zev 42 37 [some (vR l0), some (vI l1), some (vI l2), some (vI l3), some (vI l4), l5, l6] [vI s0] h = (if l4 < (100 + l2) then zev 42 61 [some (vR l0), some (vI l1), some (vI l2), some (vI l3), some (vI l4), some (vI s0), l6] [vI 0] h else (if l4 < 200 then zev 42 61 [some (vR l0), some (vI l1), some (vI l2), some (vI l3), some (vI l4), some (vI s0), l6] [vI 1] h else zev 42 61 [some (vR l0), some (vI l1), some (vI l2), some (vI l3), some (vI l4), some (vI s0), l6] [vI 0] h)) := by
  refine (zv_is c42_37 rfl).trans ?_
  refine (zv_il c42_39 rfl).trans ?_
  refine (zv_bi (v := 100) c42_41 (by decide)).trans ?_
  refine (zv_in c42_43 rfl).trans ?_
  refine (zv_iadd c42_44).trans ?_
  refine (zv_iclt c42_45).trans (zif_c ?_ ?_)
  · refine (zv_k (v := 0) c42_60 (by decide)).trans ?_
    rfl
  · refine (zv_il c42_48 rfl).trans ?_
    refine (zv_si (v := 200) c42_50 (by decide)).trans ?_
    refine (zv_icge c42_53).trans (zif_c ?_ ?_)
    · refine (zv_k (v := 1) c42_56 (by decide)).trans ?_
      refine (zv_goto c42_57).trans ?_
      rfl
    · refine (zv_k (v := 0) c42_60 (by decide)).trans ?_
      rfl
set_option maxRecDepth 100000 in
theorem b42_61 (l0 : Option Nat) (l1 : Int32) (l2 : Int32) (l3 : Int32) (l4 : Int32) (l5 : Int32) (l6 : Option zV) (s0 : Int32) (h : zH) : zev 42 61 [some (vR l0), some (vI l1), some (vI l2), some (vI l3), some (vI l4), some (vI l5), l6] [vI s0] h = (if l5 = 0 then (if s0 = 0 then zev 42 2 [some (vR l0), some (vI l1), some (vI l2), some (vI (l3 + 1)), some (vI l4), some (vI l5), some (vI s0)] [] h else (zgR h l0 5 0 fun x1 => (ztI h x1 l3 (-1) fun h2 => zev 42 2 [some (vR l0), some (vI l1), some (vI l2), some (vI (l3 + 1)), some (vI l4), some (vI l5), some (vI s0)] [] h2))) else (zgR h l0 5 0 fun x3 => (ztI h x3 l3 (-1) fun h4 => zev 42 2 [some (vR l0), some (vI l1), some (vI l2), some (vI (l3 + 1)), some (vI l4), some (vI l5), some (vI s0)] [] h4))) := by
  refine (zv_is c42_61 rfl).trans ?_
  refine (zv_il c42_63 rfl).trans ?_
  refine (zv_ifne c42_65).trans (zif_c ?_ ?_)
  · refine (zv_il c42_68 rfl).trans ?_
    refine (zv_ifeq c42_70).trans (zif_c ?_ ?_)
    · refine (zv_inc (y := 1) c42_80 rfl (by decide) rfl).trans ?_
      refine (zv_goto c42_83).trans ?_
      rfl
    · refine (zv_an c42_73 rfl).trans ?_
      refine (zv_gR c42_74 zf5_0).trans (zgR_c fun x1 => ?_)
      refine (zv_in c42_77 rfl).trans ?_
      refine (zv_k (v := -1) c42_78 (by decide)).trans ?_
      refine (zv_tI c42_79).trans (ztI_c fun h2 => ?_)
      refine (zv_inc (y := 1) c42_80 rfl (by decide) rfl).trans ?_
      refine (zv_goto c42_83).trans ?_
      rfl
  · refine (zv_an c42_73 rfl).trans ?_
    refine (zv_gR c42_74 zf5_0).trans (zgR_c fun x3 => ?_)
    refine (zv_in c42_77 rfl).trans ?_
    refine (zv_k (v := -1) c42_78 (by decide)).trans ?_
    refine (zv_tI c42_79).trans (ztI_c fun h4 => ?_)
    refine (zv_inc (y := 1) c42_80 rfl (by decide) rfl).trans ?_
    refine (zv_goto c42_83).trans ?_
    rfl
set_option maxRecDepth 100000 in
theorem b42_96 (l0 : Option Nat) (l1 : Int32) (l2 : Int32) (l3 : Int32) (l4 : Option zV) (l5 : Option zV) (l6 : Option zV) (h : zH) : zev 42 96 [some (vR l0), some (vI l1), some (vI l2), some (vI l3), l4, l5, l6] [] h = (if l3 < l1 then (zpI h l0 5 3 l2 fun h1 => some (none, h1)) else (if l3 < 0 then (zpI h l0 5 3 l2 fun h2 => some (none, h2)) else (zgR h l0 5 2 fun x3 => (zvr h x3 0 (zcR 43 [vR x3, vI l3] h fun x5 h4 => zev 42 96 [some (vR l0), some (vI l1), some (vI l2), some (vI (l3 + (-1))), l4, l5, l6] [] h4))))) := by
  refine (zv_in c42_96 rfl).trans ?_
  refine (zv_in c42_97 rfl).trans ?_
  refine (zv_iclt c42_98).trans (zif_c ?_ ?_)
  · refine (zv_an c42_120 rfl).trans ?_
    refine (zv_in c42_121 rfl).trans ?_
    refine (zv_pI c42_122 zf5_3).trans (zpI_c fun h1 => ?_)
    exact zv_vr c42_125 zrt_42
  · refine (zv_in c42_101 rfl).trans ?_
    refine (zv_iflt c42_102).trans (zif_c ?_ ?_)
    · refine (zv_an c42_120 rfl).trans ?_
      refine (zv_in c42_121 rfl).trans ?_
      refine (zv_pI c42_122 zf5_3).trans (zpI_c fun h2 => ?_)
      exact zv_vr c42_125 zrt_42
    · refine (zv_an c42_105 rfl).trans ?_
      refine (zv_gR c42_106 zf5_2).trans (zgR_c fun x3 => ?_)
      refine (zv_in c42_109 rfl).trans ?_
      refine (zv_viR c42_110 zcn_43 rfl zL_43 zrt_43 rfl rfl).trans (zvr_c (zcR_c fun x5 h4 => ?_))
      refine (zv_pop c42_113 rfl).trans ?_
      refine (zv_inc (y := -1) c42_114 rfl (by decide) rfl).trans ?_
      refine (zv_goto c42_117).trans ?_
      rfl
theorem c43_0 : zcod 43 0 = some (.iload_n 1, 1, 0, 0, 0, 0) := by decide +kernel
theorem c43_1 : zcod 43 1 = some (.aload_n 0, 1, 0, 0, 0, 0) := by decide +kernel
theorem c43_2 : zcod 43 2 = some (.getfield 48, 3, 0, 2, 130, 0) := by decide +kernel
theorem c43_5 : zcod 43 5 = some (.invokestatic 118, 3, 44, 2, 473, 0) := by decide +kernel
theorem c43_8 : zcod 43 8 = some (.pop, 1, 0, 0, 0, 0) := by decide +kernel
theorem c43_9 : zcod 43 9 = some (.aload_n 0, 1, 0, 0, 0, 0) := by decide +kernel
theorem c43_10 : zcod 43 10 = some (.getfield 9, 3, 0, 1, 129, 0) := by decide +kernel
theorem c43_13 : zcod 43 13 = some (.astore_n 2, 1, 0, 0, 0, 0) := by decide +kernel
theorem c43_14 : zcod 43 14 = some (.aload_n 2, 1, 0, 0, 0, 0) := by decide +kernel
theorem c43_15 : zcod 43 15 = some (.iload_n 1, 1, 0, 0, 0, 0) := by decide +kernel
theorem c43_16 : zcod 43 16 = some (.aaload, 1, 0, 0, 0, 0) := by decide +kernel
theorem c43_17 : zcod 43 17 = some (.astore_n 3, 1, 0, 0, 0, 0) := by decide +kernel
theorem c43_18 : zcod 43 18 = some (.aload_n 0, 1, 0, 0, 0, 0) := by decide +kernel
theorem c43_19 : zcod 43 19 = some (.aload_n 2, 1, 0, 0, 0, 0) := by decide +kernel
theorem c43_20 : zcod 43 20 = some (.iload_n 1, 1, 0, 0, 0, 0) := by decide +kernel
theorem c43_21 : zcod 43 21 = some (.invokevirtual 144, 3, 46, 2, 479, 0) := by decide +kernel
theorem c43_24 : zcod 43 24 = some (.aload_n 3, 1, 0, 0, 0, 0) := by decide +kernel
theorem c43_25 : zcod 43 25 = some (.areturn, 1, 0, 0, 0, 0) := by decide +kernel
set_option maxRecDepth 100000 in
theorem b43_0 (l0 : Option Nat) (l1 : Int32) (h : zH) : zev 43 0 [some (vR l0), some (vI l1), none, none] [] h = (zgI h l0 0 2 fun x1 => (zcI 44 [vI l1, vI x1] h fun x3 h2 => (zgR h2 l0 0 1 fun x4 => (zaR h2 x4 l1 fun x5 => (zvr h2 l0 0 (zcV 46 [vR l0, vR x4, vI l1] h2 fun h6 => some (some (vR x5), h6))))))) := by
  refine (zv_in c43_0 rfl).trans ?_
  refine (zv_an c43_1 rfl).trans ?_
  refine (zv_gI c43_2 zg0_2).trans (zgI_c fun x1 => ?_)
  refine (zv_stI c43_5 (by decide) rfl zL_44 (Or.inl zrt_44) rfl rfl).trans (zcI_c fun x3 h2 => ?_)
  refine (zv_pop c43_8 rfl).trans ?_
  refine (zv_an c43_9 rfl).trans ?_
  refine (zv_gR c43_10 zf0_1).trans (zgR_c fun x4 => ?_)
  refine (zv_at c43_13 rfl).trans ?_
  refine (zv_an c43_14 rfl).trans ?_
  refine (zv_in c43_15 rfl).trans ?_
  refine (zv_aR c43_16).trans (zaR_c fun x5 => ?_)
  refine (zv_at c43_17 rfl).trans ?_
  refine (zv_an c43_18 rfl).trans ?_
  refine (zv_an c43_19 rfl).trans ?_
  refine (zv_in c43_20 rfl).trans ?_
  refine (zv_viV c43_21 zcn_46 rfl zL_46 zrt_46 rfl rfl).trans (zvr_c (zcV_c fun h6 => ?_))
  refine (zv_an c43_24 rfl).trans ?_
  exact zv_ar c43_25 zrt_43
theorem e43 (l0 : Option Nat) (l1 : Int32) (h : zH) : zcall 43 [vR l0, vI l1] h = (zgI h l0 0 2 fun x1 => (zcI 44 [vI l1, vI x1] h fun x3 h2 => (zgR h2 l0 0 1 fun x4 => (zaR h2 x4 l1 fun x5 => (zvr h2 l0 0 (zcV 46 [vR l0, vR x4, vI l1] h2 fun h6 => some (some (vR x5), h6))))))) := by
  refine Eq.trans ?_ (b43_0 l0 l1 h)
  unfold zcall zent
  rw [zL_43]
  rfl
theorem c44_0 : zcod 44 0 = some (.iload_n 0, 1, 0, 0, 0, 0) := by decide +kernel
theorem c44_1 : zcod 44 1 = some (.iload_n 1, 1, 0, 0, 0, 0) := by decide +kernel
theorem c44_2 : zcod 44 2 = some (.aconst_null, 1, 0, 0, 0, 0) := by decide +kernel
theorem c44_3 : zcod 44 3 = some (.invokestatic 105, 3, 45, 3, 476, 0) := by decide +kernel
theorem c44_6 : zcod 44 6 = some (.ireturn, 1, 0, 0, 0, 0) := by decide +kernel
set_option maxRecDepth 100000 in
theorem b44_0 (l0 : Int32) (l1 : Int32) (h : zH) : zev 44 0 [some (vI l0), some (vI l1)] [] h = (zcI 45 [vI l0, vI l1, vR none] h fun x2 h1 => some (some (vI x2), h1)) := by
  refine (zv_in c44_0 rfl).trans ?_
  refine (zv_in c44_1 rfl).trans ?_
  refine (zv_null c44_2).trans ?_
  refine (zv_stI c44_3 (by decide) rfl zL_45 (Or.inl zrt_45) rfl rfl).trans (zcI_c fun x2 h1 => ?_)
  exact zv_ir c44_6 zrt_44
theorem e44 (l0 : Int32) (l1 : Int32) (h : zH) : zcall 44 [vI l0, vI l1] h = (zcI 45 [vI l0, vI l1, vR none] h fun x2 h1 => some (some (vI x2), h1)) := by
  refine Eq.trans ?_ (b44_0 l0 l1 h)
  unfold zcall zent
  rw [zL_44]
  rfl
theorem c45_0 : zcod 45 0 = some (.iload_n 0, 1, 0, 0, 0, 0) := by decide +kernel
theorem c45_1 : zcod 45 1 = some (.ifCond .lt 8, 3, 9, 0, 0, 0) := by decide +kernel
theorem c45_4 : zcod 45 4 = some (.iload_n 0, 1, 0, 0, 0, 0) := by decide +kernel
theorem c45_5 : zcod 45 5 = some (.iload_n 1, 1, 0, 0, 0, 0) := by decide +kernel
theorem c45_6 : zcod 45 6 = some (.if_icmp .lt 10, 3, 16, 0, 0, 0) := by decide +kernel
theorem c45_9 : zcod 45 9 = some (.aload_n 2, 1, 0, 0, 0, 0) := by decide +kernel
theorem c45_10 : zcod 45 10 = some (.iload_n 0, 1, 0, 0, 0, 0) := by decide +kernel
theorem c45_11 : zcod 45 11 = some (.iload_n 1, 1, 0, 0, 0, 0) := by decide +kernel
theorem c45_16 : zcod 45 16 = some (.iload_n 0, 1, 0, 0, 0, 0) := by decide +kernel
theorem c45_17 : zcod 45 17 = some (.ireturn, 1, 0, 0, 0, 0) := by decide +kernel
set_option maxRecDepth 100000 in
theorem b45_0 (l0 : Int32) (l1 : Int32) (l2 : Option Nat) (h : zH) : zev 45 0 [some (vI l0), some (vI l1), some (vR l2)] [] h = (if l0 < 0 then none else (if l0 < l1 then some (some (vI l0), h) else none)) := by
  refine (zv_in c45_0 rfl).trans ?_
  refine (zv_iflt c45_1).trans (zif_c ?_ ?_)
  · refine (zv_an c45_9 rfl).trans ?_
    refine (zv_in c45_10 rfl).trans ?_
    refine (zv_in c45_11 rfl).trans ?_
    exact zv_x (by decide +kernel)
  · refine (zv_in c45_4 rfl).trans ?_
    refine (zv_in c45_5 rfl).trans ?_
    refine (zv_iclt c45_6).trans (zif_c ?_ ?_)
    · refine (zv_in c45_16 rfl).trans ?_
      exact zv_ir c45_17 zrt_45
    · refine (zv_an c45_9 rfl).trans ?_
      refine (zv_in c45_10 rfl).trans ?_
      refine (zv_in c45_11 rfl).trans ?_
      exact zv_x (by decide +kernel)
theorem e45 (l0 : Int32) (l1 : Int32) (l2 : Option Nat) (h : zH) : zcall 45 [vI l0, vI l1, vR l2] h = (if l0 < 0 then none else (if l0 < l1 then some (some (vI l0), h) else none)) := by
  refine Eq.trans ?_ (b45_0 l0 l1 l2 h)
  unfold zcall zent
  rw [zL_45]
  rfl
theorem c46_0 : zcod 46 0 = some (.aload_n 0, 1, 0, 0, 0, 0) := by decide +kernel
theorem c46_1 : zcod 46 1 = some (.dup, 1, 0, 0, 0, 0) := by decide +kernel
theorem c46_2 : zcod 46 2 = some (.getfield 63, 3, 0, 0, 132, 1) := by decide +kernel
theorem c46_5 : zcod 46 5 = some (.iconst 1, 1, 0, 0, 0, 0) := by decide +kernel
theorem c46_6 : zcod 46 6 = some (.iadd, 1, 0, 0, 0, 0) := by decide +kernel
theorem c46_7 : zcod 46 7 = some (.putfield 63, 3, 0, 0, 132, 1) := by decide +kernel
theorem c46_10 : zcod 46 10 = some (.aload_n 0, 1, 0, 0, 0, 0) := by decide +kernel
theorem c46_11 : zcod 46 11 = some (.getfield 48, 3, 0, 2, 130, 0) := by decide +kernel
theorem c46_14 : zcod 46 14 = some (.iconst 1, 1, 0, 0, 0, 0) := by decide +kernel
theorem c46_15 : zcod 46 15 = some (.isub, 1, 0, 0, 0, 0) := by decide +kernel
theorem c46_16 : zcod 46 16 = some (.dup, 1, 0, 0, 0, 0) := by decide +kernel
theorem c46_17 : zcod 46 17 = some (.istore_n 3, 1, 0, 0, 0, 0) := by decide +kernel
theorem c46_18 : zcod 46 18 = some (.iload_n 2, 1, 0, 0, 0, 0) := by decide +kernel
theorem c46_19 : zcod 46 19 = some (.if_icmp .le 15, 3, 34, 0, 0, 0) := by decide +kernel
theorem c46_22 : zcod 46 22 = some (.aload_n 1, 1, 0, 0, 0, 0) := by decide +kernel
theorem c46_23 : zcod 46 23 = some (.iload_n 2, 1, 0, 0, 0, 0) := by decide +kernel
theorem c46_24 : zcod 46 24 = some (.iconst 1, 1, 0, 0, 0, 0) := by decide +kernel
theorem c46_25 : zcod 46 25 = some (.iadd, 1, 0, 0, 0, 0) := by decide +kernel
theorem c46_26 : zcod 46 26 = some (.aload_n 1, 1, 0, 0, 0, 0) := by decide +kernel
theorem c46_27 : zcod 46 27 = some (.iload_n 2, 1, 0, 0, 0, 0) := by decide +kernel
theorem c46_28 : zcod 46 28 = some (.iload_n 3, 1, 0, 0, 0, 0) := by decide +kernel
theorem c46_29 : zcod 46 29 = some (.iload_n 2, 1, 0, 0, 0, 0) := by decide +kernel
theorem c46_30 : zcod 46 30 = some (.isub, 1, 0, 0, 0, 0) := by decide +kernel
theorem c46_31 : zcod 46 31 = some (.invokestatic 112, 3, 1000, 5, 483, 0) := by decide +kernel
theorem c46_34 : zcod 46 34 = some (.aload_n 1, 1, 0, 0, 0, 0) := by decide +kernel
theorem c46_35 : zcod 46 35 = some (.aload_n 0, 1, 0, 0, 0, 0) := by decide +kernel
theorem c46_36 : zcod 46 36 = some (.iload_n 3, 1, 0, 0, 0, 0) := by decide +kernel
theorem c46_37 : zcod 46 37 = some (.dup_x1, 1, 0, 0, 0, 0) := by decide +kernel
theorem c46_38 : zcod 46 38 = some (.putfield 48, 3, 0, 2, 130, 0) := by decide +kernel
theorem c46_41 : zcod 46 41 = some (.aconst_null, 1, 0, 0, 0, 0) := by decide +kernel
theorem c46_42 : zcod 46 42 = some (.aastore, 1, 0, 0, 0, 0) := by decide +kernel
theorem c46_43 : zcod 46 43 = some (.return_, 1, 0, 0, 0, 0) := by decide +kernel
set_option maxRecDepth 100000 in
theorem b46_0 (l0 : Option Nat) (l1 : Option Nat) (l2 : Int32) (h : zH) : zev 46 0 [some (vR l0), some (vR l1), some (vI l2), none] [] h = (zgI h l0 0 0 fun x1 => (zpI h l0 0 0 (x1 + 1) fun h2 => (zgI h2 l0 0 2 fun x3 => (if l2 < (x3 - 1) then (zcM h2 l1 (l2 + 1) l1 l2 ((x3 - 1) - l2) fun h4 => (zpI h4 l0 0 2 (x3 - 1) fun h5 => (ztR h5 l1 (x3 - 1) none fun h6 => some (none, h6)))) else (zpI h2 l0 0 2 (x3 - 1) fun h7 => (ztR h7 l1 (x3 - 1) none fun h8 => some (none, h8))))))) := by
  refine (zv_an c46_0 rfl).trans ?_
  refine (zv_dup c46_1 rfl).trans ?_
  refine (zv_gI c46_2 zg0_0).trans (zgI_c fun x1 => ?_)
  refine (zv_k (v := 1) c46_5 (by decide)).trans ?_
  refine (zv_iadd c46_6).trans ?_
  refine (zv_pI c46_7 zf0_0).trans (zpI_c fun h2 => ?_)
  refine (zv_an c46_10 rfl).trans ?_
  refine (zv_gI c46_11 zg0_2).trans (zgI_c fun x3 => ?_)
  refine (zv_k (v := 1) c46_14 (by decide)).trans ?_
  refine (zv_isub c46_15).trans ?_
  refine (zv_dup c46_16 rfl).trans ?_
  refine (zv_it c46_17 rfl).trans ?_
  refine (zv_in c46_18 rfl).trans ?_
  refine (zv_icle c46_19).trans (zif_c ?_ ?_)
  · refine (zv_an c46_22 rfl).trans ?_
    refine (zv_in c46_23 rfl).trans ?_
    refine (zv_k (v := 1) c46_24 (by decide)).trans ?_
    refine (zv_iadd c46_25).trans ?_
    refine (zv_an c46_26 rfl).trans ?_
    refine (zv_in c46_27 rfl).trans ?_
    refine (zv_in c46_28 rfl).trans ?_
    refine (zv_in c46_29 rfl).trans ?_
    refine (zv_isub c46_30).trans ?_
    refine (zv_cM c46_31 (zle rfl)).trans (zcM_c fun h4 => ?_)
    refine (zv_an c46_34 rfl).trans ?_
    refine (zv_an c46_35 rfl).trans ?_
    refine (zv_in c46_36 rfl).trans ?_
    refine (zv_dx1 c46_37 rfl rfl).trans ?_
    refine (zv_pI c46_38 zf0_2).trans (zpI_c fun h5 => ?_)
    refine (zv_null c46_41).trans ?_
    refine (zv_tR c46_42).trans (ztR_c fun h6 => ?_)
    exact zv_vr c46_43 zrt_46
  · refine (zv_an c46_34 rfl).trans ?_
    refine (zv_an c46_35 rfl).trans ?_
    refine (zv_in c46_36 rfl).trans ?_
    refine (zv_dx1 c46_37 rfl rfl).trans ?_
    refine (zv_pI c46_38 zf0_2).trans (zpI_c fun h7 => ?_)
    refine (zv_null c46_41).trans ?_
    refine (zv_tR c46_42).trans (ztR_c fun h8 => ?_)
    exact zv_vr c46_43 zrt_46
theorem e46 (l0 : Option Nat) (l1 : Option Nat) (l2 : Int32) (h : zH) : zcall 46 [vR l0, vR l1, vI l2] h = (zgI h l0 0 0 fun x1 => (zpI h l0 0 0 (x1 + 1) fun h2 => (zgI h2 l0 0 2 fun x3 => (if l2 < (x3 - 1) then (zcM h2 l1 (l2 + 1) l1 l2 ((x3 - 1) - l2) fun h4 => (zpI h4 l0 0 2 (x3 - 1) fun h5 => (ztR h5 l1 (x3 - 1) none fun h6 => some (none, h6)))) else (zpI h2 l0 0 2 (x3 - 1) fun h7 => (ztR h7 l1 (x3 - 1) none fun h8 => some (none, h8))))))) := by
  refine Eq.trans ?_ (b46_0 l0 l1 l2 h)
  unfold zcall zent
  rw [zL_46]
  rfl
theorem c47_0 : zcod 47 0 = some (.aload_n 0, 1, 0, 0, 0, 0) := by decide +kernel
theorem c47_1 : zcod 47 1 = some (.getfield 12, 3, 8, 0, 219, 0) := by decide +kernel
theorem c47_4 : zcod 47 4 = some (.getfield 51, 3, 6, 3, 85, 0) := by decide +kernel
theorem c47_7 : zcod 47 7 = some (.ireturn, 1, 0, 0, 0, 0) := by decide +kernel
set_option maxRecDepth 100000 in
theorem b47_0 (l0 : Option Nat) (h : zH) : zev 47 0 [some (vR l0)] [] h = (zgR h l0 8 0 fun x1 => (zgI h x1 6 3 fun x2 => some (some (vI x2), h))) := by
  refine (zv_an c47_0 rfl).trans ?_
  refine (zv_gR c47_1 zf8_0).trans (zgR_c fun x1 => ?_)
  refine (zv_gI c47_4 zg6_3).trans (zgI_c fun x2 => ?_)
  exact zv_ir c47_7 zrt_47
theorem e47 (l0 : Option Nat) (h : zH) : zcall 47 [vR l0] h = (zgR h l0 8 0 fun x1 => (zgI h x1 6 3 fun x2 => some (some (vI x2), h))) := by
  refine Eq.trans ?_ (b47_0 l0 h)
  unfold zcall zent
  rw [zL_47]
  rfl
theorem c48_0 : zcod 48 0 = some (.iload_n 1, 1, 0, 0, 0, 0) := by decide +kernel
theorem c48_1 : zcod 48 1 = some (.iload_n 2, 1, 0, 0, 0, 0) := by decide +kernel
theorem c48_2 : zcod 48 2 = some (.invokestatic 54, 3, 26, 2, 493, 0) := by decide +kernel
theorem c48_5 : zcod 48 5 = some (.ifCond .eq 18, 3, 23, 0, 0, 0) := by decide +kernel
theorem c48_8 : zcod 48 8 = some (.aload_n 0, 1, 0, 0, 0, 0) := by decide +kernel
theorem c48_9 : zcod 48 9 = some (.getfield 19, 3, 8, 1, 220, 0) := by decide +kernel
theorem c48_12 : zcod 48 12 = some (.getfield 31, 3, 3, 0, 183, 0) := by decide +kernel
theorem c48_15 : zcod 48 15 = some (.iload_n 1, 1, 0, 0, 0, 0) := by decide +kernel
theorem c48_16 : zcod 48 16 = some (.iload_n 2, 1, 0, 0, 0, 0) := by decide +kernel
theorem c48_17 : zcod 48 17 = some (.invokevirtual 58, 3, 25, 2, 494, 0) := by decide +kernel
theorem c48_20 : zcod 48 20 = some (.goto 6, 3, 26, 0, 0, 0) := by decide +kernel
theorem c48_23 : zcod 48 23 = some (.sipush (-1002), 3, 0, 0, 0, 0) := by decide +kernel
theorem c48_26 : zcod 48 26 = some (.ireturn, 1, 0, 0, 0, 0) := by decide +kernel
set_option maxRecDepth 100000 in
theorem b48_0 (l0 : Option Nat) (l1 : Int32) (l2 : Int32) (h : zH) : zev 48 0 [some (vR l0), some (vI l1), some (vI l2)] [] h = (zcI 26 [vI l1, vI l2] h fun x2 h1 => (if x2 = 0 then some (some (vI (-1002)), h1) else (zgR h1 l0 8 1 fun x3 => (zgR h1 x3 3 0 fun x4 => (zvr h1 x4 5 (zcI 25 [vR x4, vI l1, vI l2] h1 fun x6 h5 => some (some (vI x6), h5))))))) := by
  refine (zv_in c48_0 rfl).trans ?_
  refine (zv_in c48_1 rfl).trans ?_
  refine (zv_stI c48_2 (by decide) rfl zL_26 (Or.inr zrt_26) rfl rfl).trans (zcI_c fun x2 h1 => ?_)
  refine (zv_ifeq c48_5).trans (zif_c ?_ ?_)
  · refine (zv_si (v := -1002) c48_23 (by decide)).trans ?_
    exact zv_ir c48_26 zrt_48
  · refine (zv_an c48_8 rfl).trans ?_
    refine (zv_gR c48_9 zf8_1).trans (zgR_c fun x3 => ?_)
    refine (zv_gR c48_12 zf3_0).trans (zgR_c fun x4 => ?_)
    refine (zv_in c48_15 rfl).trans ?_
    refine (zv_in c48_16 rfl).trans ?_
    refine (zv_viI c48_17 zcn_25 rfl zL_25 (Or.inl zrt_25) rfl rfl).trans (zvr_c (zcI_c fun x6 h5 => ?_))
    refine (zv_goto c48_20).trans ?_
    exact zv_ir c48_26 zrt_48
theorem e48 (l0 : Option Nat) (l1 : Int32) (l2 : Int32) (h : zH) : zcall 48 [vR l0, vI l1, vI l2] h = (zcI 26 [vI l1, vI l2] h fun x2 h1 => (if x2 = 0 then some (some (vI (-1002)), h1) else (zgR h1 l0 8 1 fun x3 => (zgR h1 x3 3 0 fun x4 => (zvr h1 x4 5 (zcI 25 [vR x4, vI l1, vI l2] h1 fun x6 h5 => some (some (vI x6), h5))))))) := by
  refine Eq.trans ?_ (b48_0 l0 l1 l2 h)
  unfold zcall zent
  rw [zL_48]
  rfl
theorem c49_0 : zcod 49 0 = some (.aload_n 0, 1, 0, 0, 0, 0) := by decide +kernel
theorem c49_1 : zcod 49 1 = some (.getfield 19, 3, 8, 1, 220, 0) := by decide +kernel
theorem c49_4 : zcod 49 4 = some (.getfield 31, 3, 3, 0, 183, 0) := by decide +kernel
theorem c49_7 : zcod 49 7 = some (.iload_n 1, 1, 0, 0, 0, 0) := by decide +kernel
theorem c49_8 : zcod 49 8 = some (.invokevirtual 62, 3, 50, 1, 499, 0) := by decide +kernel
theorem c49_11 : zcod 49 11 = some (.astore_n 3, 1, 0, 0, 0, 0) := by decide +kernel
theorem c49_12 : zcod 49 12 = some (.aload_n 3, 1, 0, 0, 0, 0) := by decide +kernel
theorem c49_13 : zcod 49 13 = some (.ifnonnull 7, 3, 20, 0, 0, 0) := by decide +kernel
theorem c49_16 : zcod 49 16 = some (.sipush (-1001), 3, 0, 0, 0, 0) := by decide +kernel
theorem c49_19 : zcod 49 19 = some (.ireturn, 1, 0, 0, 0, 0) := by decide +kernel
theorem c49_20 : zcod 49 20 = some (.iload_n 2, 1, 0, 0, 0, 0) := by decide +kernel
theorem c49_21 : zcod 49 21 = some (.tableswitch 150 0 9 #[55, 60, 65, 78, 90, 106, 111, 127, 132, 145], 55, 0, 0, 0, 0) := by decide +kernel
theorem c49_76 : zcod 49 76 = some (.aload_n 3, 1, 0, 0, 0, 0) := by decide +kernel
theorem c49_77 : zcod 49 77 = some (.invokevirtual 66, 3, 53, 0, 511, 0) := by decide +kernel
theorem c49_80 : zcod 49 80 = some (.ireturn, 1, 0, 0, 0, 0) := by decide +kernel
theorem c49_81 : zcod 49 81 = some (.aload_n 3, 1, 0, 0, 0, 0) := by decide +kernel
theorem c49_82 : zcod 49 82 = some (.getfield 71, 3, 2, 7, 327, 0) := by decide +kernel
theorem c49_85 : zcod 49 85 = some (.ireturn, 1, 0, 0, 0, 0) := by decide +kernel
theorem c49_86 : zcod 49 86 = some (.aload_n 3, 1, 0, 0, 0, 0) := by decide +kernel
theorem c49_87 : zcod 49 87 = some (.getfield 74, 3, 2, 4, 320, 0) := by decide +kernel
theorem c49_90 : zcod 49 90 = some (.ifCond .eq 7, 3, 97, 0, 0, 0) := by decide +kernel
theorem c49_93 : zcod 49 93 = some (.iconst 1, 1, 0, 0, 0, 0) := by decide +kernel
theorem c49_94 : zcod 49 94 = some (.goto 4, 3, 98, 0, 0, 0) := by decide +kernel
theorem c49_97 : zcod 49 97 = some (.iconst 0, 1, 0, 0, 0, 0) := by decide +kernel
theorem c49_98 : zcod 49 98 = some (.ireturn, 1, 0, 0, 0, 0) := by decide +kernel
theorem c49_99 : zcod 49 99 = some (.aload_n 0, 1, 0, 0, 0, 0) := by decide +kernel
theorem c49_100 : zcod 49 100 = some (.getfield 19, 3, 8, 1, 220, 0) := by decide +kernel
theorem c49_103 : zcod 49 103 = some (.getfield 31, 3, 3, 0, 183, 0) := by decide +kernel
theorem c49_106 : zcod 49 106 = some (.aload_n 3, 1, 0, 0, 0, 0) := by decide +kernel
theorem c49_107 : zcod 49 107 = some (.invokevirtual 78, 3, 54, 1, 515, 0) := by decide +kernel
theorem c49_110 : zcod 49 110 = some (.ireturn, 1, 0, 0, 0, 0) := by decide +kernel
theorem c49_111 : zcod 49 111 = some (.aload_n 3, 1, 0, 0, 0, 0) := by decide +kernel
theorem c49_112 : zcod 49 112 = some (.getfield 82, 3, 2, 10, 334, 0) := by decide +kernel
theorem c49_115 : zcod 49 115 = some (.ifCond .eq 10, 3, 125, 0, 0, 0) := by decide +kernel
theorem c49_118 : zcod 49 118 = some (.aload_n 3, 1, 0, 0, 0, 0) := by decide +kernel
theorem c49_119 : zcod 49 119 = some (.getfield 71, 3, 2, 7, 327, 0) := by decide +kernel
theorem c49_122 : zcod 49 122 = some (.goto 4, 3, 126, 0, 0, 0) := by decide +kernel
theorem c49_125 : zcod 49 125 = some (.iconst (-1), 1, 0, 0, 0, 0) := by decide +kernel
theorem c49_126 : zcod 49 126 = some (.ireturn, 1, 0, 0, 0, 0) := by decide +kernel
theorem c49_127 : zcod 49 127 = some (.aload_n 3, 1, 0, 0, 0, 0) := by decide +kernel
theorem c49_128 : zcod 49 128 = some (.getfield 85, 3, 2, 11, 337, 0) := by decide +kernel
theorem c49_131 : zcod 49 131 = some (.ireturn, 1, 0, 0, 0, 0) := by decide +kernel
theorem c49_132 : zcod 49 132 = some (.aload_n 3, 1, 0, 0, 0, 0) := by decide +kernel
theorem c49_133 : zcod 49 133 = some (.getfield 88, 3, 2, 12, 341, 0) := by decide +kernel
theorem c49_136 : zcod 49 136 = some (.ifCond .le 10, 3, 146, 0, 0, 0) := by decide +kernel
theorem c49_139 : zcod 49 139 = some (.aload_n 3, 1, 0, 0, 0, 0) := by decide +kernel
theorem c49_140 : zcod 49 140 = some (.getfield 91, 3, 2, 14, 345, 0) := by decide +kernel
theorem c49_143 : zcod 49 143 = some (.goto 4, 3, 147, 0, 0, 0) := by decide +kernel
theorem c49_146 : zcod 49 146 = some (.iconst (-1), 1, 0, 0, 0, 0) := by decide +kernel
theorem c49_147 : zcod 49 147 = some (.ireturn, 1, 0, 0, 0, 0) := by decide +kernel
theorem c49_148 : zcod 49 148 = some (.aload_n 3, 1, 0, 0, 0, 0) := by decide +kernel
theorem c49_149 : zcod 49 149 = some (.getfield 94, 3, 2, 15, 347, 0) := by decide +kernel
theorem c49_152 : zcod 49 152 = some (.ireturn, 1, 0, 0, 0, 0) := by decide +kernel
theorem c49_153 : zcod 49 153 = some (.aload_n 3, 1, 0, 0, 0, 0) := by decide +kernel
theorem c49_154 : zcod 49 154 = some (.getfield 97, 3, 2, 1, 313, 0) := by decide +kernel
theorem c49_157 : zcod 49 157 = some (.bipush 20, 2, 0, 0, 0, 0) := by decide +kernel
theorem c49_159 : zcod 49 159 = some (.imul, 1, 0, 0, 0, 0) := by decide +kernel
theorem c49_160 : zcod 49 160 = some (.aload_n 3, 1, 0, 0, 0, 0) := by decide +kernel
theorem c49_161 : zcod 49 161 = some (.getfield 100, 3, 2, 0, 310, 0) := by decide +kernel
theorem c49_164 : zcod 49 164 = some (.iadd, 1, 0, 0, 0, 0) := by decide +kernel
theorem c49_165 : zcod 49 165 = some (.ireturn, 1, 0, 0, 0, 0) := by decide +kernel
theorem c49_166 : zcod 49 166 = some (.aload_n 3, 1, 0, 0, 0, 0) := by decide +kernel
theorem c49_167 : zcod 49 167 = some (.getfield 103, 3, 2, 8, 331, 0) := by decide +kernel
theorem c49_170 : zcod 49 170 = some (.ireturn, 1, 0, 0, 0, 0) := by decide +kernel
theorem c49_171 : zcod 49 171 = some (.sipush (-1002), 3, 0, 0, 0, 0) := by decide +kernel
theorem c49_174 : zcod 49 174 = some (.ireturn, 1, 0, 0, 0, 0) := by decide +kernel
set_option maxRecDepth 100000 in
theorem b49_0 (l0 : Option Nat) (l1 : Int32) (l2 : Int32) (h : zH) : zev 49 0 [some (vR l0), some (vI l1), some (vI l2), none] [] h = (zgR h l0 8 1 fun x1 => (zgR h x1 3 0 fun x2 => (zvr h x2 5 (zcR 50 [vR x2, vI l1] h fun x4 h3 => (zul x4 (some (some (vI (-1001)), h3)) ((if l2 = 0 then (zvr h3 x4 2 (zcI 53 [vR x4] h3 fun x6 h5 => some (some (vI x6), h5))) else (if l2 = 1 then (zgI h3 x4 2 7 fun x7 => some (some (vI x7), h3)) else (if l2 = 2 then (zgI h3 x4 2 4 fun x8 => (if x8 = 0 then some (some (vI 0), h3) else some (some (vI 1), h3))) else (if l2 = 3 then (zgR h3 l0 8 1 fun x9 => (zgR h3 x9 3 0 fun x10 => (zvr h3 x10 5 (zcI 54 [vR x10, vR x4] h3 fun x12 h11 => some (some (vI x12), h11))))) else (if l2 = 4 then (zgI h3 x4 2 10 fun x13 => (if x13 = 0 then some (some (vI (-1)), h3) else (zgI h3 x4 2 7 fun x14 => some (some (vI x14), h3)))) else (if l2 = 5 then (zgI h3 x4 2 11 fun x15 => some (some (vI x15), h3)) else (if l2 = 6 then (zgI h3 x4 2 12 fun x16 => (if 0 < x16 then (zgI h3 x4 2 14 fun x17 => some (some (vI x17), h3)) else some (some (vI (-1)), h3))) else (if l2 = 7 then (zgI h3 x4 2 15 fun x18 => some (some (vI x18), h3)) else (if l2 = 8 then (zgI h3 x4 2 1 fun x19 => (zgI h3 x4 2 0 fun x20 => some (some (vI ((x19 * 20) + x20)), h3))) else (if l2 = 9 then (zgI h3 x4 2 8 fun x21 => some (some (vI x21), h3)) else some (some (vI (-1002)), h3))))))))))))))))) := by
  refine (zv_an c49_0 rfl).trans ?_
  refine (zv_gR c49_1 zf8_1).trans (zgR_c fun x1 => ?_)
  refine (zv_gR c49_4 zf3_0).trans (zgR_c fun x2 => ?_)
  refine (zv_in c49_7 rfl).trans ?_
  refine (zv_viR c49_8 zcn_50 rfl zL_50 zrt_50 rfl rfl).trans (zvr_c (zcR_c fun x4 h3 => ?_))
  refine (zv_at c49_11 rfl).trans ?_
  refine (zv_an c49_12 rfl).trans ?_
  refine (zv_nn c49_13).trans (zul_c ?_ ?_)
  · refine (zv_si (v := -1001) c49_16 (by decide)).trans ?_
    exact zv_ir c49_19 zrt_49
  · refine (zv_in c49_20 rfl).trans ?_
    refine (zv_ts c49_21 (dt := 171) (T := [76, 81, 86, 99, 111, 127, 132, 148, 153, 166]) (by decide) (by decide) (by decide) (by decide)).trans ?_
    refine (zsl_k (v := 0) (by decide)).trans (zif_c ?_ ?_)
    · refine (zv_an c49_76 rfl).trans ?_
      refine (zv_viI c49_77 zcn_53 rfl zL_53 (Or.inl zrt_53) rfl rfl).trans (zvr_c (zcI_c fun x6 h5 => ?_))
      exact zv_ir c49_80 zrt_49
    · refine (zsl_k (v := 1) (by decide)).trans (zif_c ?_ ?_)
      · refine (zv_an c49_81 rfl).trans ?_
        refine (zv_gI c49_82 zg2_7).trans (zgI_c fun x7 => ?_)
        exact zv_ir c49_85 zrt_49
      · refine (zsl_k (v := 2) (by decide)).trans (zif_c ?_ ?_)
        · refine (zv_an c49_86 rfl).trans ?_
          refine (zv_gI c49_87 zg2_4).trans (zgI_c fun x8 => ?_)
          refine (zv_ifeq c49_90).trans (zif_c ?_ ?_)
          · refine (zv_k (v := 0) c49_97 (by decide)).trans ?_
            exact zv_ir c49_98 zrt_49
          · refine (zv_k (v := 1) c49_93 (by decide)).trans ?_
            refine (zv_goto c49_94).trans ?_
            exact zv_ir c49_98 zrt_49
        · refine (zsl_k (v := 3) (by decide)).trans (zif_c ?_ ?_)
          · refine (zv_an c49_99 rfl).trans ?_
            refine (zv_gR c49_100 zf8_1).trans (zgR_c fun x9 => ?_)
            refine (zv_gR c49_103 zf3_0).trans (zgR_c fun x10 => ?_)
            refine (zv_an c49_106 rfl).trans ?_
            refine (zv_viI c49_107 zcn_54 rfl zL_54 (Or.inl zrt_54) rfl rfl).trans (zvr_c (zcI_c fun x12 h11 => ?_))
            exact zv_ir c49_110 zrt_49
          · refine (zsl_k (v := 4) (by decide)).trans (zif_c ?_ ?_)
            · refine (zv_an c49_111 rfl).trans ?_
              refine (zv_gI c49_112 zg2_10).trans (zgI_c fun x13 => ?_)
              refine (zv_ifeq c49_115).trans (zif_c ?_ ?_)
              · refine (zv_k (v := -1) c49_125 (by decide)).trans ?_
                exact zv_ir c49_126 zrt_49
              · refine (zv_an c49_118 rfl).trans ?_
                refine (zv_gI c49_119 zg2_7).trans (zgI_c fun x14 => ?_)
                refine (zv_goto c49_122).trans ?_
                exact zv_ir c49_126 zrt_49
            · refine (zsl_k (v := 5) (by decide)).trans (zif_c ?_ ?_)
              · refine (zv_an c49_127 rfl).trans ?_
                refine (zv_gI c49_128 zg2_11).trans (zgI_c fun x15 => ?_)
                exact zv_ir c49_131 zrt_49
              · refine (zsl_k (v := 6) (by decide)).trans (zif_c ?_ ?_)
                · refine (zv_an c49_132 rfl).trans ?_
                  refine (zv_gI c49_133 zg2_12).trans (zgI_c fun x16 => ?_)
                  refine (zv_ifle c49_136).trans (zif_c ?_ ?_)
                  · refine (zv_an c49_139 rfl).trans ?_
                    refine (zv_gI c49_140 zg2_14).trans (zgI_c fun x17 => ?_)
                    refine (zv_goto c49_143).trans ?_
                    exact zv_ir c49_147 zrt_49
                  · refine (zv_k (v := -1) c49_146 (by decide)).trans ?_
                    exact zv_ir c49_147 zrt_49
                · refine (zsl_k (v := 7) (by decide)).trans (zif_c ?_ ?_)
                  · refine (zv_an c49_148 rfl).trans ?_
                    refine (zv_gI c49_149 zg2_15).trans (zgI_c fun x18 => ?_)
                    exact zv_ir c49_152 zrt_49
                  · refine (zsl_k (v := 8) (by decide)).trans (zif_c ?_ ?_)
                    · refine (zv_an c49_153 rfl).trans ?_
                      refine (zv_gI c49_154 zg2_1).trans (zgI_c fun x19 => ?_)
                      refine (zv_bi (v := 20) c49_157 (by decide)).trans ?_
                      refine (zv_imul c49_159).trans ?_
                      refine (zv_an c49_160 rfl).trans ?_
                      refine (zv_gI c49_161 zg2_0).trans (zgI_c fun x20 => ?_)
                      refine (zv_iadd c49_164).trans ?_
                      exact zv_ir c49_165 zrt_49
                    · refine (zsl_k (v := 9) (by decide)).trans (zif_c ?_ ?_)
                      · refine (zv_an c49_166 rfl).trans ?_
                        refine (zv_gI c49_167 zg2_8).trans (zgI_c fun x21 => ?_)
                        exact zv_ir c49_170 zrt_49
                      · refine zsl_n.trans ?_
                        refine (zv_si (v := -1002) c49_171 (by decide)).trans ?_
                        exact zv_ir c49_174 zrt_49
theorem e49 (l0 : Option Nat) (l1 : Int32) (l2 : Int32) (h : zH) : zcall 49 [vR l0, vI l1, vI l2] h = (zgR h l0 8 1 fun x1 => (zgR h x1 3 0 fun x2 => (zvr h x2 5 (zcR 50 [vR x2, vI l1] h fun x4 h3 => (zul x4 (some (some (vI (-1001)), h3)) ((if l2 = 0 then (zvr h3 x4 2 (zcI 53 [vR x4] h3 fun x6 h5 => some (some (vI x6), h5))) else (if l2 = 1 then (zgI h3 x4 2 7 fun x7 => some (some (vI x7), h3)) else (if l2 = 2 then (zgI h3 x4 2 4 fun x8 => (if x8 = 0 then some (some (vI 0), h3) else some (some (vI 1), h3))) else (if l2 = 3 then (zgR h3 l0 8 1 fun x9 => (zgR h3 x9 3 0 fun x10 => (zvr h3 x10 5 (zcI 54 [vR x10, vR x4] h3 fun x12 h11 => some (some (vI x12), h11))))) else (if l2 = 4 then (zgI h3 x4 2 10 fun x13 => (if x13 = 0 then some (some (vI (-1)), h3) else (zgI h3 x4 2 7 fun x14 => some (some (vI x14), h3)))) else (if l2 = 5 then (zgI h3 x4 2 11 fun x15 => some (some (vI x15), h3)) else (if l2 = 6 then (zgI h3 x4 2 12 fun x16 => (if 0 < x16 then (zgI h3 x4 2 14 fun x17 => some (some (vI x17), h3)) else some (some (vI (-1)), h3))) else (if l2 = 7 then (zgI h3 x4 2 15 fun x18 => some (some (vI x18), h3)) else (if l2 = 8 then (zgI h3 x4 2 1 fun x19 => (zgI h3 x4 2 0 fun x20 => some (some (vI ((x19 * 20) + x20)), h3))) else (if l2 = 9 then (zgI h3 x4 2 8 fun x21 => some (some (vI x21), h3)) else some (some (vI (-1002)), h3))))))))))))))))) := by
  refine Eq.trans ?_ (b49_0 l0 l1 l2 h)
  unfold zcall zent
  rw [zL_49]
  rfl
