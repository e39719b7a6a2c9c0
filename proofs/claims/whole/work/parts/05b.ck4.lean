theorem zck142_0 : zco142_0.all (zchk 142) = true := by decide +kernel
theorem zck142_1 : zco142_1.all (zchk 142) = true := by decide +kernel
theorem zck142_2 : zco142_2.all (zchk 142) = true := by decide +kernel
theorem zck142_3 : zco142_3.all (zchk 142) = true := by decide +kernel
theorem zck142_4 : zco142_4.all (zchk 142) = true := by decide +kernel
theorem zck142 : zco142.all (zchk 142) = true := zall_app zck142_0 (zall_app zck142_1 (zall_app zck142_2 (zall_app zck142_3 (zck142_4))))
theorem zck143_0 : zco143_0.all (zchk 143) = true := by decide +kernel
theorem zck143_1 : zco143_1.all (zchk 143) = true := by decide +kernel
theorem zck143 : zco143.all (zchk 143) = true := zall_app zck143_0 (zck143_1)
theorem zck144 : zco144.all (zchk 144) = true := by decide +kernel
theorem zck145_0 : zco145_0.all (zchk 145) = true := by decide +kernel
theorem zck145_1 : zco145_1.all (zchk 145) = true := by decide +kernel
theorem zck145 : zco145.all (zchk 145) = true := zall_app zck145_0 (zck145_1)
theorem zck146 : zco146.all (zchk 146) = true := by decide +kernel
theorem zck147 : zco147.all (zchk 147) = true := by decide +kernel
theorem zck148_0 : zco148_0.all (zchk 148) = true := by decide +kernel
theorem zck148_1 : zco148_1.all (zchk 148) = true := by decide +kernel
theorem zck148 : zco148.all (zchk 148) = true := zall_app zck148_0 (zck148_1)
theorem zck149_0 : zco149_0.all (zchk 149) = true := by decide +kernel
theorem zck149_1 : zco149_1.all (zchk 149) = true := by decide +kernel
theorem zck149_2 : zco149_2.all (zchk 149) = true := by decide +kernel
theorem zck149 : zco149.all (zchk 149) = true := zall_app zck149_0 (zall_app zck149_1 (zck149_2))
theorem zck150 : zco150.all (zchk 150) = true := by decide +kernel
theorem zck151_0 : zco151_0.all (zchk 151) = true := by decide +kernel
theorem zck151_1 : zco151_1.all (zchk 151) = true := by decide +kernel
theorem zck151 : zco151.all (zchk 151) = true := zall_app zck151_0 (zck151_1)
theorem zck152_0 : zco152_0.all (zchk 152) = true := by decide +kernel
theorem zck152_1 : zco152_1.all (zchk 152) = true := by decide +kernel
theorem zck152 : zco152.all (zchk 152) = true := zall_app zck152_0 (zck152_1)
theorem zck153_0 : zco153_0.all (zchk 153) = true := by decide +kernel
theorem zck153_1 : zco153_1.all (zchk 153) = true := by decide +kernel
theorem zck153 : zco153.all (zchk 153) = true := zall_app zck153_0 (zck153_1)
theorem zck154_0 : zco154_0.all (zchk 154) = true := by decide +kernel
theorem zck154_1 : zco154_1.all (zchk 154) = true := by decide +kernel
theorem zck154 : zco154.all (zchk 154) = true := zall_app zck154_0 (zck154_1)
theorem zck155 : zco155.all (zchk 155) = true := by decide +kernel
theorem zck156_0 : zco156_0.all (zchk 156) = true := by decide +kernel
theorem zck156_1 : zco156_1.all (zchk 156) = true := by decide +kernel
theorem zck156 : zco156.all (zchk 156) = true := zall_app zck156_0 (zck156_1)
theorem zck157 : zco157.all (zchk 157) = true := by decide +kernel
theorem zck158_0 : zco158_0.all (zchk 158) = true := by decide +kernel
theorem zck158_1 : zco158_1.all (zchk 158) = true := by decide +kernel
theorem zck158 : zco158.all (zchk 158) = true := zall_app zck158_0 (zck158_1)
theorem zck159_0 : zco159_0.all (zchk 159) = true := by decide +kernel
theorem zck159_1 : zco159_1.all (zchk 159) = true := by decide +kernel
theorem zck159_2 : zco159_2.all (zchk 159) = true := by decide +kernel
theorem zck159_3 : zco159_3.all (zchk 159) = true := by decide +kernel
theorem zck159_4 : zco159_4.all (zchk 159) = true := by decide +kernel
theorem zck159_5 : zco159_5.all (zchk 159) = true := by decide +kernel
theorem zck159_6 : zco159_6.all (zchk 159) = true := by decide +kernel
theorem zck159_7 : zco159_7.all (zchk 159) = true := by decide +kernel
theorem zck159_8 : zco159_8.all (zchk 159) = true := by decide +kernel
theorem zck159_9 : zco159_9.all (zchk 159) = true := by decide +kernel
theorem zck159_10 : zco159_10.all (zchk 159) = true := by decide +kernel
theorem zck159_11 : zco159_11.all (zchk 159) = true := by decide +kernel
theorem zck159_12 : zco159_12.all (zchk 159) = true := by decide +kernel
theorem zck159 : zco159.all (zchk 159) = true := zall_app zck159_0 (zall_app zck159_1 (zall_app zck159_2 (zall_app zck159_3 (zall_app zck159_4 (zall_app zck159_5 (zall_app zck159_6 (zall_app zck159_7 (zall_app zck159_8 (zall_app zck159_9 (zall_app zck159_10 (zall_app zck159_11 (zck159_12))))))))))))
def zokA : Nat → List (List zI) → Prop
  | _, [] => True
  | i, l :: r => l.all (zchk i) = true ∧ zokA (i + 1) r
theorem zokA_at : ∀ (L : List (List zI)) (i j : Nat) (l : List zI), zokA i L → L[j]? = some l → l.all (zchk (i + j)) = true
  | [], _, _, _, _, h => by simp at h
  | a :: r, i, 0, l, h, hl => by
    simp only [List.getElem?_cons_zero, Option.some.injEq] at hl
    subst hl
    exact h.1
  | a :: r, i, j + 1, l, h, hl => by
    rw [List.getElem?_cons_succ] at hl
    have := zokA_at r (i + 1) j l h.2 hl
    rwa [show i + 1 + j = i + (j + 1) by omega] at this
theorem zokA_app : ∀ (a b : List (List zI)) (i : Nat), zokA i a → zokA (i + a.length) b → zokA i (a ++ b)
  | [], b, i, _, h => by simpa using h
  | x :: a, b, i, h1, h2 => ⟨h1.1, zokA_app a b (i + 1) h1.2 (by rw [List.length_cons] at h2; rwa [show i + 1 + a.length = i + (a.length + 1) by omega])⟩
theorem zokc0 : zokA 0 zcos0 := ⟨zck0, zck1, zck2, zck3, zck4, zck5, zck6, zck7, zck8, zck9, zck10, zck11, zck12, zck13, zck14, zck15, zck16, zck17, zck18, zck19, trivial⟩
theorem zokc1 : zokA 20 zcos1 := ⟨zck20, zck21, zck22, zck23, zck24, zck25, zck26, zck27, zck28, zck29, zck30, zck31, zck32, zck33, zck34, zck35, zck36, zck37, zck38, zck39, trivial⟩
theorem zokc2 : zokA 40 zcos2 := ⟨zck40, zck41, zck42, zck43, zck44, zck45, zck46, zck47, zck48, zck49, zck50, zck51, zck52, zck53, zck54, zck55, zck56, zck57, zck58, zck59, trivial⟩
theorem zokc3 : zokA 60 zcos3 := ⟨zck60, zck61, zck62, zck63, zck64, zck65, zck66, zck67, zck68, zck69, zck70, zck71, zck72, zck73, zck74, zck75, zck76, zck77, zck78, zck79, trivial⟩
theorem zokc4 : zokA 80 zcos4 := ⟨zck80, zck81, zck82, zck83, zck84, zck85, zck86, zck87, zck88, zck89, zck90, zck91, zck92, zck93, zck94, zck95, zck96, zck97, zck98, zck99, trivial⟩
theorem zokc5 : zokA 100 zcos5 := ⟨zck100, zck101, zck102, zck103, zck104, zck105, zck106, zck107, zck108, zck109, zck110, zck111, zck112, zck113, zck114, zck115, zck116, zck117, zck118, zck119, trivial⟩
theorem zokc6 : zokA 120 zcos6 := ⟨zck120, zck121, zck122, zck123, zck124, zck125, zck126, zck127, zck128, zck129, zck130, zck131, zck132, zck133, zck134, zck135, zck136, zck137, zck138, zck139, trivial⟩
theorem zokc7 : zokA 140 zcos7 := ⟨zck140, zck141, zck142, zck143, zck144, zck145, zck146, zck147, zck148, zck149, zck150, zck151, zck152, zck153, zck154, zck155, zck156, zck157, zck158, zck159, trivial⟩
theorem zok_all : zokA 0 zcos := zokA_app _ _ _ zokc0 (zokA_app _ _ _ zokc1 (zokA_app _ _ _ zokc2 (zokA_app _ _ _ zokc3 (zokA_app _ _ _ zokc4 (zokA_app _ _ _ zokc5 (zokA_app _ _ _ zokc6 (zokc7)))))))
theorem zfind_mem {pc : Nat} : ∀ {l : List zI} {q : Instr × Nat × Nat × Nat × Nat × Int}, zfind pc l = some q → (pc, q) ∈ l
  | [], _, h => by simp [zfind] at h
  | e :: r, q, h => by
    unfold zfind at h
    split at h
    · rename_i he
      simp only [Option.some.injEq] at h
      subst h; subst he
      exact List.mem_cons_self
    · exact List.mem_cons_of_mem _ (zfind_mem h)
theorem zcod_ok {m pc : Nat} {q : Instr × Nat × Nat × Nat × Nat × Int} (h : zcod m pc = some q) : zchk m (pc, q) = true := by
  have h1 := zfind_mem h
  cases hl : zcos[m]? with
  | none =>
    rw [List.getD_eq_getElem?_getD, hl] at h1
    simp at h1
  | some l =>
    rw [List.getD_eq_getElem?_getD, hl] at h1
    have h2 := zokA_at zcos 0 m l zok_all hl
    rw [Nat.zero_add] at h2
    exact List.all_eq_true.mp h2 _ h1
