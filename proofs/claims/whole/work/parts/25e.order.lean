def loB (i : Nat) : Nat := if i < 2 then 0 else 1
def hiB (i : Nat) : Nat := if i = 0 then 19 else if i = 1 then 15 else 9
def loS (i : Nat) : Nat := if i = 3 then 1 else 0
def hiS (i : Nat) : Nat := if i = 0 then 19 else if i = 1 then 15 else if i = 2 then 1 else 20
/-- the three tables -/
def TAB (h : zH) : Prop := TB h 1 2 98 5 loB hiB ∧ TB h 3 4 115 4 loS hiS ∧ TB h 5 6 103 4 loB hiB
section ZOT
variable {hc hm h h' h2 m m' m2 : zH} {n n' s s' T P Q F i k la ma many : Nat} {x y o : Int32} {f : Nat} {lo hi : Nat → Nat}
theorem TB_df (D : DF hc h n) (h45 : 45 ≤ zn hc) (B : TB hc la ma o many lo hi) : TB h la ma o many lo hi := by
  obtain ⟨b1, b2, b3, b4, b5, b6, b7, b8⟩ := B
  obtain ⟨d1, d2, d3, -⟩ := D
  refine ⟨b1, b2, b3, b4, by rw [d2 la (by omega)]; exact b5, by rw [d2 ma (by omega)]; exact b6, fun i hi => ?_, b8⟩
  rw [d3 la (by omega) (by omega) (by omega) (by omega) (by omega) (by omega), d3 ma (by omega) (by omega) (by omega) (by omega) (by omega) (by omega)]
  exact b7 i hi
theorem q19 (B : TB h la ma o many lo hi) (S : SS h m T P) : ∃ h' m', PC h h' ∧ PM m m' ∧ ((∃ Q, zcall 19 [vR (some 9), vR (some la), vR (some ma)] h = some (some (vI 1), h') ∧ zcall 119 [vR (some 19), vI o, vI (nI many)] m = some (some (vI 0), m') ∧ SS h' m' T Q ∧ P ≤ Q ∧ NM h' m' lo hi many) ∨ ∃ f, zcall 19 [vR (some 9), vR (some la), vR (some ma)] h = some (some (vI 0), h') ∧ zcall 119 [vR (some 19), vI o, vI (nI many)] m = some (some (vI (nI f)), m') ∧ FT h' m' f) := by
  obtain ⟨b1, b2, b3, b4, b5, b6, b7, b8⟩ := id B
  have s1 := S.1
  have h45 := s1.1
  have hm0 : (0 : Int32) < nI many := nI_lt (a := 0) (b := many) b4 (by omega)
  have e1 : zcall 19 [vR (some 9), vR (some la), vR (some ma)] h = zev 19 51 [some (vR (some 9)), some (vR (some la)), some (vR (some ma)), some (vI (nI 0))] [] h := by
    rw [e19, b19_2, al_k (by omega) b5 (by decide), if_pos hm0, al_k (by omega) b6 (by decide), if_pos hm0, Cr9_1 s1, Cl11 s1, if_pos (by decide), if_neg (by decide), nI_0]
  have e2 : zcall 119 [vR (some 19), vI o, vI (nI many)] m = zev 119 2 [some (vR (some 19)), some (vI o), some (vI (nI many)), some (vI (nI 0)), none, none] [] m := by
    rw [e119, nI_0]
  rw [e1, e2]
  exact w19 many 0 P h m none none (by omega) b4 B S (fun i hi => absurd hi (by omega))
theorem q18 (h45 : 45 ≤ zn hc) (S : SS h m T P) (hP : P < T) (D : DG hc hm n s h m n' s') (TA : TAB hc) : OUT hc hm n s T P (zcall 18 [vR (some 9), vR (some 13)] h) (zcall 117 [vR (some 19)] m) := by
  obtain ⟨s1, s2, s3, s4, s5, s6, s7, s8, s9, s10, s11, s12⟩ := id S
  have S3 := SS_p S (show P + 1 ≤ T by omega)
  have A3 : PC h (zui h 9 5 (nI (P + 1))) := PC_9 (by decide)
  have B3 : PM m (zui m 19 35 (nI (P + 1))) := PM_19 (Or.inr rfl)
  have D3 := DG_pc D h45 A3 B3
  have h17 := q17 (i := P) S3 (by omega)
  rw [if_pos hP, zi_ua (by decide)] at h17
  rw [e18, Ci9_5 s1, s8, Ci9_5 s1, s8, Cp9_5 s1, nI_1, Cv9 S3.1, cI_k h17, e117, Mi_at s2, s9, Mr_text s2, Mi_at s2, s9, Ma_text s2 (by omega)]
  have D0 := D3.1.1
  by_cases g1 : zi m 20 P = 98
  · rw [g1, if_pos rfl, if_pos rfl, b18_56, Cv9 S3.1, b117_43, Mi_at s2, s9, Mp_at s2, nI_1, if_pos rfl, b117_66, M_v S3.2.1]
    obtain ⟨h4, m4, A4, B4, q⟩ := q19 (TB_df D0 h45 TA.1) S3
    have D4 := DG_pc D3 h45 A4 B4
    rcases q with ⟨Q, c1, c2, S4, c4, NN⟩ | ⟨f, c1, c2, c4⟩
    · have c2' : zcall 119 [vR (some 19), vI 98, vI 5] (zui m 19 35 (nI (P + 1))) = some (some (vI 0), m4) := c2
      obtain ⟨v0, x0, y0, z0⟩ := NN 0 (by decide)
      obtain ⟨v1, x1, y1, z1⟩ := NN 1 (by decide)
      obtain ⟨v2, x2, y2, z2⟩ := NN 2 (by decide)
      obtain ⟨v3, x3, y3, z3⟩ := NN 3 (by decide)
      obtain ⟨v4, x4, y4, z4, z4'⟩ := NN 4 (by decide)
      have t1 := S4.1
      have t2 := S4.2.1
      rw [cI_k c1, if_neg (by decide), Cr9_1 t1, Cn (x := 4) (k := 4) t1 rfl (by decide), z4, Cv9 t1, cI_k c2', if_neg (by decide), if_pos rfl, Mr_numbers t2, Mn (x := 4) (k := 4) t2 rfl (by decide), z4', if_neg (by decide), M_v t2]
      exact o_block (n' := n') (s' := s') h45 S4 D4 (by omega) y0 y1 ⟨x2, y2⟩ ⟨x3, y3⟩ ⟨x4, y4⟩ z0 z1 z2 z3 (by decide) rfl
    · have c2' : zcall 119 [vR (some 19), vI 98, vI 5] (zui m 19 35 (nI (P + 1))) = some (some (vI (nI f)), m4) := c2
      rw [cI_k c1, if_pos rfl, cI_k c2', if_pos (show (0 : Int32) < nI f from nI_lt (a := 0) (b := f) (by have := c4.1; omega) (by have := c4.2.1; omega))]
      exact o_bad h45 (PC_cs A4 S3.1) (DX_of D4) c4 rfl
  · rw [if_neg g1, if_neg g1]
    by_cases g2 : zi m 20 P = 103
    · rw [g2, if_pos rfl, if_neg (by decide), if_pos rfl, b18_107, Cv9 S3.1, b117_43, Mi_at s2, s9, Mp_at s2, nI_1, if_neg (by decide), b117_66, M_v S3.2.1]
      obtain ⟨h4, m4, A4, B4, q⟩ := q19 (TB_df D0 h45 TA.2.2) S3
      have D4 := DG_pc D3 h45 A4 B4
      rcases q with ⟨Q, c1, c2, S4, c4, NN⟩ | ⟨f, c1, c2, c4⟩
      · have c2' : zcall 119 [vR (some 19), vI 103, vI 4] (zui m 19 35 (nI (P + 1))) = some (some (vI 0), m4) := c2
        obtain ⟨v0, x0, y0, z0⟩ := NN 0 (by decide)
        obtain ⟨v1, x1, y1, z1⟩ := NN 1 (by decide)
        obtain ⟨v2, x2, y2, z2⟩ := NN 2 (by decide)
        obtain ⟨v3, x3, y3, z3⟩ := NN 3 (by decide)
        have t1 := S4.1
        have t2 := S4.2.1
        rw [cI_k c1, if_neg (by decide), Cv9 t1, cI_k c2', if_neg (by decide), if_neg (by decide), if_neg (by decide), M_v t2]
        exact o_block (n' := n') (s' := s') (N := 1) h45 S4 D4 (by omega) y0 y1 ⟨x2, y2⟩ ⟨x3, y3⟩ ⟨by omega, by omega⟩ z0 z1 z2 z3 (by decide) rfl
      · have c2' : zcall 119 [vR (some 19), vI 103, vI 4] (zui m 19 35 (nI (P + 1))) = some (some (vI (nI f)), m4) := c2
        rw [cI_k c1, if_pos rfl, cI_k c2', if_pos (show (0 : Int32) < nI f from nI_lt (a := 0) (b := f) (by have := c4.1; omega) (by have := c4.2.1; omega))]
        exact o_bad h45 (PC_cs A4 S3.1) (DX_of D4) c4 rfl
    · rw [if_neg g2, if_neg g2]
      by_cases g3 : zi m 20 P = 115
      · rw [g3, if_pos rfl, if_pos rfl, Cv9 S3.1, b117_43, Mi_at s2, s9, Mp_at s2, nI_1, if_neg (by decide), b117_66, M_v S3.2.1]
        obtain ⟨h4, m4, A4, B4, q⟩ := q19 (TB_df D0 h45 TA.2.1) S3
        have D4 := DG_pc D3 h45 A4 B4
        rcases q with ⟨Q, c1, c2, S4, c4, NN⟩ | ⟨f, c1, c2, c4⟩
        · have c2' : zcall 119 [vR (some 19), vI 115, vI 4] (zui m 19 35 (nI (P + 1))) = some (some (vI 0), m4) := c2
          obtain ⟨v0, x0, y0, z0⟩ := NN 0 (by decide)
          obtain ⟨v1, x1, y1, z1⟩ := NN 1 (by decide)
          obtain ⟨v2, x2, y2, z2⟩ := NN 2 (by decide)
          obtain ⟨v3, x3, y3, z3⟩ := NN 3 (by decide)
          have t1 := S4.1
          have t2 := S4.2.1
          rw [cI_k c1, if_neg (by decide), Cv9 t1, cI_k c2', if_neg (by decide), if_neg (by decide), if_pos rfl, M_v t2]
          exact o_street (n' := n') (s' := s') h45 S4 D4 (by omega) y0 y1 y2 ⟨x3, y3⟩ z0 z1 z2 z3
        · have c2' : zcall 119 [vR (some 19), vI 115, vI 4] (zui m 19 35 (nI (P + 1))) = some (some (vI (nI f)), m4) := c2
          rw [cI_k c1, if_pos rfl, cI_k c2', if_pos (show (0 : Int32) < nI f from nI_lt (a := 0) (b := f) (by have := c4.1; omega) (by have := c4.2.1; omega))]
          exact o_bad h45 (PC_cs A4 S3.1) (DX_of D4) c4 rfl
      · rw [if_neg g3, if_neg g3, Cv9 S3.1, cV_k (q20 S3.1), Mi_at s2, s9, M_v s2, cI_k (q118 s2)]
        refine o_bad (f := 1) (n' := n') (s' := s') h45 (show CS (zui (zui (zui h 9 5 (nI (P + 1))) 9 4 1) 9 3 (nI P)) from s1) ⟨CMa_q D3.1 (Q4_pc PC_f) h45, D3.2.1, D3.2.2.1, CF_pc D3.2.2.2.1 PC_f, MM0_u D.2.2.2.2.2.1 (by omega)⟩ (FT_mk (f := 1) (by omega) (by omega)) rfl
end ZOT
