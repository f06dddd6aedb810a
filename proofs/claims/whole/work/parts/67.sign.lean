/-! A new sign. -/
def okS (c : Int32) (x y w : Int64) (z : Int32) : Prop := (0 ≤ c.toInt ∧ c.toInt ≤ 255) ∧ (-1000000 ≤ x.toInt ∧ x.toInt ≤ 1000000) ∧ (-1000000 ≤ y.toInt ∧ y.toInt ≤ 1000000) ∧ (0 ≤ w.toInt ∧ w.toInt ≤ 1000000) ∧ (1 ≤ z.toInt ∧ z.toInt ≤ 1000)
theorem c_isCoord {μ : MemT} (a : Int64) : sp_X8_isCoordinate a μ (fun r μ' => μ' = μ ∧ ((r = 1 ∧ -1000000 ≤ a.toInt ∧ a.toInt ≤ 1000000) ∨ (r = 0 ∧ ¬ (-1000000 ≤ a.toInt ∧ a.toInt ≤ 1000000)))) := by
  have e1 : (-1000000 : Int64).toInt = -1000000 := by decide
  have e2 : (1000000 : Int64).toInt = 1000000 := by decide
  unfold sp_X8_isCoordinate t_X8_isCoordinate_0
  refine ⟨fun r μ' => μ' = μ ∧ ((r = 1 ∧ -1000000 ≤ a.toInt ∧ a.toInt ≤ 1000000) ∨ (r = 0 ∧ ¬ (-1000000 ≤ a.toInt ∧ a.toInt ≤ 1000000))), ?_, fun r μ2 h2 => ⟨?_, h2⟩⟩
  · unfold sp_X8_isBetween t_X8_isBetween_0
    rw [lt64, lt64, e1, e2]
    exact ⟨fun h => ⟨rfl, Or.inr ⟨rfl, by omega⟩⟩, fun h => ⟨fun h2 => ⟨rfl, Or.inr ⟨rfl, by omega⟩⟩, fun h2 => ⟨rfl, Or.inl ⟨rfl, by omega⟩⟩⟩⟩
  · rcases h2.2 with ⟨p, -⟩ | ⟨p, -⟩
    · exact Or.inr p
    · exact Or.inl p
/-- what a new sign leaves in the rows of one side -/
def Add (μ μ' : MemT) (n c : Nat) (x y w : Int64) (z : Int32) (cC cX cY cW cZ cG : Nat) : Prop := μ'.1 cC = upd (μ.1 cC) n (nI c) ∧ μ'.2.1 cX = vp_updL (μ.2.1 cX) n x ∧ μ'.2.1 cY = vp_updL (μ.2.1 cY) n y ∧ μ'.2.1 cW = vp_updL (μ.2.1 cW) n w ∧ μ'.1 cZ = upd (μ.1 cZ) n z ∧ μ'.1 cG = upd (μ.1 cG) n (-1)
set_option maxHeartbeats 2000000 in
theorem k_signA {μ : MemT} {g : PgT} (h : RR μ g) (a : Int32) (x y w : Int64) (z : Int32) : sl_L_sign a x y w z μ (fun r μ' => (r = 1 ∧ ¬ okS a x y w z ∧ μ' = μ) ∨ (r = 2 ∧ okS a x y w z ∧ pN g = 200 ∧ μ' = μ) ∨ (r = 0 ∧ okS a x y w z ∧ pN g < 200 ∧ ∃ c, a = nI c ∧ c < 256 ∧ Fr [10, 14, 16] [11, 12, 13, 76] [0, 1] false μ μ' ∧ Add μ μ' (pN g) c x y w z 10 11 12 13 14 16 ∧ μ'.2.2.1 0 = 0 ∧ μ'.2.2.1 1 = nI (pN g + 1) ∧ μ'.2.1 76 0 = (nI (pN g)).toInt64)) := by
  have hn := h.1.1
  have C := h.2.2.1
  have e256 : (256 : Int32).toInt = 256 := by decide
  have e1000 : (1000 : Int32).toInt = 1000 := by decide
  have e1 : (1 : Int32).toInt = 1 := by decide
  have e0L : (0 : Int64).toInt = 0 := by decide
  have e2 : (1000000 : Int64).toInt = 1000000 := by decide
  unfold sl_L_sign tl_L_sign_0
  refine ⟨fun r μ' => okS a x y w z ∧ pN g < 200 ∧ ∃ c, a = nI c ∧ c < 256 ∧ Fr [10, 14, 16] [11, 12, 13] [0, 1] false μ μ' ∧ Add μ μ' (pN g) c x y w z 10 11 12 13 14 16 ∧ μ'.2.2.1 0 = 0 ∧ μ'.2.2.1 1 = nI (pN g + 1) ∧ r = nI (pN g), fun X μ' => (X = "java/lang/IllegalArgumentException" ∧ μ' = μ ∧ ¬ okS a x y w z) ∨ (X = "java/lang/UnsupportedOperationException" ∧ μ' = μ ∧ okS a x y w z ∧ pN g = 200), ?_, fun X μ0 hX => ?_, fun r μ2 h2 => ?_⟩
  · generalize hP : (fun r μ' => okS a x y w z ∧ pN g < 200 ∧ ∃ c, a = nI c ∧ c < 256 ∧ Fr [10, 14, 16] [11, 12, 13] [0, 1] false μ μ' ∧ Add μ μ' (pN g) c x y w z 10 11 12 13 14 16 ∧ μ'.2.2.1 0 = 0 ∧ μ'.2.2.1 1 = nI (pN g + 1) ∧ r = nI (pN g)) = P
    generalize hQ : (fun X μ' => (X = "java/lang/IllegalArgumentException" ∧ μ' = μ ∧ ¬ okS a x y w z) ∨ (X = "java/lang/UnsupportedOperationException" ∧ μ' = μ ∧ okS a x y w z ∧ pN g = 200)) = Q
    have no : ¬ okS a x y w z → tx_X8_sign_60 P Q a x y w z μ := fun hz => by
      unfold tx_X8_sign_60 tx_X8_sign_61
      exact ⟨fun q => absurd rfl q, fun _ => by rw [← hQ]; exact Or.inl ⟨rfl, rfl, hz⟩⟩
    have yes : okS a x y w z → tx_X8_sign_61 P Q a x y w z 1 μ := fun ok => by
      unfold tx_X8_sign_61
      refine ⟨fun _ => ?_, fun q => absurd q (by decide)⟩
      rw [C.1, lt32, tI (by omega), show (200 : Int32).toInt = 200 by decide]
      refine ⟨fun q μ1 e1' => ?_, fun q => by rw [← hQ]; exact Or.inr ⟨rfl, rfl, ok, by omega⟩⟩
      have hN : pN g < 200 := by omega
      refine ⟨fun r μ' => r = nI (pN g) ∧ Fr [10, 14, 16] [11, 12, 13] [1] false μ1 μ' ∧ (∃ c, a = nI c ∧ c < 256 ∧ Add μ1 μ' (pN g) c x y w z 10 11 12 13 14 16) ∧ μ'.2.2.1 1 = nI (pN g + 1), ?_, fun r5 μ3 h3 => ?_⟩
      · have k1 : μ1.2.2.1 1 = nI (pN g) := by rw [e1', mF_221, upN _ _ (by decide)]; exact C.1
        unfold sp_X7_add t_X7_add_0
        rw [k1, lt32, tI (by omega), show (200 : Int32).toInt = 200 by decide]
        have ii : vp_in (nI (pN g)) 200 := inI (by omega) (by decide)
        have ci : (nI (pN g)).toNatClampNeg = pN g := cI (by omega)
        refine ⟨fun _ => ⟨ii, fun μ2 e2' => ⟨ii, fun μ4 e4 => ⟨ii, fun μ6 e6 => ⟨ii, fun μ8 e8 => ⟨ii, fun μ10 e10 => ⟨ii, fun μ12 e12 μ13 e13 => ⟨rfl, ?_, ⟨a.toInt.toNat, ?_, ?_, ?_, ?_, ?_, ?_, ?_, ?_⟩, ?_⟩⟩⟩⟩⟩⟩⟩, fun z => absurd (by omega) z⟩
        · rw [e13, e12, e10, e8, e6, e4, e2']
          exact ((((((Fr.wI _ _ _ (by decide)).tr (Fr.wL _ _ _ (by decide))).tr (Fr.wL _ _ _ (by decide))).tr (Fr.wL _ _ _ (by decide))).tr (Fr.wI _ _ _ (by decide))).tr (Fr.wI _ _ _ (by decide))).tr (Fr.wF _ _ (by decide))
        · have := ok.1
          rw [eq32, tI (by omega)]
          omega
        · have := ok.1
          omega
        · rw [e13, mF_1, e12, mI_1, upN _ _ (by decide), e10, mI_1, upN _ _ (by decide), e8, mL_1, e6, mL_1, e4, mL_1, e2', mI_1, upE, ci]
          congr 1
          have := ok.1
          rw [eq32, tI (by omega)]
          omega
        · rw [e13, mF_21, e12, mI_2, e10, mI_2, e8, mL_21, upN _ _ (by decide), e6, mL_21, upN _ _ (by decide), e4, mL_21, upE, ci, e2', mI_2]
        · rw [e13, mF_21, e12, mI_2, e10, mI_2, e8, mL_21, upN _ _ (by decide), e6, mL_21, upE, ci, e4, mL_21, upN _ _ (by decide), e2', mI_2]
        · rw [e13, mF_21, e12, mI_2, e10, mI_2, e8, mL_21, upE, ci, e6, mL_21, upN _ _ (by decide), e4, mL_21, upN _ _ (by decide), e2', mI_2]
        · rw [e13, mF_1, e12, mI_1, upN _ _ (by decide), e10, mI_1, upE, ci, e8, mL_1, e6, mL_1, e4, mL_1, e2', mI_1, upN _ _ (by decide)]
        · rw [e13, mF_1, e12, mI_1, upE, ci, e10, mI_1, upN _ _ (by decide), e8, mL_1, e6, mL_1, e4, mL_1, e2', mI_1, upN _ _ (by decide)]
        · rw [e13, mF_221, upE]; exact nI_1 _
      · obtain ⟨rfl, f3, ⟨c, c1, c2, A⟩, k3⟩ := h3
        rw [← hP]
        refine ⟨ok, hN, c, c1, c2, ?_, ?_, ?_, k3, rfl⟩
        · exact (show Fr [10, 14, 16] [11, 12, 13] [0, 1] false μ μ1 by rw [e1']; exact Fr.wF _ _ (by decide)).tr (f3.mono (by decide) (by decide) (by decide) (fun h => h))
        · have k : μ1.1 = μ.1 ∧ μ1.2.1 = μ.2.1 := by rw [e1']; exact ⟨rfl, rfl⟩
          unfold Add at A ⊢
          rw [k.1, k.2] at A
          exact A
        · rw [f3.2.2.1 0 (by decide), e1', mF_221, upE]
    unfold sx_X8_sign tx_X8_sign_0
    rw [lt32, le32, lt64, lt64, lt32, lt32, t_0, e256, e0L, e2, e1, e1000]
    refine ⟨fun q => no (fun s => by have := s.1; omega), fun q => ⟨fun q2 => no (fun s => by have := s.1; omega), fun q2 => ⟨_, c_isCoord x, fun r4 μ4 h4 => ?_⟩⟩⟩
    obtain ⟨rfl, h4⟩ := h4
    refine ⟨fun q3 => no (fun s => ?_), fun q3 => ⟨_, c_isCoord y, fun r8 μ8 h8 => ?_⟩⟩
    · rcases h4 with ⟨p, -⟩ | ⟨-, p⟩
      · rw [q3] at p; exact absurd p (by decide)
      · exact p s.2.1
    obtain ⟨rfl, h8⟩ := h8
    refine ⟨fun q4 => no (fun s => ?_), fun q4 => ⟨fun q5 => no (fun s => by have := s.2.2.2.1; omega), fun q5 => ⟨fun q6 => no (fun s => by have := s.2.2.2.1; omega), fun q6 => ⟨fun q7 => no (fun s => by have := s.2.2.2.2; omega), fun q7 => ⟨fun q8 => no (fun s => by have := s.2.2.2.2; omega), fun q8 => yes ⟨by omega, ?_, ?_, by omega, by omega⟩⟩⟩⟩⟩⟩
    · rcases h8 with ⟨p, -⟩ | ⟨-, p⟩
      · rw [q4] at p; exact absurd p (by decide)
      · exact p s.2.2.1
    · rcases h4 with ⟨-, p⟩ | ⟨p, -⟩
      · exact p
      · exact absurd p q3
    · rcases h8 with ⟨-, p⟩ | ⟨p, -⟩
      · exact p
      · exact absurd p q4
  · rcases hX with ⟨p1, p2, p3⟩ | ⟨p1, p2, p3, p4⟩
    · exact Or.inl ⟨p1, Or.inl ⟨rfl, p3, p2⟩⟩
    · exact Or.inr ⟨p1, Or.inr (Or.inl ⟨rfl, p3, p4, p2⟩)⟩
  · obtain ⟨ok, hN, c, c1, c2, f2, A, z2, k2, rfl⟩ := h2
    refine ⟨vp0, fun μ6 e6 => Or.inr (Or.inr ⟨rfl, ok, hN, c, c1, c2, ?_, ?_, ?_, ?_, ?_⟩)⟩
    · exact (f2.mono (by decide) (by decide) (by decide) (fun h => h)).tr (by rw [e6]; exact Fr.wL _ _ _ (by decide))
    · unfold Add at A ⊢
      rw [e6, mL_1, mL_21, upN _ _ (by decide), upN _ _ (by decide), upN _ _ (by decide)]
      exact A
    · rw [e6, mL_22]; exact z2
    · rw [e6, mL_22]; exact k2
    · rw [e6, mL_21, upE]; exact ulE _ _ _
