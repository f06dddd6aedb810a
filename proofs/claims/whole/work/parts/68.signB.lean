/-! A new sign: the model, and both. -/
set_option maxHeartbeats 2000000 in
theorem k_signB {μ : MemT} {g : PgT} (hn : pN g ≤ 200) (M : HasM μ g) (a : Int32) (x y w : Int64) (z : Int32) : sp_X9_sign a x y w z μ (fun r μ' => (μ'.2.2.1 9 = 1 ∧ ¬ okS a x y w z ∧ Fr [] [] [9] false μ μ') ∨ (μ'.2.2.1 9 = 2 ∧ okS a x y w z ∧ pN g = 200 ∧ Fr [] [] [9] false μ μ') ∨ (μ'.2.2.1 9 = 0 ∧ okS a x y w z ∧ pN g < 200 ∧ ∃ c, a = nI c ∧ c < 256 ∧ Fr [45, 49, 51] [46, 47, 48] [9, 10, 11] false μ μ' ∧ Add μ μ' (pN g) c x y w z 45 46 47 48 49 51 ∧ μ'.2.2.1 11 = 0 ∧ μ'.2.2.1 10 = nI (pN g + 1) ∧ r = nI (pN g))) := by
  generalize hP : (fun r μ' => (μ'.2.2.1 9 = 1 ∧ ¬ okS a x y w z ∧ Fr [] [] [9] false μ μ') ∨ (μ'.2.2.1 9 = 2 ∧ okS a x y w z ∧ pN g = 200 ∧ Fr [] [] [9] false μ μ') ∨ (μ'.2.2.1 9 = 0 ∧ okS a x y w z ∧ pN g < 200 ∧ ∃ c, a = nI c ∧ c < 256 ∧ Fr [45, 49, 51] [46, 47, 48] [9, 10, 11] false μ μ' ∧ Add μ μ' (pN g) c x y w z 45 46 47 48 49 51 ∧ μ'.2.2.1 11 = 0 ∧ μ'.2.2.1 10 = nI (pN g + 1) ∧ r = nI (pN g))) = P
  have t200 : (200 : Int32) = nI 200 := rfl
  have st : ∀ v y1 y2 : Int32, (y1 = 0 ↔ okS a x y w z) → (y2 = 0 ↔ ¬ pN g = 200) → t_X9_sign_97 P a x y w z v y1 y2 μ := fun v y1 y2 h1 h2 => by
    unfold t_X9_sign_97
    refine ⟨_, m_refused _ _, fun r6 μ2 h6 => ?_⟩
    obtain ⟨f6, v6, z6⟩ := h6
    refine ⟨fun q => ?_, fun q => ?_⟩
    · obtain ⟨z1, z2⟩ := z6.mp q
      have ok := h1.mp z1
      have hN : pN g < 200 := by have := h2.mp z2; omega
      have ii : vp_in (nI (pN g)) 200 := inI (by omega) (by decide)
      have ci : (nI (pN g)).toNatClampNeg = pN g := cI (by omega)
      have F2 : μ2.2.2.1 10 = nI (pN g) := by rw [f6.2.2.1 10 (by decide)]; exact M.1
      rw [F2]
      refine ⟨ii, fun μ6 e6 => ?_⟩
      have F6 : μ6.2.2.1 10 = nI (pN g) := by rw [e6, mI_2]; exact F2
      rw [F6]
      refine ⟨ii, fun μ8 e8 => ?_⟩
      have F8 : μ8.2.2.1 10 = nI (pN g) := by rw [e8, mL_22]; exact F6
      rw [F8]
      refine ⟨ii, fun μ10 e10 => ?_⟩
      have F10 : μ10.2.2.1 10 = nI (pN g) := by rw [e10, mL_22]; exact F8
      rw [F10]
      refine ⟨ii, fun μ12 e12 => ?_⟩
      have F12 : μ12.2.2.1 10 = nI (pN g) := by rw [e12, mL_22]; exact F10
      rw [F12]
      refine ⟨ii, fun μ14 e14 => ?_⟩
      have F14 : μ14.2.2.1 10 = nI (pN g) := by rw [e14, mI_2]; exact F12
      rw [F14]
      refine ⟨ii, fun μ16 e16 μ17 e17 μ18 e18 => ?_⟩
      have F17 : μ17.2.2.1 10 = nI (pN g) := by rw [e17, mF_221, upN _ _ (by decide), e16, mI_2]; exact F14
      have F18 : μ18.2.2.1 10 = nI (pN g + 1) := by rw [e18, mF_221, upE, F17]; exact nI_1 _
      have ea : a = nI a.toInt.toNat := by
        have := ok.1
        rw [eq32, tI (by omega)]
        omega
      rw [F18, nIp, ← hP]
      refine Or.inr (Or.inr ⟨?_, ok, hN, a.toInt.toNat, ea, by have := ok.1; omega, ?_, ⟨?_, ?_, ?_, ?_, ?_, ?_⟩, ?_, F18, rfl⟩)
      · rw [e18, mF_221, upN _ _ (by decide), e17, mF_221, upN _ _ (by decide), e16, mI_2, e14, mI_2, e12, mL_22, e10, mL_22, e8, mL_22, e6, mI_2, v6, if_pos z1, if_pos z2]
      · refine (f6.mono (by decide) (by decide) (by decide) (fun h => h)).tr ?_
        rw [e18, e17, e16, e14, e12, e10, e8, e6]
        exact (((((((Fr.wI _ _ _ (by decide)).tr (Fr.wL _ _ _ (by decide))).tr (Fr.wL _ _ _ (by decide))).tr (Fr.wL _ _ _ (by decide))).tr (Fr.wI _ _ _ (by decide))).tr (Fr.wI _ _ _ (by decide))).tr (Fr.wF _ _ (by decide))).tr (Fr.wF _ _ (by decide))
      · rw [e18, mF_1, e17, mF_1, e16, mI_1, upN _ _ (by decide), e14, mI_1, upN _ _ (by decide), e12, mL_1, e10, mL_1, e8, mL_1, e6, mI_1, upE, ci, f6.1 45 (by decide), ← ea]
      · rw [e18, mF_21, e17, mF_21, e16, mI_2, e14, mI_2, e12, mL_21, upN _ _ (by decide), e10, mL_21, upN _ _ (by decide), e8, mL_21, upE, ci, e6, mI_2, f6.2.1 46 (by decide)]
      · rw [e18, mF_21, e17, mF_21, e16, mI_2, e14, mI_2, e12, mL_21, upN _ _ (by decide), e10, mL_21, upE, ci, e8, mL_21, upN _ _ (by decide), e6, mI_2, f6.2.1 47 (by decide)]
      · rw [e18, mF_21, e17, mF_21, e16, mI_2, e14, mI_2, e12, mL_21, upE, ci, e10, mL_21, upN _ _ (by decide), e8, mL_21, upN _ _ (by decide), e6, mI_2, f6.2.1 48 (by decide)]
      · rw [e18, mF_1, e17, mF_1, e16, mI_1, upN _ _ (by decide), e14, mI_1, upE, ci, e12, mL_1, e10, mL_1, e8, mL_1, e6, mI_1, upN _ _ (by decide), f6.1 49 (by decide)]
      · rw [e18, mF_1, e17, mF_1, e16, mI_1, upE, ci, e14, mI_1, upN _ _ (by decide), e12, mL_1, e10, mL_1, e8, mL_1, e6, mI_1, upN _ _ (by decide), f6.1 51 (by decide)]
      · rw [e18, mF_221, upN _ _ (by decide), e17, mF_221, upE]
    · rw [← hP]
      by_cases q1 : y1 = 0
      · have q2 : ¬ y2 = 0 := fun u => q (z6.mpr ⟨q1, u⟩)
        exact Or.inr (Or.inl ⟨by rw [v6, if_pos q1, if_neg q2], h1.mp q1, Classical.not_not.mp (fun u => q2 (h2.mpr u)), f6⟩)
      · exact Or.inl ⟨by rw [v6, if_neg q1], fun u => q1 (h1.mpr u), f6⟩
  have mid : ∀ y0 : Int32, (¬ y0 = 0 ↔ okS a x y w z) → t_X9_sign_69 P a x y w z y0 μ := fun y0 h0 => by
    unfold t_X9_sign_69 t_X9_sign_82
    rw [M.1, t200, nI_eqI (by omega) (by omega)]
    exact ⟨fun q => ⟨fun q2 => st _ 0 0 ⟨fun _ => h0.mp q, fun _ => rfl⟩ ⟨fun _ => q2, fun _ => rfl⟩, fun q2 => st _ 0 1 ⟨fun _ => h0.mp q, fun _ => rfl⟩ ⟨fun u => absurd u (by decide), fun u => absurd q2 u⟩⟩, fun q => ⟨fun q2 => st _ 1 0 ⟨fun u => absurd u (by decide), fun u => absurd q (h0.mpr u)⟩ ⟨fun _ => q2, fun _ => rfl⟩, fun q2 => st _ 1 1 ⟨fun u => absurd u (by decide), fun u => absurd q (h0.mpr u)⟩ ⟨fun u => absurd u (by decide), fun u => absurd q2 u⟩⟩⟩
  have no : ¬ okS a x y w z → t_X9_sign_68 P a x y w z μ := fun hz => by
    unfold t_X9_sign_68
    exact mid 0 ⟨fun u => absurd rfl u, fun u => absurd u hz⟩
  unfold sp_X9_sign t_X9_sign_0
  refine ⟨_, m_isIn _ _ _, fun r4 μ4 h4 => ?_⟩
  obtain ⟨rfl, h4⟩ := h4
  rw [tL64] at h4
  have h4 : (r4 = 1 ∧ 0 ≤ a.toInt ∧ a.toInt ≤ 255) ∨ (r4 = 0 ∧ ¬ (0 ≤ a.toInt ∧ a.toInt ≤ 255)) := h4
  have pick : ∀ {r : Int32} {p : Prop}, ((r = 1 ∧ p) ∨ (r = 0 ∧ ¬ p)) → (r = 0 → ¬ p) ∧ (¬ r = 0 → p) := fun {r p} hh => by
    rcases hh with ⟨u, v⟩ | ⟨u, v⟩
    · exact ⟨fun e => by rw [e] at u; exact absurd u (by decide), fun _ => v⟩
    · exact ⟨fun _ => v, fun e => absurd u e⟩
  refine ⟨fun q => no (fun s => (pick h4).1 q s.1), fun q4 => ⟨_, m_isIn _ _ _, fun r8 μ8 h8 => ?_⟩⟩
  obtain ⟨rfl, h8⟩ := h8
  have h8 : (r8 = 1 ∧ -1000000 ≤ x.toInt ∧ x.toInt ≤ 1000000) ∨ (r8 = 0 ∧ ¬ (-1000000 ≤ x.toInt ∧ x.toInt ≤ 1000000)) := h8
  refine ⟨fun q => no (fun s => (pick h8).1 q s.2.1), fun q8 => ⟨_, m_isIn _ _ _, fun r12 μ12 h12 => ?_⟩⟩
  obtain ⟨rfl, h12⟩ := h12
  have h12 : (r12 = 1 ∧ -1000000 ≤ y.toInt ∧ y.toInt ≤ 1000000) ∨ (r12 = 0 ∧ ¬ (-1000000 ≤ y.toInt ∧ y.toInt ≤ 1000000)) := h12
  refine ⟨fun q => no (fun s => (pick h12).1 q s.2.2.1), fun q12 => ⟨_, m_isIn _ _ _, fun r16 μ16 h16 => ?_⟩⟩
  obtain ⟨rfl, h16⟩ := h16
  have h16 : (r16 = 1 ∧ 0 ≤ w.toInt ∧ w.toInt ≤ 1000000) ∨ (r16 = 0 ∧ ¬ (0 ≤ w.toInt ∧ w.toInt ≤ 1000000)) := h16
  refine ⟨fun q => no (fun s => (pick h16).1 q s.2.2.2.1), fun q16 => ⟨_, m_isIn _ _ _, fun r20 μ20 h20 => ?_⟩⟩
  obtain ⟨rfl, h20⟩ := h20
  rw [tL64] at h20
  have h20 : (r20 = 1 ∧ 1 ≤ z.toInt ∧ z.toInt ≤ 1000) ∨ (r20 = 0 ∧ ¬ (1 ≤ z.toInt ∧ z.toInt ≤ 1000)) := h20
  exact ⟨fun q => no (fun s => (pick h20).1 q s.2.2.2.2), fun q20 => mid 1 ⟨fun _ => ⟨(pick h4).2 q4, (pick h8).2 q8, (pick h12).2 q12, (pick h16).2 q16, (pick h20).2 q20⟩, fun _ => by decide⟩⟩
set_option maxHeartbeats 2000000 in
theorem k_sign {μ : MemT} {g : PgT} (h : RR μ g) {xs : Nat → Int32} {L : Nat} {x4 : Int32} (hv : ∀ k, k < 9 → vp_in (x4 + nI k) L) : tw_120 KR xs L x4 μ := by
  have hn := h.1.1
  have C := h.2.2.1
  have M := h.2.2.2.1
  unfold tw_120
  generalize (((xs (x4 + (2 : Int32)).toNatClampNeg).toInt64 <<< ((32 : Int32).toInt64 &&& 63)) ||| ((xs (x4 + (3 : Int32)).toNatClampNeg).toInt64 &&& (4294967295 : Int64))) = x
  generalize (((xs (x4 + (4 : Int32)).toNatClampNeg).toInt64 <<< ((32 : Int32).toInt64 &&& 63)) ||| ((xs (x4 + (5 : Int32)).toNatClampNeg).toInt64 &&& (4294967295 : Int64))) = y
  generalize (((xs (x4 + (6 : Int32)).toNatClampNeg).toInt64 <<< ((32 : Int32).toInt64 &&& 63)) ||| ((xs (x4 + (7 : Int32)).toNatClampNeg).toInt64 &&& (4294967295 : Int64))) = w
  generalize xs (x4 + (1 : Int32)).toNatClampNeg = a
  generalize xs (x4 + (8 : Int32)).toNatClampNeg = z
  refine ⟨hv 1 (by decide), hv 2 (by decide), hv 3 (by decide), hv 4 (by decide), hv 5 (by decide), hv 6 (by decide), hv 7 (by decide), hv 8 (by decide), _, k_signA h a x y w z, fun r5 μ3 h3 => ⟨hv 1 (by decide), hv 2 (by decide), hv 3 (by decide), hv 4 (by decide), hv 5 (by decide), hv 6 (by decide), hv 7 (by decide), hv 8 (by decide), ?_⟩⟩
  have HM3 : HasM μ3 g := by
    rcases h3 with ⟨-, -, rfl⟩ | ⟨-, -, -, rfl⟩ | ⟨-, -, -, c, -, -, f3, -⟩
    · exact M
    · exact M
    · exact M.fr f3 (by decide) (by decide) (by decide)
  refine ⟨_, k_signB hn HM3 a x y w z, fun r10 μ8 h8 => ⟨_, m_thrown, fun r14 μ12 h12 => ?_⟩⟩
  obtain ⟨rfl, rfl⟩ := h12
  rcases h3 with ⟨rfl, no, rfl⟩ | ⟨rfl, ok, full, rfl⟩ | ⟨rfl, ok, hN, c, c1, c2, f3, A, z3, k3, o3⟩
  · rcases h8 with ⟨v, -, f8⟩ | ⟨v, ok, -⟩ | ⟨v, ok, -⟩
    · exact endK v (fun z => absurd z (by decide)) ⟨g, h.o (f8.mono (by decide) (by decide) (by decide) (fun h => by cases h))⟩
    · exact absurd ok no
    · exact absurd ok no
  · rcases h8 with ⟨v, no, -⟩ | ⟨v, -, -, f8⟩ | ⟨v, -, lt, -⟩
    · exact absurd ok no
    · exact endK v (fun z => absurd z (by decide)) ⟨g, h.o (f8.mono (by decide) (by decide) (by decide) (fun h => by cases h))⟩
    · omega
  · rcases h8 with ⟨-, no, -⟩ | ⟨-, -, full, -⟩ | ⟨v, -, -, c', c1', c2', f8, A8, z8, k8, rfl⟩
    · exact absurd ok no
    · omega
    · have ec : c' = c := nI_inj (by omega) (by omega) (c1'.symm.trans c1)
      subst ec
      refine endK v (fun _ => ?_) ⟨addS g c' x.toInt y.toInt w.toInt z.toInt, ?_⟩
      · rw [show μ12.2.1 76 (0 : Int32).toNatClampNeg = μ12.2.1 76 0 from rfl, f8.2.1 76 (by decide), o3]
      · obtain ⟨A1, A2, A3, A4, A5, A6⟩ := A
        obtain ⟨B1, B2, B3, B4, B5, B6⟩ := A8
        have zt := h.2.2.2.2.1 (pN g) (Nat.le_refl _) hN
        have k15 : μ12.1 15 = μ.1 15 := by rw [f8.1 15 (by decide), f3.1 15 (by decide)]
        have k50 : μ12.1 50 = μ.1 50 := by rw [f8.1 50 (by decide), f3.1 50 (by decide)]
        refine ⟨⟨by show pN g + 1 ≤ 200; omega, fun i hi => ?_⟩, h.2.1, ?_, ?_, fun i hi hi2 => ?_, fun q => absurd (by rw [f8.2.2.1 0 (by decide)]; exact z3) q, fun q => absurd z8 q, ?_⟩
        · have hi : i < pN g + 1 := hi
          show (if i = pN g then c' else pC g i) < 256 ∧ (-1000000 ≤ (if i = pN g then x.toInt else pX g i) ∧ (if i = pN g then x.toInt else pX g i) ≤ 1000000) ∧ (-1000000 ≤ (if i = pN g then y.toInt else pY g i) ∧ (if i = pN g then y.toInt else pY g i) ≤ 1000000) ∧ (0 ≤ (if i = pN g then w.toInt else pW g i) ∧ (if i = pN g then w.toInt else pW g i) ≤ 1000000) ∧ (1 ≤ (if i = pN g then z.toInt else pZ g i) ∧ (if i = pN g then z.toInt else pZ g i) ≤ 1000) ∧ -1 ≤ (if i = pN g then -1 else pG g i) ∧ (if i = pN g then -1 else pG g i) ≤ 100
          by_cases e : i = pN g
          · simp only [if_pos e]
            exact ⟨c2, ok.2.1, ok.2.2.1, ok.2.2.2.1, ok.2.2.2.2, by omega⟩
          · simp only [if_neg e]
            exact h.1.2 i (by omega)
        · exact Has.addS C zt.1 (by rw [f8.2.2.1 1 (by decide)]; exact k3) (by rw [f8.1 10 (by decide)]; exact A1) (by rw [f8.2.1 11 (by decide)]; exact A2) (by rw [f8.2.1 12 (by decide)]; exact A3) (by rw [f8.2.1 13 (by decide)]; exact A4) (by rw [f8.1 14 (by decide)]; exact A5) k15 (by rw [f8.1 16 (by decide)]; exact A6) (by rw [f8.1 17 (by decide), f3.1 17 (by decide)]) (by rw [f8.1 18 (by decide), f3.1 18 (by decide)])
        · exact Has.addS M zt.2 k8 (by rw [B1, f3.1 45 (by decide)]) (by rw [B2, f3.2.1 46 (by decide)]) (by rw [B3, f3.2.1 47 (by decide)]) (by rw [B4, f3.2.1 48 (by decide)]) (by rw [B5, f3.1 49 (by decide)]) k50 (by rw [B6, f3.1 51 (by decide)]) (by rw [f8.1 52 (by decide), f3.1 52 (by decide)]) (by rw [f8.1 53 (by decide), f3.1 53 (by decide)])
        · rw [k15, k50]
          have hi : pN g + 1 ≤ i := hi
          exact h.2.2.2.2.1 i (by omega) hi2
        · exact (h.2.2.2.2.2.2.2.fr f3 (by decide) (by decide)).fr f8 (by decide) (by decide)
