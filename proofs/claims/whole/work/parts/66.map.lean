/-! Maps. -/
def gdL (c d : Int32) : Prop := (0 ≤ c.toInt ∧ c.toInt ≤ 65535) ∧ (0 ≤ d.toInt ∧ d.toInt ≤ 65535) ∧ (c = 0 → d = 0)
def mvF (g : PgT) (i : Nat) : Int32 := if pM g i = 0 then 0 else if pO g i = 0 then 1 else 2
theorem t_0 : (0 : Int32).toInt = 0 := by decide
theorem c_areLetters {μ : MemT} (c d : Int32) : sp_X8_areLetters c d μ (fun r μ' => μ' = μ ∧ (¬ r = 0 ↔ gdL c d)) := by
  have no : ¬ gdL c d → (μ = μ ∧ (¬ (0 : Int32) = 0 ↔ gdL c d)) := fun h => ⟨rfl, fun z => absurd rfl z, fun z => absurd z h⟩
  have yes : gdL c d → (μ = μ ∧ (¬ (1 : Int32) = 0 ↔ gdL c d)) := fun h => ⟨rfl, fun _ => h, fun _ => by decide⟩
  have e1 : (1 : Int32).toInt = 1 := by decide
  have e2 : (65535 : Int32).toInt = 65535 := by decide
  unfold sp_X8_areLetters t_X8_areLetters_0
  rw [lt32, lt32, lt32, lt32, e1, e2, t_0]
  refine ⟨fun h => ⟨fun h1 => no (fun z => ?_), fun h1 => ⟨fun h2 => no (fun z => ?_), fun h2 => ⟨fun h3 => no (fun z => ?_), fun h3 => ⟨fun h4 => no (fun z => ?_), fun h4 => yes ⟨by omega, by omega, fun z => absurd z h⟩⟩⟩⟩⟩, fun h => ⟨fun h1 => no (fun z => h1 (z.2.2 h)), fun h1 => yes ?_⟩⟩
  · have := z.1
    have h' : ¬ c.toInt = 0 := fun q => h (by rw [eq32, t_0]; exact q)
    omega
  · have := z.1; omega
  · have := z.2.1; omega
  · have := z.2.1; omega
  · subst h; subst h1
    exact ⟨by decide, by decide, fun _ => rfl⟩
set_option maxHeartbeats 2000000 in
theorem k_map {μ : MemT} {g : PgT} (h : RR μ g) {xs : Nat → Int32} {L : Nat} {x4 : Int32} (hv : ∀ k, k < 9 → vp_in (x4 + nI k) L) : tw_410 KR xs L x4 μ := by
  have hn := h.1.1
  have C := h.2.2.1
  have M := h.2.2.2.1
  unfold tw_410
  generalize xs (x4 + (1 : Int32)).toNatClampNeg = a
  generalize xs (x4 + (2 : Int32)).toNatClampNeg = b
  generalize xs (x4 + (3 : Int32)).toNatClampNeg = c
  generalize xs (x4 + (4 : Int32)).toNatClampNeg = d
  have ok' : ∀ {a b : Int32}, ((0 ≤ a.toInt ∧ a.toInt ≤ 3) ∧ 0 ≤ b.toInt ∧ b.toInt ≤ 255) → ∃ i j, i < 4 ∧ j < 256 ∧ a = nI i ∧ b = nI j := fun {a b} q => ⟨a.toInt.toNat, b.toInt.toNat, by omega, by omega, by rw [eq32, tI (by omega)]; omega, by rw [eq32, tI (by omega)]; omega⟩
  have e4 : (4 : Int32).toInt = 4 := by decide
  have e256 : (256 : Int32).toInt = 256 := by decide
  refine ⟨hv 1 (by decide), hv 2 (by decide), hv 3 (by decide), hv 4 (by decide), fun r μ' => (r = 1 ∧ ¬ ((0 ≤ a.toInt ∧ a.toInt ≤ 3) ∧ 0 ≤ b.toInt ∧ b.toInt ≤ 255) ∧ μ' = μ) ∨ (r = 2 ∧ ((0 ≤ a.toInt ∧ a.toInt ≤ 3) ∧ 0 ≤ b.toInt ∧ b.toInt ≤ 255) ∧ ¬ gdL c d ∧ μ' = μ) ∨ (r = 0 ∧ gdL c d ∧ ∃ i j, i < 4 ∧ j < 256 ∧ a = nI i ∧ b = nI j ∧ Fr [17, 18] [76] [0] false μ μ' ∧ μ'.1 17 = upd (μ.1 17) (256 * i + j) c ∧ μ'.1 18 = upd (μ.1 18) (256 * i + j) d ∧ μ'.2.2.1 0 = 0 ∧ μ'.2.1 76 0 = (mvF g (256 * i + j)).toInt64), ?_, fun r5 μ3 h3 => ⟨hv 1 (by decide), hv 2 (by decide), hv 3 (by decide), hv 4 (by decide), ?_⟩⟩
  · unfold sl_L_map tl_L_map_0
    refine ⟨fun r μ' => gdL c d ∧ ∃ i j, i < 4 ∧ j < 256 ∧ a = nI i ∧ b = nI j ∧ Fr [17, 18] [] [0] false μ μ' ∧ μ'.1 17 = upd (μ.1 17) (256 * i + j) c ∧ μ'.1 18 = upd (μ.1 18) (256 * i + j) d ∧ μ'.2.2.1 0 = 0 ∧ r = mvF g (256 * i + j), fun X μ' => (X = "java/lang/IndexOutOfBoundsException" ∧ μ' = μ ∧ ¬ ((0 ≤ a.toInt ∧ a.toInt ≤ 3) ∧ 0 ≤ b.toInt ∧ b.toInt ≤ 255)) ∨ (X = "java/lang/IllegalArgumentException" ∧ μ' = μ ∧ ((0 ≤ a.toInt ∧ a.toInt ≤ 3) ∧ 0 ≤ b.toInt ∧ b.toInt ≤ 255) ∧ ¬ gdL c d), ?_, fun X μ0 hX => ?_, fun r μ2 h2 => ?_⟩
    · unfold sx_X8_map tx_X8_map_0
      rw [lt32, le32, lt32, lt32, t_0, e4, e256]
      refine ⟨fun z => Or.inl ⟨rfl, rfl, by omega⟩, fun z => ⟨fun z2 => Or.inl ⟨rfl, rfl, by omega⟩, fun z2 => ⟨fun z3 => Or.inl ⟨rfl, rfl, by omega⟩, fun z3 => ⟨fun z4 => ?_, fun z4 => Or.inl ⟨rfl, rfl, by omega⟩⟩⟩⟩⟩
      have ok : (0 ≤ a.toInt ∧ a.toInt ≤ 3) ∧ 0 ≤ b.toInt ∧ b.toInt ≤ 255 := by omega
      refine ⟨_, c_areLetters c d, fun r4 μ2 h4 => ?_⟩
      obtain ⟨rfl, h4⟩ := h4
      refine ⟨fun q => ?_, fun q => Or.inr ⟨rfl, rfl, ok, fun z => (h4.mpr z) q⟩⟩
      obtain ⟨i, j, i1, j1, rfl, rfl⟩ := ok' ok
      have ei : nI i * (256 : Int32) + nI j = nI (256 * i + j) := by
        rw [lit32 256, nI_mul', nI_add']
        congr 1
        omega
      refine ⟨fun r μ' => μ' = μ2 ∧ r = mvF g (256 * i + j), ?_, fun r8 μ6 h6 => ?_⟩
      · unfold sp_X2_told t_X2_told_0
        rw [ei, cI (by omega), C.2.2.1, C.2.2.2]
        unfold mvF
        exact ⟨inI (by omega) (by decide), fun q1 => ⟨inI (by omega) (by decide), fun q2 => ⟨rfl, by rw [if_neg q1, if_neg q2]⟩, fun q2 => ⟨rfl, by rw [if_neg q1, if_pos q2]⟩⟩, fun q1 => ⟨rfl, by rw [if_pos q1]⟩⟩
      · obtain ⟨rfl, rfl⟩ := h6
        refine ⟨fun μ' => Fr [17, 18] [] [] false μ6 μ' ∧ μ'.1 17 = upd (μ6.1 17) (256 * i + j) c ∧ μ'.1 18 = upd (μ6.1 18) (256 * i + j) d, ?_, fun μ10 h10 μ12 e12 => ?_⟩
        · unfold sp_X2_tell t_X2_tell_0
          rw [ei]
          refine ⟨inI (by omega) (by decide), fun μ7 e7 => ⟨inI (by omega) (by decide), fun μ8 e8 => ⟨?_, ?_, ?_⟩⟩⟩
          · rw [e8, e7]; exact (Fr.wI _ _ _ (by decide)).tr (Fr.wI _ _ _ (by decide))
          · rw [e8, mI_1, upN _ _ (by decide), e7, mI_1, upE, cI (by omega)]
          · rw [e8, mI_1, upE, cI (by omega), e7, mI_1, upN _ _ (by decide)]
        · obtain ⟨f10, u17, u18⟩ := h10
          refine ⟨h4.mp q, i, j, i1, j1, rfl, rfl, ?_, by rw [e12, mF_1]; exact u17, by rw [e12, mF_1]; exact u18, by rw [e12, mF_221, upE], rfl⟩
          exact (f10.mono (by decide) (by decide) (by decide) (fun h => h)).tr (by rw [e12]; exact Fr.wF _ _ (by decide))
    · rcases hX with ⟨p1, p2, p3⟩ | ⟨p1, p2, p3, p4⟩
      · exact Or.inl ⟨p1, Or.inl ⟨rfl, p3, p2⟩⟩
      · exact Or.inr ⟨p1, Or.inr (Or.inl ⟨rfl, p3, p4, p2⟩)⟩
    · obtain ⟨gd, i, j, i1, j1, ea, eb, f2, u17, u18, z2, rfl⟩ := h2
      refine ⟨vp0, fun μ6 e6 => Or.inr (Or.inr ⟨rfl, gd, i, j, i1, j1, ea, eb, ?_, ?_, ?_, ?_, ?_⟩)⟩
      · exact (f2.mono (by decide) (by decide) (by decide) (fun h => h)).tr (by rw [e6]; exact Fr.wL _ _ _ (by decide))
      · rw [e6, mL_1]; exact u17
      · rw [e6, mL_1]; exact u18
      · rw [e6, mL_22]; exact z2
      · rw [e6, mL_21, upE]; exact ulE _ _ _
  · have k52 : μ3.1 52 = pM g ∧ μ3.1 53 = pO g := by
      rcases h3 with ⟨-, -, rfl⟩ | ⟨-, -, -, rfl⟩ | ⟨-, -, i, j, -, -, -, -, f3, -⟩
      · exact ⟨M.2.2.1, M.2.2.2⟩
      · exact ⟨M.2.2.1, M.2.2.2⟩
      · rw [f3.1 52 (by decide), f3.1 53 (by decide)]; exact ⟨M.2.2.1, M.2.2.2⟩
    refine ⟨fun r μ' => (μ'.2.2.1 9 = 1 ∧ ¬ ((0 ≤ a.toInt ∧ a.toInt ≤ 3) ∧ 0 ≤ b.toInt ∧ b.toInt ≤ 255) ∧ Fr [] [] [9] false μ3 μ') ∨ (μ'.2.2.1 9 = 2 ∧ ((0 ≤ a.toInt ∧ a.toInt ≤ 3) ∧ 0 ≤ b.toInt ∧ b.toInt ≤ 255) ∧ ¬ gdL c d ∧ Fr [] [] [9] false μ3 μ') ∨ (μ'.2.2.1 9 = 0 ∧ gdL c d ∧ ∃ i j, i < 4 ∧ j < 256 ∧ a = nI i ∧ b = nI j ∧ Fr [52, 53] [] [9, 11] false μ3 μ' ∧ μ'.1 52 = upd (μ3.1 52) (256 * i + j) c ∧ μ'.1 53 = upd (μ3.1 53) (256 * i + j) d ∧ μ'.2.2.1 11 = 0 ∧ r = mvF g (256 * i + j)), ?_, fun r10 μ8 h8 => ⟨_, m_thrown, fun r14 μ12 h12 => ?_⟩⟩
    · have st : ∀ y z : Int32, (y = 0 ↔ ((0 ≤ a.toInt ∧ a.toInt ≤ 3) ∧ 0 ≤ b.toInt ∧ b.toInt ≤ 255)) → (z = 0 ↔ gdL c d) → t_X9_map_71 (fun r μ' => (μ'.2.2.1 9 = 1 ∧ ¬ ((0 ≤ a.toInt ∧ a.toInt ≤ 3) ∧ 0 ≤ b.toInt ∧ b.toInt ≤ 255) ∧ Fr [] [] [9] false μ3 μ') ∨ (μ'.2.2.1 9 = 2 ∧ ((0 ≤ a.toInt ∧ a.toInt ≤ 3) ∧ 0 ≤ b.toInt ∧ b.toInt ≤ 255) ∧ ¬ gdL c d ∧ Fr [] [] [9] false μ3 μ') ∨ (μ'.2.2.1 9 = 0 ∧ gdL c d ∧ ∃ i j, i < 4 ∧ j < 256 ∧ a = nI i ∧ b = nI j ∧ Fr [52, 53] [] [9, 11] false μ3 μ' ∧ μ'.1 52 = upd (μ3.1 52) (256 * i + j) c ∧ μ'.1 53 = upd (μ3.1 53) (256 * i + j) d ∧ μ'.2.2.1 11 = 0 ∧ r = mvF g (256 * i + j))) a b c d z y μ3 := fun y z hy hz => by
        unfold t_X9_map_71
        refine ⟨_, m_refused _ _, fun r6 μ6 h6 => ?_⟩
        obtain ⟨f6, v6, z6⟩ := h6
        refine ⟨fun q => ?_, fun q => ?_⟩
        · obtain ⟨z1, z2⟩ := z6.mp q
          obtain ⟨i, j, i1, j1, rfl, rfl⟩ := ok' (hy.mp z1)
          have ei : (256 : Int32) * nI i + nI j = nI (256 * i + j) := by rw [lit32 256, nI_mul', nI_add']
          rw [ei, cI (by omega)]
          have fin : ∀ r, r = mvF g (256 * i + j) → t_X9_map_119 (fun r μ' => (μ'.2.2.1 9 = 1 ∧ ¬ ((0 ≤ (nI i).toInt ∧ (nI i).toInt ≤ 3) ∧ 0 ≤ (nI j).toInt ∧ (nI j).toInt ≤ 255) ∧ Fr [] [] [9] false μ3 μ') ∨ (μ'.2.2.1 9 = 2 ∧ ((0 ≤ (nI i).toInt ∧ (nI i).toInt ≤ 3) ∧ 0 ≤ (nI j).toInt ∧ (nI j).toInt ≤ 255) ∧ ¬ gdL c d ∧ Fr [] [] [9] false μ3 μ') ∨ (μ'.2.2.1 9 = 0 ∧ gdL c d ∧ ∃ i' j', i' < 4 ∧ j' < 256 ∧ nI i = nI i' ∧ nI j = nI j' ∧ Fr [52, 53] [] [9, 11] false μ3 μ' ∧ μ'.1 52 = upd (μ3.1 52) (256 * i' + j') c ∧ μ'.1 53 = upd (μ3.1 53) (256 * i' + j') d ∧ μ'.2.2.1 11 = 0 ∧ r = mvF g (256 * i' + j'))) (nI i) (nI j) c d z (nI (256 * i + j)) r μ6 := fun r hr => by
            unfold t_X9_map_119
            refine ⟨inI (by omega) (by decide), fun μ7 e7 => ⟨inI (by omega) (by decide), fun μ8 e8 μ9 e9 => Or.inr (Or.inr ⟨?_, hz.mp z2, i, j, i1, j1, rfl, rfl, ?_, ?_, ?_, ?_, hr⟩)⟩⟩
            · rw [e9, mF_221, upN _ _ (by decide), e8, mI_2, e7, mI_2, v6, if_pos z1, if_pos z2]
            · exact (f6.mono (by decide) (by decide) (by decide) (fun h => h)).tr (by rw [e9, e8, e7]; exact ((Fr.wI _ _ _ (by decide)).tr (Fr.wI _ _ _ (by decide))).tr (Fr.wF _ _ (by decide)))
            · rw [e9, mF_1, e8, mI_1, upN _ _ (by decide), e7, mI_1, upE, cI (by omega), f6.1 52 (by decide)]
            · rw [e9, mF_1, e8, mI_1, upE, cI (by omega), e7, mI_1, upN _ _ (by decide), f6.1 53 (by decide)]
            · rw [e9, mF_221, upE]
          have a52 : μ6.1 52 = pM g := by rw [f6.1 52 (by decide), k52.1]
          have a53 : μ6.1 53 = pO g := by rw [f6.1 53 (by decide), k52.2]
          rw [a52, a53]
          exact ⟨inI (by omega) (by decide), fun q1 => ⟨inI (by omega) (by decide), fun q2 => fin 2 (by unfold mvF; rw [if_neg q1, if_neg q2]), fun q2 => fin 1 (by unfold mvF; rw [if_neg q1, if_pos q2])⟩, fun q1 => fin 0 (by unfold mvF; rw [if_pos q1])⟩
        · by_cases q1 : y = 0
          · have q2 : ¬ z = 0 := fun w => q (z6.mpr ⟨q1, w⟩)
            exact Or.inr (Or.inl ⟨by rw [v6, if_pos q1, if_neg q2], hy.mp q1, fun w => q2 (hz.mpr w), f6⟩)
          · exact Or.inl ⟨by rw [v6, if_neg q1], fun w => q1 (hy.mpr w), f6⟩
      have mid : ∀ z : Int32, (z = 0 ↔ gdL c d) → t_X9_map_39 (fun r μ' => (μ'.2.2.1 9 = 1 ∧ ¬ ((0 ≤ a.toInt ∧ a.toInt ≤ 3) ∧ 0 ≤ b.toInt ∧ b.toInt ≤ 255) ∧ Fr [] [] [9] false μ3 μ') ∨ (μ'.2.2.1 9 = 2 ∧ ((0 ≤ a.toInt ∧ a.toInt ≤ 3) ∧ 0 ≤ b.toInt ∧ b.toInt ≤ 255) ∧ ¬ gdL c d ∧ Fr [] [] [9] false μ3 μ') ∨ (μ'.2.2.1 9 = 0 ∧ gdL c d ∧ ∃ i j, i < 4 ∧ j < 256 ∧ a = nI i ∧ b = nI j ∧ Fr [52, 53] [] [9, 11] false μ3 μ' ∧ μ'.1 52 = upd (μ3.1 52) (256 * i + j) c ∧ μ'.1 53 = upd (μ3.1 53) (256 * i + j) d ∧ μ'.2.2.1 11 = 0 ∧ r = mvF g (256 * i + j))) a b c d z μ3 := fun z hz => by
        unfold t_X9_map_39 t_X9_map_66
        refine ⟨_, m_isIn _ _ _, fun r4 μ4 h4 => ?_⟩
        obtain ⟨rfl, h4⟩ := h4
        rw [tL64] at h4
        have h4 : (r4 = 1 ∧ 0 ≤ a.toInt ∧ a.toInt ≤ 3) ∨ (r4 = 0 ∧ ¬ (0 ≤ a.toInt ∧ a.toInt ≤ 3)) := h4
        refine ⟨fun q => st 1 z ⟨fun w => absurd w (by decide), fun w => ?_⟩ hz, fun q => ⟨_, m_isIn _ _ _, fun r5 μ5 h5 => ?_⟩⟩
        · rcases h4 with ⟨p, -⟩ | ⟨-, p⟩
          · rw [q] at p; exact absurd p (by decide)
          · exact absurd w.1 p
        obtain ⟨rfl, h5⟩ := h5
        rw [tL64] at h5
        have h5 : (r5 = 1 ∧ 0 ≤ b.toInt ∧ b.toInt ≤ 255) ∨ (r5 = 0 ∧ ¬ (0 ≤ b.toInt ∧ b.toInt ≤ 255)) := h5
        refine ⟨fun q2 => st 0 z ⟨fun _ => ⟨?_, ?_⟩, fun _ => rfl⟩ hz, fun q2 => st 1 z ⟨fun w => absurd w (by decide), fun w => ?_⟩ hz⟩
        · rcases h4 with ⟨-, p⟩ | ⟨p, -⟩
          · exact p
          · exact absurd p q
        · rcases h5 with ⟨-, p⟩ | ⟨p, -⟩
          · exact p
          · exact absurd p q2
        · rcases h5 with ⟨p, -⟩ | ⟨-, p⟩
          · rw [q2] at p; exact absurd p (by decide)
          · exact absurd w.2 p
      unfold sp_X9_map t_X9_map_0 t_X9_map_34 t_X9_map_38
      refine ⟨_, m_isIn _ _ _, fun r4 μ4 h4 => ?_⟩
      obtain ⟨rfl, h4⟩ := h4
      rw [tL64] at h4
      have h4 : (r4 = 1 ∧ 0 ≤ c.toInt ∧ c.toInt ≤ 65535) ∨ (r4 = 0 ∧ ¬ (0 ≤ c.toInt ∧ c.toInt ≤ 65535)) := h4
      refine ⟨fun q => mid 1 ⟨fun w => absurd w (by decide), fun w => ?_⟩, fun q => ⟨_, m_isIn _ _ _, fun r5 μ5 h5 => ?_⟩⟩
      · rcases h4 with ⟨p, -⟩ | ⟨-, p⟩
        · rw [q] at p; exact absurd p (by decide)
        · exact absurd w.1 p
      obtain ⟨rfl, h5⟩ := h5
      rw [tL64] at h5
      have h5 : (r5 = 1 ∧ 0 ≤ d.toInt ∧ d.toInt ≤ 65535) ∨ (r5 = 0 ∧ ¬ (0 ≤ d.toInt ∧ d.toInt ≤ 65535)) := h5
      have hc : 0 ≤ c.toInt ∧ c.toInt ≤ 65535 := by
        rcases h4 with ⟨-, p⟩ | ⟨p, -⟩
        · exact p
        · exact absurd p q
      refine ⟨fun q2 => mid 1 ⟨fun w => absurd w (by decide), fun w => ?_⟩, fun q2 => ?_⟩
      · rcases h5 with ⟨p, -⟩ | ⟨-, p⟩
        · rw [q2] at p; exact absurd p (by decide)
        · exact absurd w.2.1 p
      have hd : 0 ≤ d.toInt ∧ d.toInt ≤ 65535 := by
        rcases h5 with ⟨-, p⟩ | ⟨p, -⟩
        · exact p
        · exact absurd p q2
      rw [le32, t_0]
      refine ⟨fun q3 => mid 0 ⟨fun _ => ⟨hc, hd, fun w => absurd w q3⟩, fun _ => rfl⟩, fun q3 => ⟨fun q4 => mid 0 ⟨fun _ => ⟨hc, hd, fun _ => by rw [eq32, t_0]; omega⟩, fun _ => rfl⟩, fun q4 => mid 1 ⟨fun w => absurd w (by decide), fun w => ?_⟩⟩⟩
      exact absurd (by rw [w.2.2 q3]; decide) q4
    · obtain ⟨rfl, rfl⟩ := h12
      rcases h3 with ⟨rfl, no, rfl⟩ | ⟨rfl, ok, bad, rfl⟩ | ⟨rfl, gd, i, j, i1, j1, ea, eb, f3, u17, u18, z3, o3⟩
      · rcases h8 with ⟨v, -, f8⟩ | ⟨v, ok, -⟩ | ⟨v, -, i, j, i1, j1, ea, eb, -⟩
        · exact endK v (fun z => absurd z (by decide)) ⟨g, h.o (f8.mono (by decide) (by decide) (by decide) (fun h => by cases h))⟩
        · exact absurd ok no
        · exact absurd (by rw [ea, eb, tI (by omega), tI (by omega)]; omega) no
      · rcases h8 with ⟨v, no, -⟩ | ⟨v, -, -, f8⟩ | ⟨v, gd, -⟩
        · exact absurd ok no
        · exact endK v (fun z => absurd z (by decide)) ⟨g, h.o (f8.mono (by decide) (by decide) (by decide) (fun h => by cases h))⟩
        · exact absurd gd bad
      · rcases h8 with ⟨-, no, -⟩ | ⟨-, -, bad, -⟩ | ⟨v, -, i', j', i1', j1', ea', eb', f8, u52, u53, z8, rfl⟩
        · exact absurd (by rw [ea, eb, tI (by omega), tI (by omega)]; omega) no
        · exact absurd gd bad
        · have e1 : i' = i := nI_inj (by omega) (by omega) (ea'.symm.trans ea)
          have e2 : j' = j := nI_inj (by omega) (by omega) (eb'.symm.trans eb)
          subst e1
          subst e2
          refine endK v (fun _ => ?_) ⟨setM g (256 * i' + j') c d, ?_⟩
          · rw [show μ12.2.1 76 (0 : Int32).toNatClampNeg = μ12.2.1 76 0 from rfl, f8.2.1 76 (by decide), o3]
          · have k : ∀ q, q ≠ 17 → q ≠ 18 → q ≠ 52 → q ≠ 53 → μ12.1 q = μ.1 q := fun q c1 c2 c3 c4 => by rw [f8.1 q (by simp; omega), f3.1 q (by simp; omega)]
            have kl : ∀ q, q ≠ 76 → μ12.2.1 q = μ.2.1 q := fun q c1 => by rw [f8.2.1 q (by simp), f3.2.1 q (by simpa using c1)]
            have kf : ∀ q, q ≠ 0 → q ≠ 9 → q ≠ 11 → μ12.2.2.1 q = μ.2.2.1 q := fun q c1 c2 c3 => by rw [f8.2.2.1 q (by simp; omega), f3.2.2.1 q (by simpa using c1)]
            have t17 : μ12.1 17 = upd (μ.1 17) (256 * i' + j') c := by rw [f8.1 17 (by decide)]; exact u17
            have t18 : μ12.1 18 = upd (μ.1 18) (256 * i' + j') d := by rw [f8.1 18 (by decide)]; exact u18
            have t52 : μ12.1 52 = upd (μ.1 52) (256 * i' + j') c := by rw [u52, f3.1 52 (by decide)]
            have t53 : μ12.1 53 = upd (μ.1 53) (256 * i' + j') d := by rw [u53, f3.1 53 (by decide)]
            refine ⟨⟨h.1.1, h.1.2⟩, fun q hq => ?_, Has.setM C (kf 1 (by decide) (by decide) (by decide)) (k 10 (by decide) (by decide) (by decide) (by decide)) (kl 11 (by decide)) (kl 12 (by decide)) (kl 13 (by decide)) (k 14 (by decide) (by decide) (by decide) (by decide)) (k 15 (by decide) (by decide) (by decide) (by decide)) (k 16 (by decide) (by decide) (by decide) (by decide)) t17 t18, Has.setM M (kf 10 (by decide) (by decide) (by decide)) (k 45 (by decide) (by decide) (by decide) (by decide)) (kl 46 (by decide)) (kl 47 (by decide)) (kl 48 (by decide)) (k 49 (by decide) (by decide) (by decide) (by decide)) (k 50 (by decide) (by decide) (by decide) (by decide)) (k 51 (by decide) (by decide) (by decide) (by decide)) t52 t53, ?_, fun z => absurd (by rw [f8.2.2.1 0 (by decide)]; exact z3) z, fun z => absurd z8 z, ?_⟩
            · show 0 ≤ (upd (pO g) (256 * i' + j') d q).toInt
              by_cases e : q = 256 * i' + j'
              · rw [e, udE]; exact gd.2.1.1
              · rw [udN _ _ e]; exact h.2.1 q hq
            · rw [k 15 (by decide) (by decide) (by decide) (by decide), k 50 (by decide) (by decide) (by decide) (by decide)]
              exact h.2.2.2.2.1
            · exact (h.2.2.2.2.2.2.2.fr f3 (by decide) (by decide)).fr f8 (by decide) (by decide)
