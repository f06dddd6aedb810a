/-! Asking of a letter. -/
set_option maxHeartbeats 1000000 in
theorem k_letter {μ : MemT} {g : PgT} (h : RR μ g) {xs : Nat → Int32} {L : Nat} {x4 : Int32} (hv : ∀ k, k < 9 → vp_in (x4 + nI k) L) : tw_583 KR xs L x4 μ := by
  unfold tw_583
  generalize hx : xs (x4 + (1 : Int32)).toNatClampNeg = x
  refine ⟨hv 1 (by decide), fun r μ' => RR μ' g ∧ ¬ μ'.2.2.1 0 = 0 ∧ ((r = 1 ∧ ¬ (¬ x < 0 ∧ x < μ'.2.2.1 6)) ∨ (r = 0 ∧ (¬ x < 0 ∧ x < μ'.2.2.1 6) ∧ μ'.2.1 76 0 = (μ'.1 39 x.toNatClampNeg).toInt64)), ?_, fun r5 μ3 h3 => ⟨hv 1 (by decide), fun r μ' => RR μ' g ∧ Fr lkI lkL [9, 11, 12, 13, 14, 15] true μ3 μ' ∧ DvM μ' g ∧ ((μ'.2.2.1 9 = 1 ∧ ¬ (¬ x < 0 ∧ x < μ'.2.2.1 15)) ∨ (μ'.2.2.1 9 = 0 ∧ (¬ x < 0 ∧ x < μ'.2.2.1 15) ∧ r = μ'.1 72 x.toNatClampNeg)), ?_, fun r10 μ8 h8 => ⟨_, m_thrown, fun r14 μ12 h12 => ?_⟩⟩⟩
  · unfold sl_L_letter tl_L_letter_0
    refine ⟨fun r μ' => ¬ μ'.2.2.1 0 = 0 ∧ RR μ' g ∧ (¬ x < 0 ∧ x < μ'.2.2.1 6) ∧ r = μ'.1 39 x.toNatClampNeg, fun X μ' => X = "java/lang/IndexOutOfBoundsException" ∧ RR μ' g ∧ ¬ μ'.2.2.1 0 = 0 ∧ ¬ (¬ x < 0 ∧ x < μ'.2.2.1 6), ?_, fun X μ0 hX => ⟨hX.1, hX.2.1, hX.2.2.1, Or.inl ⟨rfl, hX.2.2.2⟩⟩, fun r μ2 h2 => ?_⟩
    · unfold sx_X8_letter tx_X8_letter_0
      refine ⟨_, c_refresh h, fun μ2 q => ?_⟩
      refine ⟨fun μ' => μ' = μ2 ∧ ¬ x < 0 ∧ x < μ2.2.2.1 6, ?_, fun μ5 h5 => ?_⟩
      · unfold sx_X8_requireWithin tx_X8_requireWithin_0
        exact ⟨fun h1 => ⟨rfl, q.2.2, q.2.1, fun z => z.1 h1⟩, fun h1 => ⟨fun h2 => ⟨rfl, h1, h2⟩, fun h2 => ⟨rfl, q.2.2, q.2.1, fun z => h2 z.2⟩⟩⟩
      · obtain ⟨rfl, ok⟩ := h5
        obtain ⟨m, m1, m2, -⟩ := tlen q.2.2.1 (q.2.2.2.2.2.2.2.1 q.2.1)
        have ok2 := ok
        rw [m2] at ok2
        obtain ⟨i, i1, rfl⟩ := ixI (by omega) ok2.1 ok2.2
        exact ⟨inI (by omega) (by decide), q.2.1, q.2.2, ok, rfl⟩
    · obtain ⟨n2, R2, ok, rfl⟩ := h2
      refine ⟨vp0, fun μ6 e6 => ?_⟩
      obtain ⟨f6, R6, o6⟩ := R2.fin e6
      rw [f6.2.2.1 0 (by decide), f6.2.2.1 6 (by decide), f6.1 39 (by decide)]
      exact ⟨R6, n2, Or.inr ⟨rfl, ok, o6⟩⟩
  · have R3 := h3.1
    have st : ∀ (y : Int32) μ2, RR μ2 g → Fr lkI lkL [9, 11, 12, 13, 14, 15] true μ3 μ2 → DvM μ2 g → (y = 0 ↔ (¬ x < 0 ∧ x < μ2.2.2.1 15)) → t_X9_letter_22 (fun r μ' => RR μ' g ∧ Fr lkI lkL [9, 11, 12, 13, 14, 15] true μ3 μ' ∧ DvM μ' g ∧ ((μ'.2.2.1 9 = 1 ∧ ¬ (¬ x < 0 ∧ x < μ'.2.2.1 15)) ∨ (μ'.2.2.1 9 = 0 ∧ (¬ x < 0 ∧ x < μ'.2.2.1 15) ∧ r = μ'.1 72 x.toNatClampNeg))) x y μ2 := fun y μ2 R2 F2 D2 hy => by
      unfold t_X9_letter_22
      refine ⟨_, m_refused _ _, fun r6 μ6 h6 => ?_⟩
      obtain ⟨f6, v6, z6⟩ := h6
      have R6 := R2.o (f6.mono (by decide) (by decide) (by decide) (fun h => by cases h))
      have F6 : Fr lkI lkL [9, 11, 12, 13, 14, 15] true μ3 μ6 := F2.tr (f6.mono (by decide) (by decide) (by decide) (fun h => by cases h))
      have D6 : DvM μ6 g := D2.fr f6 (by decide) (by decide)
      have e15 : μ6.2.2.1 15 = μ2.2.2.1 15 := f6.2.2.1 15 (by decide)
      refine ⟨fun q => ?_, fun q => ⟨R6, F6, D6, Or.inl ?_⟩⟩
      · have ok := hy.mp (z6.mp q).1
        obtain ⟨m, m1, m2, -⟩ := tlenM R2.1 D2
        have ok2 := ok
        rw [m2] at ok2
        obtain ⟨i, i1, rfl⟩ := ixI (by omega) ok2.1 ok2.2
        exact ⟨inI (by omega) (by decide), R6, F6, D6, Or.inr ⟨by rw [v6, if_pos (z6.mp q).1, if_pos rfl], by rw [e15]; exact ok, rfl⟩⟩
      · have : ¬ y = 0 := fun z => q (z6.mpr ⟨z, rfl⟩)
        exact ⟨by rw [v6, if_neg this], by rw [e15]; exact fun z => this (hy.mpr z)⟩
    unfold sp_X9_letter t_X9_letter_0
    refine ⟨_, m_look R3, fun μ2 q => ?_⟩
    have R2 := R3.look q
    have F2 : Fr lkI lkL [9, 11, 12, 13, 14, 15] true μ3 μ2 := q.1.mono (by decide) (by decide) (by decide) (fun h => h)
    unfold t_X9_letter_17
    exact ⟨fun z => st 1 μ2 R2 F2 q.2.2 ⟨fun y => absurd y (by decide), fun y => absurd z y.1⟩, fun z => ⟨fun z2 => st 0 μ2 R2 F2 q.2.2 ⟨fun _ => ⟨z, z2⟩, fun _ => rfl⟩, fun z2 => st 1 μ2 R2 F2 q.2.2 ⟨fun y => absurd y (by decide), fun y => absurd y.2 z2⟩⟩⟩
  · obtain ⟨R8, F8, D8, h8⟩ := h8
    obtain ⟨rfl, rfl⟩ := h12
    obtain ⟨-, n3, h3⟩ := h3
    have n8 : ¬ μ12.2.2.1 0 = 0 := by rw [F8.2.2.1 0 (by decide)]; exact n3
    obtain ⟨-, m, m1, m2, m3, B⟩ := both R8.1 (R8.2.2.2.2.2.1 n8) D8
    have e6 : μ3.2.2.1 6 = nI m := by rw [← F8.2.2.1 6 (by decide)]; exact m2
    have o8 : μ12.2.1 76 (0 : Int32).toNatClampNeg = μ3.2.1 76 0 := by rw [F8.2.1 76 (by decide)]; rfl
    rw [e6] at h3
    rw [m3] at h8
    rcases h3 with ⟨rfl, no⟩ | ⟨rfl, ok, e2⟩
    · rcases h8 with ⟨v, -⟩ | ⟨v, ok, -⟩
      · exact endK v (fun z => absurd z (by decide)) ⟨g, R8⟩
      · exact absurd ok no
    · rcases h8 with ⟨-, no⟩ | ⟨v, -, hr⟩
      · exact absurd ok no
      · obtain ⟨i, i1, rfl⟩ := ixI (by omega) ok.1 ok.2
        refine endK v (fun _ => ?_) ⟨g, R8⟩
        rw [o8, e2, hr, cI (by omega), ← F8.1 39 (by decide), (B i i1).1]
set_option maxHeartbeats 1000000 in
theorem k_from {μ : MemT} {g : PgT} (h : RR μ g) {xs : Nat → Int32} {L : Nat} {x4 : Int32} (hv : ∀ k, k < 9 → vp_in (x4 + nI k) L) : tw_639 KR xs L x4 μ := by
  unfold tw_639
  generalize hx : xs (x4 + (1 : Int32)).toNatClampNeg = x
  refine ⟨hv 1 (by decide), fun r μ' => RR μ' g ∧ ¬ μ'.2.2.1 0 = 0 ∧ ((r = 1 ∧ ¬ (¬ x < 0 ∧ x < μ'.2.2.1 6)) ∨ (r = 0 ∧ (¬ x < 0 ∧ x < μ'.2.2.1 6) ∧ μ'.2.1 76 0 = (μ'.1 40 x.toNatClampNeg).toInt64)), ?_, fun r5 μ3 h3 => ⟨hv 1 (by decide), fun r μ' => RR μ' g ∧ Fr lkI lkL [9, 11, 12, 13, 14, 15] true μ3 μ' ∧ DvM μ' g ∧ ((μ'.2.2.1 9 = 1 ∧ ¬ (¬ x < 0 ∧ x < μ'.2.2.1 15)) ∨ (μ'.2.2.1 9 = 0 ∧ (¬ x < 0 ∧ x < μ'.2.2.1 15) ∧ r = μ'.1 73 x.toNatClampNeg)), ?_, fun r10 μ8 h8 => ⟨_, m_thrown, fun r14 μ12 h12 => ?_⟩⟩⟩
  · unfold sl_L_from tl_L_from_0
    refine ⟨fun r μ' => ¬ μ'.2.2.1 0 = 0 ∧ RR μ' g ∧ (¬ x < 0 ∧ x < μ'.2.2.1 6) ∧ r = μ'.1 40 x.toNatClampNeg, fun X μ' => X = "java/lang/IndexOutOfBoundsException" ∧ RR μ' g ∧ ¬ μ'.2.2.1 0 = 0 ∧ ¬ (¬ x < 0 ∧ x < μ'.2.2.1 6), ?_, fun X μ0 hX => ⟨hX.1, hX.2.1, hX.2.2.1, Or.inl ⟨rfl, hX.2.2.2⟩⟩, fun r μ2 h2 => ?_⟩
    · unfold sx_X8_from tx_X8_from_0
      refine ⟨_, c_refresh h, fun μ2 q => ?_⟩
      refine ⟨fun μ' => μ' = μ2 ∧ ¬ x < 0 ∧ x < μ2.2.2.1 6, ?_, fun μ5 h5 => ?_⟩
      · unfold sx_X8_requireWithin tx_X8_requireWithin_0
        exact ⟨fun h1 => ⟨rfl, q.2.2, q.2.1, fun z => z.1 h1⟩, fun h1 => ⟨fun h2 => ⟨rfl, h1, h2⟩, fun h2 => ⟨rfl, q.2.2, q.2.1, fun z => h2 z.2⟩⟩⟩
      · obtain ⟨rfl, ok⟩ := h5
        obtain ⟨m, m1, m2, -⟩ := tlen q.2.2.1 (q.2.2.2.2.2.2.2.1 q.2.1)
        have ok2 := ok
        rw [m2] at ok2
        obtain ⟨i, i1, rfl⟩ := ixI (by omega) ok2.1 ok2.2
        exact ⟨inI (by omega) (by decide), q.2.1, q.2.2, ok, rfl⟩
    · obtain ⟨n2, R2, ok, rfl⟩ := h2
      refine ⟨vp0, fun μ6 e6 => ?_⟩
      obtain ⟨f6, R6, o6⟩ := R2.fin e6
      rw [f6.2.2.1 0 (by decide), f6.2.2.1 6 (by decide), f6.1 40 (by decide)]
      exact ⟨R6, n2, Or.inr ⟨rfl, ok, o6⟩⟩
  · have R3 := h3.1
    have st : ∀ (y : Int32) μ2, RR μ2 g → Fr lkI lkL [9, 11, 12, 13, 14, 15] true μ3 μ2 → DvM μ2 g → (y = 0 ↔ (¬ x < 0 ∧ x < μ2.2.2.1 15)) → t_X9_from_22 (fun r μ' => RR μ' g ∧ Fr lkI lkL [9, 11, 12, 13, 14, 15] true μ3 μ' ∧ DvM μ' g ∧ ((μ'.2.2.1 9 = 1 ∧ ¬ (¬ x < 0 ∧ x < μ'.2.2.1 15)) ∨ (μ'.2.2.1 9 = 0 ∧ (¬ x < 0 ∧ x < μ'.2.2.1 15) ∧ r = μ'.1 73 x.toNatClampNeg))) x y μ2 := fun y μ2 R2 F2 D2 hy => by
      unfold t_X9_from_22
      refine ⟨_, m_refused _ _, fun r6 μ6 h6 => ?_⟩
      obtain ⟨f6, v6, z6⟩ := h6
      have R6 := R2.o (f6.mono (by decide) (by decide) (by decide) (fun h => by cases h))
      have F6 : Fr lkI lkL [9, 11, 12, 13, 14, 15] true μ3 μ6 := F2.tr (f6.mono (by decide) (by decide) (by decide) (fun h => by cases h))
      have D6 : DvM μ6 g := D2.fr f6 (by decide) (by decide)
      have e15 : μ6.2.2.1 15 = μ2.2.2.1 15 := f6.2.2.1 15 (by decide)
      refine ⟨fun q => ?_, fun q => ⟨R6, F6, D6, Or.inl ?_⟩⟩
      · have ok := hy.mp (z6.mp q).1
        obtain ⟨m, m1, m2, -⟩ := tlenM R2.1 D2
        have ok2 := ok
        rw [m2] at ok2
        obtain ⟨i, i1, rfl⟩ := ixI (by omega) ok2.1 ok2.2
        exact ⟨inI (by omega) (by decide), R6, F6, D6, Or.inr ⟨by rw [v6, if_pos (z6.mp q).1, if_pos rfl], by rw [e15]; exact ok, rfl⟩⟩
      · have : ¬ y = 0 := fun z => q (z6.mpr ⟨z, rfl⟩)
        exact ⟨by rw [v6, if_neg this], by rw [e15]; exact fun z => this (hy.mpr z)⟩
    unfold sp_X9_from t_X9_from_0
    refine ⟨_, m_look R3, fun μ2 q => ?_⟩
    have R2 := R3.look q
    have F2 : Fr lkI lkL [9, 11, 12, 13, 14, 15] true μ3 μ2 := q.1.mono (by decide) (by decide) (by decide) (fun h => h)
    unfold t_X9_from_17
    exact ⟨fun z => st 1 μ2 R2 F2 q.2.2 ⟨fun y => absurd y (by decide), fun y => absurd z y.1⟩, fun z => ⟨fun z2 => st 0 μ2 R2 F2 q.2.2 ⟨fun _ => ⟨z, z2⟩, fun _ => rfl⟩, fun z2 => st 1 μ2 R2 F2 q.2.2 ⟨fun y => absurd y (by decide), fun y => absurd y.2 z2⟩⟩⟩
  · obtain ⟨R8, F8, D8, h8⟩ := h8
    obtain ⟨rfl, rfl⟩ := h12
    obtain ⟨-, n3, h3⟩ := h3
    have n8 : ¬ μ12.2.2.1 0 = 0 := by rw [F8.2.2.1 0 (by decide)]; exact n3
    obtain ⟨-, m, m1, m2, m3, B⟩ := both R8.1 (R8.2.2.2.2.2.1 n8) D8
    have e6 : μ3.2.2.1 6 = nI m := by rw [← F8.2.2.1 6 (by decide)]; exact m2
    have o8 : μ12.2.1 76 (0 : Int32).toNatClampNeg = μ3.2.1 76 0 := by rw [F8.2.1 76 (by decide)]; rfl
    rw [e6] at h3
    rw [m3] at h8
    rcases h3 with ⟨rfl, no⟩ | ⟨rfl, ok, e2⟩
    · rcases h8 with ⟨v, -⟩ | ⟨v, ok, -⟩
      · exact endK v (fun z => absurd z (by decide)) ⟨g, R8⟩
      · exact absurd ok no
    · rcases h8 with ⟨-, no⟩ | ⟨v, -, hr⟩
      · exact absurd ok no
      · obtain ⟨i, i1, rfl⟩ := ixI (by omega) ok.1 ok.2
        refine endK v (fun _ => ?_) ⟨g, R8⟩
        rw [o8, e2, hr, cI (by omega), ← F8.1 40 (by decide), (B i i1).2]
