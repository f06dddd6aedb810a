/-! Asking of a sign. -/
set_option maxHeartbeats 1000000 in
theorem k_line {μ : MemT} {g : PgT} (h : RR μ g) {xs : Nat → Int32} {L : Nat} {x4 : Int32} (hv : ∀ k, k < 9 → vp_in (x4 + nI k) L) : tw_695 KR xs L x4 μ := by
  have hn := h.1.1
  unfold tw_695
  generalize hx : xs (x4 + (1 : Int32)).toNatClampNeg = x
  refine ⟨hv 1 (by decide), fun r μ' => RR μ' g ∧ ((r = 1 ∧ ¬ (¬ x < 0 ∧ x < nI (pN g))) ∨ (r = 0 ∧ (¬ x < 0 ∧ x < nI (pN g)) ∧ ¬ μ'.2.2.1 0 = 0 ∧ ∃ s, s < pN g ∧ x = nI s ∧ μ'.2.1 76 0 = ((fun (μ : MemT) (s : Nat) => μ.1 26 s) μ' s).toInt64)), ?_, fun r5 μ3 h3 => ⟨hv 1 (by decide), fun r μ' => RR μ' g ∧ Fr lkI lkL [9, 11, 12, 13, 14, 15] true μ3 μ' ∧ DvM μ' g ∧ ((μ'.2.2.1 9 = 1 ∧ ¬ (¬ x < 0 ∧ x < nI (pN g))) ∨ (μ'.2.2.1 9 = 0 ∧ (¬ x < 0 ∧ x < nI (pN g)) ∧ ∀ s, s < pN g → x = nI s → r = (fun (μ : MemT) (s : Nat) => μ.1 59 s) μ' s)), ?_, fun r10 μ8 h8 => ⟨_, m_thrown, fun r14 μ12 h12 => ?_⟩⟩⟩
  · unfold sl_L_line tl_L_line_0
    refine ⟨fun r μ' => ¬ μ'.2.2.1 0 = 0 ∧ RR μ' g ∧ (¬ x < 0 ∧ x < nI (pN g)) ∧ ∃ s, s < pN g ∧ x = nI s ∧ r = (fun (μ : MemT) (s : Nat) => μ.1 26 s) μ' s, fun X μ' => X = "java/util/NoSuchElementException" ∧ μ' = μ ∧ ¬ (¬ x < 0 ∧ x < nI (pN g)), ?_, fun X μ0 hX => ⟨hX.1, by rw [hX.2.1]; exact ⟨h, Or.inl ⟨rfl, hX.2.2⟩⟩⟩, fun r μ2 h2 => ?_⟩
    · unfold sx_X8_line tx_X8_line_0
      refine ⟨_, c_reqSign h.2.2.1 x, fun μ2 h2 => ?_⟩
      obtain ⟨rfl, ok⟩ := h2
      obtain ⟨s, s1, rfl⟩ := ixI (by omega) ok.1 ok.2
      refine ⟨_, c_refresh h, fun μ5 q => ?_⟩
      rw [cI (by omega)]
      exact ⟨inI (by omega) (by decide), q.2.1, q.2.2, ok, s, s1, rfl, rfl⟩
    · obtain ⟨n2, R2, ok, s, s1, e1, e2⟩ := h2
      refine ⟨vp0, fun μ6 e6 => ?_⟩
      have f6 : Fr [] [76] [9] true μ2 μ6 := by rw [e6]; exact Fr.wL _ _ _ (by decide)
      refine ⟨R2.o f6, Or.inr ⟨rfl, ok, by rw [f6.2.2.1 0 (by decide)]; exact n2, s, s1, e1, ?_⟩⟩
      rw [e6, mL_21, upE, e2]
      exact (ulE _ _ _).trans (by show (μ2.1 26 s).toInt64 = (μ2.1 26 s).toInt64; rfl)
  · have R3 := h3.1
    unfold sp_X9_line t_X9_line_0
    refine ⟨_, m_look R3, fun μ4 q4 => ⟨_, m_isNoSign (R3.look q4).2.2.2.1 x, fun r5' μ5 h5 => ?_⟩⟩
    obtain ⟨rfl, h5⟩ := h5
    have R4 := R3.look q4
    refine ⟨_, m_refused _ _, fun r6 μ6 h6 => ?_⟩
    obtain ⟨f6, v6, z6⟩ := h6
    have f6' : Fr [] [76] [9] true μ5 μ6 := f6.mono (by decide) (by decide) (by decide) (fun h => by cases h)
    have R6 := R4.o f6'
    have F6 : Fr lkI lkL [9, 11, 12, 13, 14, 15] true μ3 μ6 := (q4.1.mono (by decide) (by decide) (by decide) (fun h => h)).tr (f6.mono (by decide) (by decide) (by decide) (fun h => by cases h))
    have D6 : DvM μ6 g := q4.2.2.fr f6 (by decide) (by decide)
    refine ⟨fun h7 => ?_, fun h7 => ?_⟩
    · obtain ⟨z1, -⟩ := z6.mp h7
      have ok : ¬ x < 0 ∧ x < nI (pN g) := by
        rcases h5 with ⟨a, -⟩ | ⟨-, a⟩
        · rw [z1] at a; exact absurd a (by decide)
        · exact a
      have v6' : μ6.2.2.1 9 = 0 := by rw [v6, if_pos z1, if_pos rfl]
      obtain ⟨s, s1, rfl⟩ := ixI (by omega) ok.1 ok.2
      rw [cI (by omega)]
      exact ⟨inI (by omega) (by decide), R6, F6, D6, Or.inr ⟨v6', ok, fun s' s1' e' => by rw [nI_inj (by omega) (by omega) e']⟩⟩
    · refine ⟨R6, F6, D6, Or.inl ?_⟩
      rcases h5 with ⟨a, b⟩ | ⟨a, -⟩
      · exact ⟨by rw [v6, if_neg (by rw [a]; decide)], b⟩
      · exact absurd (z6.mpr ⟨a, rfl⟩) h7
  · obtain ⟨R8, F8, D8, h8⟩ := h8
    obtain ⟨rfl, rfl⟩ := h12
    obtain ⟨-, h3⟩ := h3
    rcases h3 with ⟨rfl, no⟩ | ⟨rfl, ok, n3, s, s1, e1, e2⟩
    · rcases h8 with ⟨v, -⟩ | ⟨v, ok, -⟩
      · exact endK v (fun z => absurd z (by decide)) ⟨g, R8⟩
      · exact absurd ok no
    · have n8 : ¬ μ12.2.2.1 0 = 0 := by rw [F8.2.2.1 0 (by decide)]; exact n3
      have B := (both R8.1 (R8.2.2.2.2.2.1 n8) D8).1 s s1
      have o8 : μ12.2.1 76 (0 : Int32).toNatClampNeg = μ3.2.1 76 0 := by rw [F8.2.1 76 (by decide)]; rfl
      rcases h8 with ⟨-, no⟩ | ⟨v, -, hr⟩
      · exact absurd ok no
      · have hr := hr s s1 e1
        exact endK v (fun _ => by rw [o8, e2, hr]; show (μ3.1 26 s).toInt64 = (μ12.1 59 s).toInt64; rw [← B.2.1, F8.1 26 (by decide)]) ⟨g, R8⟩
set_option maxHeartbeats 1000000 in
theorem k_twice {μ : MemT} {g : PgT} (h : RR μ g) {xs : Nat → Int32} {L : Nat} {x4 : Int32} (hv : ∀ k, k < 9 → vp_in (x4 + nI k) L) : tw_807 KR xs L x4 μ := by
  have hn := h.1.1
  unfold tw_807
  generalize hx : xs (x4 + (1 : Int32)).toNatClampNeg = x
  refine ⟨hv 1 (by decide), fun r μ' => RR μ' g ∧ ((r = 1 ∧ ¬ (¬ x < 0 ∧ x < nI (pN g))) ∨ (r = 0 ∧ (¬ x < 0 ∧ x < nI (pN g)) ∧ ¬ μ'.2.2.1 0 = 0 ∧ ∃ s, s < pN g ∧ x = nI s ∧ μ'.2.1 76 0 = ((fun (μ : MemT) (s : Nat) => μ.1 23 s) μ' s).toInt64)), ?_, fun r5 μ3 h3 => ⟨hv 1 (by decide), fun r μ' => RR μ' g ∧ Fr lkI lkL [9, 11, 12, 13, 14, 15] true μ3 μ' ∧ DvM μ' g ∧ ((μ'.2.2.1 9 = 1 ∧ ¬ (¬ x < 0 ∧ x < nI (pN g))) ∨ (μ'.2.2.1 9 = 0 ∧ (¬ x < 0 ∧ x < nI (pN g)) ∧ ∀ s, s < pN g → x = nI s → r = (fun (μ : MemT) (s : Nat) => μ.1 58 s) μ' s)), ?_, fun r10 μ8 h8 => ⟨_, m_thrown, fun r14 μ12 h12 => ?_⟩⟩⟩
  · unfold sl_L_twice tl_L_twice_0
    refine ⟨fun r μ' => ¬ μ'.2.2.1 0 = 0 ∧ RR μ' g ∧ (¬ x < 0 ∧ x < nI (pN g)) ∧ ∃ s, s < pN g ∧ x = nI s ∧ r = (fun (μ : MemT) (s : Nat) => μ.1 23 s) μ' s, fun X μ' => X = "java/util/NoSuchElementException" ∧ μ' = μ ∧ ¬ (¬ x < 0 ∧ x < nI (pN g)), ?_, fun X μ0 hX => ⟨hX.1, by rw [hX.2.1]; exact ⟨h, Or.inl ⟨rfl, hX.2.2⟩⟩⟩, fun r μ2 h2 => ?_⟩
    · unfold sx_X8_twice tx_X8_twice_0
      refine ⟨_, c_reqSign h.2.2.1 x, fun μ2 h2 => ?_⟩
      obtain ⟨rfl, ok⟩ := h2
      obtain ⟨s, s1, rfl⟩ := ixI (by omega) ok.1 ok.2
      refine ⟨_, c_refresh h, fun μ5 q => ?_⟩
      rw [cI (by omega)]
      exact ⟨inI (by omega) (by decide), q.2.1, q.2.2, ok, s, s1, rfl, rfl⟩
    · obtain ⟨n2, R2, ok, s, s1, e1, e2⟩ := h2
      refine ⟨vp0, fun μ6 e6 => ?_⟩
      have f6 : Fr [] [76] [9] true μ2 μ6 := by rw [e6]; exact Fr.wL _ _ _ (by decide)
      refine ⟨R2.o f6, Or.inr ⟨rfl, ok, by rw [f6.2.2.1 0 (by decide)]; exact n2, s, s1, e1, ?_⟩⟩
      rw [e6, mL_21, upE, e2]
      exact (ulE _ _ _).trans (by show (μ2.1 23 s).toInt64 = (μ2.1 23 s).toInt64; rfl)
  · have R3 := h3.1
    unfold sp_X9_twice t_X9_twice_0
    refine ⟨_, m_look R3, fun μ4 q4 => ⟨_, m_isNoSign (R3.look q4).2.2.2.1 x, fun r5' μ5 h5 => ?_⟩⟩
    obtain ⟨rfl, h5⟩ := h5
    have R4 := R3.look q4
    refine ⟨_, m_refused _ _, fun r6 μ6 h6 => ?_⟩
    obtain ⟨f6, v6, z6⟩ := h6
    have f6' : Fr [] [76] [9] true μ5 μ6 := f6.mono (by decide) (by decide) (by decide) (fun h => by cases h)
    have R6 := R4.o f6'
    have F6 : Fr lkI lkL [9, 11, 12, 13, 14, 15] true μ3 μ6 := (q4.1.mono (by decide) (by decide) (by decide) (fun h => h)).tr (f6.mono (by decide) (by decide) (by decide) (fun h => by cases h))
    have D6 : DvM μ6 g := q4.2.2.fr f6 (by decide) (by decide)
    refine ⟨fun h7 => ?_, fun h7 => ?_⟩
    · obtain ⟨z1, -⟩ := z6.mp h7
      have ok : ¬ x < 0 ∧ x < nI (pN g) := by
        rcases h5 with ⟨a, -⟩ | ⟨-, a⟩
        · rw [z1] at a; exact absurd a (by decide)
        · exact a
      have v6' : μ6.2.2.1 9 = 0 := by rw [v6, if_pos z1, if_pos rfl]
      obtain ⟨s, s1, rfl⟩ := ixI (by omega) ok.1 ok.2
      rw [cI (by omega)]
      exact ⟨inI (by omega) (by decide), R6, F6, D6, Or.inr ⟨v6', ok, fun s' s1' e' => by rw [nI_inj (by omega) (by omega) e']⟩⟩
    · refine ⟨R6, F6, D6, Or.inl ?_⟩
      rcases h5 with ⟨a, b⟩ | ⟨a, -⟩
      · exact ⟨by rw [v6, if_neg (by rw [a]; decide)], b⟩
      · exact absurd (z6.mpr ⟨a, rfl⟩) h7
  · obtain ⟨R8, F8, D8, h8⟩ := h8
    obtain ⟨rfl, rfl⟩ := h12
    obtain ⟨-, h3⟩ := h3
    rcases h3 with ⟨rfl, no⟩ | ⟨rfl, ok, n3, s, s1, e1, e2⟩
    · rcases h8 with ⟨v, -⟩ | ⟨v, ok, -⟩
      · exact endK v (fun z => absurd z (by decide)) ⟨g, R8⟩
      · exact absurd ok no
    · have n8 : ¬ μ12.2.2.1 0 = 0 := by rw [F8.2.2.1 0 (by decide)]; exact n3
      have B := (both R8.1 (R8.2.2.2.2.2.1 n8) D8).1 s s1
      have o8 : μ12.2.1 76 (0 : Int32).toNatClampNeg = μ3.2.1 76 0 := by rw [F8.2.1 76 (by decide)]; rfl
      rcases h8 with ⟨-, no⟩ | ⟨v, -, hr⟩
      · exact absurd ok no
      · have hr := hr s s1 e1
        exact endK v (fun _ => by rw [o8, e2, hr]; show (μ3.1 23 s).toInt64 = (μ12.1 58 s).toInt64; rw [← B.1, F8.1 23 (by decide)]) ⟨g, R8⟩
set_option maxHeartbeats 1000000 in
theorem k_block {μ : MemT} {g : PgT} (h : RR μ g) {xs : Nat → Int32} {L : Nat} {x4 : Int32} (hv : ∀ k, k < 9 → vp_in (x4 + nI k) L) : tw_751 KR xs L x4 μ := by
  have hn := h.1.1
  unfold tw_751
  generalize hx : xs (x4 + (1 : Int32)).toNatClampNeg = x
  refine ⟨hv 1 (by decide), fun r μ' => RR μ' g ∧ ((r = 1 ∧ ¬ (¬ x < 0 ∧ x < nI (pN g))) ∨ (r = 0 ∧ (¬ x < 0 ∧ x < nI (pN g)) ∧ ¬ μ'.2.2.1 0 = 0 ∧ ∃ s, s < pN g ∧ x = nI s ∧ μ'.2.1 76 0 = (bkC μ' s).toInt64)), ?_, fun r5 μ3 h3 => ⟨hv 1 (by decide), fun r μ' => RR μ' g ∧ Fr lkI lkL [9, 11, 12, 13, 14, 15] true μ3 μ' ∧ DvM μ' g ∧ ((μ'.2.2.1 9 = 1 ∧ ¬ (¬ x < 0 ∧ x < nI (pN g))) ∨ (μ'.2.2.1 9 = 0 ∧ (¬ x < 0 ∧ x < nI (pN g)) ∧ ∀ s, s < pN g → x = nI s → r = bkM μ' s)), ?_, fun r10 μ8 h8 => ⟨_, m_thrown, fun r14 μ12 h12 => ?_⟩⟩⟩
  · unfold sl_L_block tl_L_block_0
    refine ⟨fun r μ' => ¬ μ'.2.2.1 0 = 0 ∧ RR μ' g ∧ (¬ x < 0 ∧ x < nI (pN g)) ∧ ∃ s, s < pN g ∧ x = nI s ∧ r = bkC μ' s, fun X μ' => X = "java/util/NoSuchElementException" ∧ μ' = μ ∧ ¬ (¬ x < 0 ∧ x < nI (pN g)), ?_, fun X μ0 hX => ⟨hX.1, by rw [hX.2.1]; exact ⟨h, Or.inl ⟨rfl, hX.2.2⟩⟩⟩, fun r μ2 h2 => ?_⟩
    · unfold sx_X8_block tx_X8_block_0
      refine ⟨_, c_reqSign h.2.2.1 x, fun μ2 h2 => ?_⟩
      obtain ⟨rfl, ok⟩ := h2
      obtain ⟨s, s1, rfl⟩ := ixI (by omega) ok.1 ok.2
      refine ⟨_, c_refresh h, fun μ5 q => ?_⟩
      refine ⟨fun r μ' => μ' = μ5 ∧ r = bkC μ5 s, ?_, fun r μ8 h8 => ?_⟩
      · unfold sp_X0_blockOfSign t_X0_blockOfSign_0
        obtain ⟨d, c, la, r, P, n, al, b, τ, D, O, A, B⟩ := q.2.2.2.2.2.2.2.1 q.2.1
        rw [cI (by omega)]
        refine ⟨inI (by omega) (by decide), fun h0 => ?_, fun h0 => ⟨rfl, by unfold bkC; rw [if_neg h0]⟩⟩
        rcases A s s1 with e | ⟨k, k1, k2⟩
        · rw [e] at h0; exact absurd h0 (by decide)
        · exact ⟨by rw [k2]; exact inI k1 (by decide), rfl, by unfold bkC; rw [if_pos h0]⟩
      · obtain ⟨rfl, rfl⟩ := h8
        exact ⟨q.2.1, q.2.2, ok, s, s1, rfl, rfl⟩
    · obtain ⟨n2, R2, ok, s, s1, e1, e2⟩ := h2
      refine ⟨vp0, fun μ6 e6 => ?_⟩
      have f6 : Fr [] [76] [9] true μ2 μ6 := by rw [e6]; exact Fr.wL _ _ _ (by decide)
      refine ⟨R2.o f6, Or.inr ⟨rfl, ok, by rw [f6.2.2.1 0 (by decide)]; exact n2, s, s1, e1, ?_⟩⟩
      rw [e6, mL_21, upE, e2]
      exact (ulE _ _ _).trans (by rfl)
  · have R3 := h3.1
    unfold sp_X9_block t_X9_block_0
    refine ⟨_, m_look R3, fun μ4 q4 => ⟨_, m_isNoSign (R3.look q4).2.2.2.1 x, fun r5' μ5 h5 => ?_⟩⟩
    obtain ⟨rfl, h5⟩ := h5
    have R4 := R3.look q4
    refine ⟨_, m_refused _ _, fun r6 μ6 h6 => ?_⟩
    obtain ⟨f6, v6, z6⟩ := h6
    have f6' : Fr [] [76] [9] true μ5 μ6 := f6.mono (by decide) (by decide) (by decide) (fun h => by cases h)
    have R6 := R4.o f6'
    have F6 : Fr lkI lkL [9, 11, 12, 13, 14, 15] true μ3 μ6 := (q4.1.mono (by decide) (by decide) (by decide) (fun h => h)).tr (f6.mono (by decide) (by decide) (by decide) (fun h => by cases h))
    have D6 : DvM μ6 g := q4.2.2.fr f6 (by decide) (by decide)
    refine ⟨fun h7 => ?_, fun h7 => ?_⟩
    · obtain ⟨z1, -⟩ := z6.mp h7
      have ok : ¬ x < 0 ∧ x < nI (pN g) := by
        rcases h5 with ⟨a, -⟩ | ⟨-, a⟩
        · rw [z1] at a; exact absurd a (by decide)
        · exact a
      have v6' : μ6.2.2.1 9 = 0 := by rw [v6, if_pos z1, if_pos rfl]
      obtain ⟨s, s1, rfl⟩ := ixI (by omega) ok.1 ok.2
      refine ⟨fun r μ' => μ' = μ6 ∧ r = bkM μ6 s, ?_, fun r μ7 h7 => ?_⟩
      · unfold sp_X9_groupOf t_X9_groupOf_0
        obtain ⟨d, c, la, r, P, n, al, b, τ, D, O, A, B⟩ := D6
        rw [cI (by omega)]
        refine ⟨inI (by omega) (by decide), fun h0 => ?_, fun h0 => ⟨rfl, by unfold bkM; rw [if_pos h0]⟩⟩
        rcases A s s1 with e | ⟨k, k1, k2⟩
        · exact absurd e h0
        · exact ⟨inI (by omega) (by decide), by rw [k2]; exact inI k1 (by decide), rfl, by unfold bkM; rw [if_neg h0]⟩
      · obtain ⟨rfl, rfl⟩ := h7
        exact ⟨R6, F6, D6, Or.inr ⟨v6', ok, fun s' s1' e' => by rw [nI_inj (by omega) (by omega) e']⟩⟩
    · refine ⟨R6, F6, D6, Or.inl ?_⟩
      rcases h5 with ⟨a, b⟩ | ⟨a, -⟩
      · exact ⟨by rw [v6, if_neg (by rw [a]; decide)], b⟩
      · exact absurd (z6.mpr ⟨a, rfl⟩) h7
  · obtain ⟨R8, F8, D8, h8⟩ := h8
    obtain ⟨rfl, rfl⟩ := h12
    obtain ⟨-, h3⟩ := h3
    rcases h3 with ⟨rfl, no⟩ | ⟨rfl, ok, n3, s, s1, e1, e2⟩
    · rcases h8 with ⟨v, -⟩ | ⟨v, ok, -⟩
      · exact endK v (fun z => absurd z (by decide)) ⟨g, R8⟩
      · exact absurd ok no
    · have n8 : ¬ μ12.2.2.1 0 = 0 := by rw [F8.2.2.1 0 (by decide)]; exact n3
      have B := (both R8.1 (R8.2.2.2.2.2.1 n8) D8).1 s s1
      have o8 : μ12.2.1 76 (0 : Int32).toNatClampNeg = μ3.2.1 76 0 := by rw [F8.2.1 76 (by decide)]; rfl
      rcases h8 with ⟨-, no⟩ | ⟨v, -, hr⟩
      · exact absurd ok no
      · have hr := hr s s1 e1
        have kk : bkC μ12 s = bkC μ3 s := by unfold bkC; rw [F8.1 27 (by decide), F8.1 35 (by decide)]
        exact endK v (fun _ => by rw [o8, e2, hr]; show (bkC μ3 s).toInt64 = (bkM μ12 s).toInt64; rw [← B.2.2.1, kk]) ⟨g, R8⟩
