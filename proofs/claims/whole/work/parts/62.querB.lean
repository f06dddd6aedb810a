/-! Asking of a letter, of hits, of a share, of a space. -/
theorem RR.fin {μ μ' : MemT} {g : PgT} {v : Int64} (h : RR μ g) (e : μ' = mwL μ 76 (0 : Int32) v) : Fr [] [76] [9] true μ μ' ∧ RR μ' g ∧ μ'.2.1 76 0 = v := by
  have f6 : Fr [] [76] [9] true μ μ' := by rw [e]; exact Fr.wL _ _ _ (by decide)
  exact ⟨f6, h.o f6, by rw [e, mL_21, upE]; exact ulE _ _ _⟩
set_option maxHeartbeats 1000000 in
theorem k_space {μ : MemT} {g : PgT} (h : RR μ g) {xs : Nat → Int32} {L : Nat} {x4 : Int32} (hv : ∀ k, k < 9 → vp_in (x4 + nI k) L) : tw_863 KR xs L x4 μ := by
  have hn := h.1.1
  unfold tw_863
  generalize hx : xs (x4 + (1 : Int32)).toNatClampNeg = x
  refine ⟨hv 1 (by decide), fun r μ' => RR μ' g ∧ ((r = 1 ∧ ¬ (¬ x < 0 ∧ x < nI (pN g))) ∨ (r = 0 ∧ (¬ x < 0 ∧ x < nI (pN g)) ∧ ¬ μ'.2.2.1 0 = 0 ∧ ∃ s, s < pN g ∧ x = nI s ∧ μ'.2.1 76 0 = (if μ'.1 28 s = 0 then (0 : Int64) else 1))), ?_, fun r5 μ3 h3 => ⟨hv 1 (by decide), fun r μ' => RR μ' g ∧ Fr lkI lkL [9, 11, 12, 13, 14, 15] true μ3 μ' ∧ DvM μ' g ∧ ((μ'.2.2.1 9 = 1 ∧ ¬ (¬ x < 0 ∧ x < nI (pN g))) ∨ (μ'.2.2.1 9 = 0 ∧ (¬ x < 0 ∧ x < nI (pN g)) ∧ ∀ s, s < pN g → x = nI s → (r = 0 ↔ μ'.1 62 s = 0))), ?_, fun r10 μ8 h8 => ⟨_, m_thrown, fun r14 μ12 h12 => ?_⟩⟩⟩
  · unfold sl_L_space tl_L_space_0
    refine ⟨fun r μ' => ¬ μ'.2.2.1 0 = 0 ∧ RR μ' g ∧ (¬ x < 0 ∧ x < nI (pN g)) ∧ ∃ s, s < pN g ∧ x = nI s ∧ r = μ'.1 28 s, fun X μ' => X = "java/util/NoSuchElementException" ∧ μ' = μ ∧ ¬ (¬ x < 0 ∧ x < nI (pN g)), ?_, fun X μ0 hX => ⟨hX.1, by rw [hX.2.1]; exact ⟨h, Or.inl ⟨rfl, hX.2.2⟩⟩⟩, fun r μ2 h2 => ?_⟩
    · unfold sx_X8_space tx_X8_space_0
      refine ⟨_, c_reqSign h.2.2.1 x, fun μ2 h2 => ?_⟩
      obtain ⟨rfl, ok⟩ := h2
      obtain ⟨s, s1, rfl⟩ := ixI (by omega) ok.1 ok.2
      refine ⟨_, c_refresh h, fun μ5 q => ?_⟩
      rw [cI (by omega)]
      refine ⟨inI (by omega) (by decide), ?_, q.2.1, q.2.2, ok, s, s1, rfl, rfl⟩
      obtain ⟨d, c, la, r, P, n, al, b, τ, D, O, A, B⟩ := q.2.2.2.2.2.2.2.1 q.2.1
      rw [(O.1 s s1).2.2.2]
      split
      · cases (decide (sX r P s + 1 < P) && spF g la r (sX r P s))
        · exact Or.inl rfl
        · exact Or.inr rfl
      · exact Or.inl rfl
    · obtain ⟨n2, R2, ok, s, s1, e1, e2⟩ := h2
      refine ⟨fun z => ⟨vp0, fun μ6 e6 => ?_⟩, fun z => ⟨vp0, fun μ6 e6 => ?_⟩⟩
      · obtain ⟨f6, R6, o6⟩ := R2.fin e6
        refine ⟨R6, Or.inr ⟨rfl, ok, by rw [f6.2.2.1 0 (by decide)]; exact n2, s, s1, e1, ?_⟩⟩
        rw [o6, if_pos (by rw [f6.1 28 (by decide), ← e2]; exact z)]
      · obtain ⟨f6, R6, o6⟩ := R2.fin e6
        refine ⟨R6, Or.inr ⟨rfl, ok, by rw [f6.2.2.1 0 (by decide)]; exact n2, s, s1, e1, ?_⟩⟩
        rw [o6, if_neg (by rw [f6.1 28 (by decide), ← e2]; exact z)]
  · have R3 := h3.1
    unfold sp_X9_space t_X9_space_0
    refine ⟨_, m_look R3, fun μ4 q4 => ⟨_, m_isNoSign (R3.look q4).2.2.2.1 x, fun r5' μ5 h5 => ?_⟩⟩
    obtain ⟨rfl, h5⟩ := h5
    have R4 := R3.look q4
    refine ⟨_, m_refused _ _, fun r6 μ6 h6 => ?_⟩
    obtain ⟨f6, v6, z6⟩ := h6
    have f6' : Fr [] [76] [9] true μ5 μ6 := f6.mono (by decide) (by decide) (by decide) (fun h => by cases h)
    have R6 := R4.o f6'
    have F6 : Fr lkI lkL [9, 11, 12, 13, 14, 15] true μ3 μ6 := (q4.1.mono (by decide) (by decide) (by decide) (fun h => h)).tr (f6.mono (by decide) (by decide) (by decide) (fun h => by cases h))
    have D6 : DvM μ6 g := q4.2.2.fr f6 (by decide) (by decide)
    refine ⟨fun h7 => ?_, fun h7 => ?_⟩
    · refine ⟨R6, F6, D6, Or.inl ?_⟩
      rcases h5 with ⟨a, b⟩ | ⟨a, -⟩
      · exact ⟨by rw [v6, if_neg (by rw [a]; decide)], b⟩
      · exact absurd (z6.mpr ⟨a, rfl⟩) h7
    · obtain ⟨z1, -⟩ := z6.mp h7
      have ok : ¬ x < 0 ∧ x < nI (pN g) := by
        rcases h5 with ⟨a, -⟩ | ⟨-, a⟩
        · rw [z1] at a; exact absurd a (by decide)
        · exact a
      have v6' : μ6.2.2.1 9 = 0 := by rw [v6, if_pos z1, if_pos rfl]
      obtain ⟨s, s1, rfl⟩ := ixI (by omega) ok.1 ok.2
      rw [cI (by omega)]
      refine ⟨inI (by omega) (by decide), fun z => ⟨R6, F6, D6, Or.inr ⟨v6', ok, fun s' s1' e' => ?_⟩⟩, fun z => ⟨R6, F6, D6, Or.inr ⟨v6', ok, fun s' s1' e' => ?_⟩⟩⟩
      · rw [← nI_inj (by omega) (by omega) e']; exact ⟨fun _ => z, fun _ => rfl⟩
      · rw [← nI_inj (by omega) (by omega) e']; exact ⟨fun q => absurd q (by decide), fun q => absurd q z⟩
  · obtain ⟨R8, F8, D8, h8⟩ := h8
    obtain ⟨rfl, rfl⟩ := h12
    obtain ⟨-, h3⟩ := h3
    rcases h3 with ⟨rfl, no⟩ | ⟨rfl, ok, n3, s, s1, e1, e2⟩
    · rcases h8 with ⟨v, -⟩ | ⟨v, ok, -⟩
      · exact ⟨fun _ => ⟨fun _ => ⟨g, R8⟩, fun z => absurd z (by decide)⟩, fun z => z v⟩
      · exact absurd ok no
    · have n8 : ¬ μ12.2.2.1 0 = 0 := by rw [F8.2.2.1 0 (by decide)]; exact n3
      have B := (both R8.1 (R8.2.2.2.2.2.1 n8) D8).1 s s1
      have o8 : μ12.2.1 76 (0 : Int32).toNatClampNeg = μ3.2.1 76 0 := by rw [F8.2.1 76 (by decide)]; rfl
      rcases h8 with ⟨-, no⟩ | ⟨v, -, hr⟩
      · exact absurd ok no
      · have hr := hr s s1 e1
        rw [← B.2.2.2, F8.1 28 (by decide)] at hr
        refine ⟨fun _ => ⟨fun z => absurd rfl z, fun _ => ⟨vp0, fun z => ?_, fun z => ?_⟩⟩, fun z => z v⟩
        · unfold tw_917
          rw [o8, e2, if_pos (hr.mp z)]
          exact ⟨fun _ => ⟨g, R8⟩, fun q => q rfl⟩
        · unfold tw_917
          rw [o8, e2, if_neg (fun q => z (hr.mpr q))]
          exact ⟨fun _ => ⟨g, R8⟩, fun q => q rfl⟩
theorem k_share {μ : MemT} {g : PgT} (h : RR μ g) {xs : Nat → Int32} {L : Nat} {x4 : Int32} (hv : ∀ k, k < 9 → vp_in (x4 + nI k) L) : tw_926 KR xs L x4 μ := by
  unfold tw_926
  generalize (((xs (x4 + (1 : Int32)).toNatClampNeg).toInt64 <<< ((32 : Int32).toInt64 &&& 63)) ||| ((xs (x4 + (2 : Int32)).toNatClampNeg).toInt64 &&& (4294967295 : Int64))) = a
  generalize (((xs (x4 + (3 : Int32)).toNatClampNeg).toInt64 <<< ((32 : Int32).toInt64 &&& 63)) ||| ((xs (x4 + (4 : Int32)).toNatClampNeg).toInt64 &&& (4294967295 : Int64))) = w
  refine ⟨hv 1 (by decide), hv 2 (by decide), hv 3 (by decide), hv 4 (by decide), fun r μ' => RR μ' g ∧ ((r = 1 ∧ w = 0) ∨ (r = 0 ∧ ¬ w = 0 ∧ μ'.2.1 76 0 = 1000 * a / w)), ?_, fun r5 μ3 h3 => ⟨hv 1 (by decide), hv 2 (by decide), hv 3 (by decide), hv 4 (by decide), fun r μ' => RR μ' g ∧ Fr [] [76] [9] false μ3 μ' ∧ ((μ'.2.2.1 9 = 1 ∧ w = 0) ∨ (μ'.2.2.1 9 = 0 ∧ ¬ w = 0 ∧ r = 1000 * a / w)) ∧ μ'.2.1 76 = μ3.2.1 76, ?_, fun r10 μ8 h8 => ⟨_, m_thrown, fun r14 μ12 h12 => ?_⟩⟩⟩
  · unfold sl_L_share tl_L_share_0
    refine ⟨fun r μ' => μ' = μ ∧ ¬ w = 0 ∧ r = 1000 * a / w, fun X μ' => X = "java/lang/ArithmeticException" ∧ μ' = μ ∧ w = 0, ?_, fun X μ0 hX => ⟨hX.1, by rw [hX.2.1]; exact ⟨h, Or.inl ⟨rfl, hX.2.2⟩⟩⟩, fun r μ2 h2 => ?_⟩
    · unfold sx_X8_share tx_X8_share_0
      refine ⟨fun z => ⟨fun r μ' => μ' = μ ∧ r = 1000 * a / w, ?_, fun r μ2 h2 => ⟨h2.1, z, h2.2⟩⟩, fun z => ⟨rfl, rfl, z⟩⟩
      unfold sp_X8_shareOf t_X8_shareOf_0
      exact ⟨fun q => ⟨q, rfl, rfl⟩, fun q => absurd q z⟩
    · obtain ⟨rfl, z, rfl⟩ := h2
      refine ⟨vp0, fun μ6 e6 => ?_⟩
      obtain ⟨f6, R6, o6⟩ := h.fin e6
      exact ⟨R6, Or.inr ⟨rfl, z, o6⟩⟩
  · have R3 := h3.1
    have st : ∀ y : Int32, (y = 0 ↔ ¬ w = 0) → t_X9_share_12 (fun r μ' => RR μ' g ∧ Fr [] [76] [9] false μ3 μ' ∧ ((μ'.2.2.1 9 = 1 ∧ w = 0) ∨ (μ'.2.2.1 9 = 0 ∧ ¬ w = 0 ∧ r = 1000 * a / w)) ∧ μ'.2.1 76 = μ3.2.1 76) a w y μ3 := fun y hy => by
      unfold t_X9_share_12
      refine ⟨_, m_refused _ _, fun r6 μ6 h6 => ?_⟩
      obtain ⟨f6, v6, z6⟩ := h6
      have f6' : Fr [] [76] [9] false μ3 μ6 := f6.mono (by decide) (by decide) (by decide) (fun h => h)
      have R6 := R3.o (f6.mono (by decide) (by decide) (by decide) (fun h => by cases h))
      refine ⟨fun q => ⟨hy.mp (z6.mp q).1, R6, f6', Or.inr ⟨by rw [v6, if_pos (z6.mp q).1, if_pos rfl], hy.mp (z6.mp q).1, rfl⟩, f6.2.1 76 (by decide)⟩, fun q => ⟨R6, f6', Or.inl ?_, f6.2.1 76 (by decide)⟩⟩
      have : ¬ y = 0 := fun z => q (z6.mpr ⟨z, rfl⟩)
      exact ⟨by rw [v6, if_neg this], Classical.not_not.mp (fun z => this (hy.mpr z))⟩
    unfold sp_X9_share t_X9_share_0
    exact ⟨fun z => st 0 ⟨fun _ => z, fun _ => rfl⟩, fun z => st 1 ⟨fun q => absurd q (by decide), fun q => absurd z q⟩⟩
  · obtain ⟨R8, F8, h8, o⟩ := h8
    obtain ⟨rfl, rfl⟩ := h12
    obtain ⟨-, h3⟩ := h3
    have o8 : μ12.2.1 76 (0 : Int32).toNatClampNeg = μ3.2.1 76 0 := by rw [o]; rfl
    rcases h3 with ⟨rfl, no⟩ | ⟨rfl, ok, e2⟩
    · rcases h8 with ⟨v, -⟩ | ⟨v, ok, -⟩
      · exact endK v (fun z => absurd z (by decide)) ⟨g, R8⟩
      · exact absurd no ok
    · rcases h8 with ⟨-, no⟩ | ⟨v, -, hr⟩
      · exact absurd no ok
      · exact endK v (fun _ => by rw [o8, e2, hr]) ⟨g, R8⟩
