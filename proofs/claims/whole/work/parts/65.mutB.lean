/-! Tags; hits. -/
theorem m_isIn {μ : MemT} (a lo hi : Int64) : sp_X9_isIn a lo hi μ (fun r μ' => μ' = μ ∧ ((r = 1 ∧ lo.toInt ≤ a.toInt ∧ a.toInt ≤ hi.toInt) ∨ (r = 0 ∧ ¬ (lo.toInt ≤ a.toInt ∧ a.toInt ≤ hi.toInt)))) := by
  unfold sp_X9_isIn t_X9_isIn_0
  rw [lt64, lt64]
  exact ⟨fun h => ⟨rfl, Or.inr ⟨rfl, by omega⟩⟩, fun h => ⟨fun h2 => ⟨rfl, Or.inr ⟨rfl, by omega⟩⟩, fun h2 => ⟨rfl, Or.inl ⟨rfl, by omega⟩⟩⟩⟩
theorem okI {s n : Nat} (hs : s < n) (hn : n < 2147483648) : ¬ nI s < 0 ∧ nI s < nI n := ⟨nI_pos (by omega), by rw [lt32, tI (by omega), tI hn]; omega⟩
set_option maxHeartbeats 2000000 in
theorem k_tag {μ : MemT} {g : PgT} (h : RR μ g) {xs : Nat → Int32} {L : Nat} {x4 : Int32} (hv : ∀ k, k < 9 → vp_in (x4 + nI k) L) : tw_502 KR xs L x4 μ := by
  have hn := h.1.1
  unfold tw_502
  generalize hx : xs (x4 + (1 : Int32)).toNatClampNeg = x
  generalize hy : xs (x4 + (2 : Int32)).toNatClampNeg = t
  refine ⟨hv 1 (by decide), hv 2 (by decide), fun r μ' => (r = 1 ∧ ¬ (¬ x < 0 ∧ x < nI (pN g)) ∧ μ' = μ) ∨ (r = 2 ∧ (¬ x < 0 ∧ x < nI (pN g)) ∧ ¬ (-1 ≤ t.toInt ∧ t.toInt ≤ 100) ∧ μ' = μ) ∨ (r = 0 ∧ (-1 ≤ t.toInt ∧ t.toInt ≤ 100) ∧ ∃ s, s < pN g ∧ x = nI s ∧ Fr [16] [76] [0] false μ μ' ∧ μ'.1 16 = upd (μ.1 16) s t ∧ μ'.2.2.1 0 = 0 ∧ μ'.2.1 76 0 = (μ.1 16 s).toInt64), ?_, fun r5 μ3 h3 => ⟨hv 1 (by decide), hv 2 (by decide), ?_⟩⟩
  · unfold sl_L_tag tl_L_tag_0
    refine ⟨fun r μ' => (-1 ≤ t.toInt ∧ t.toInt ≤ 100) ∧ ∃ s, s < pN g ∧ x = nI s ∧ Fr [16] [] [0] false μ μ' ∧ μ'.1 16 = upd (μ.1 16) s t ∧ μ'.2.2.1 0 = 0 ∧ r = μ.1 16 s, fun X μ' => (X = "java/util/NoSuchElementException" ∧ μ' = μ ∧ ¬ (¬ x < 0 ∧ x < nI (pN g))) ∨ (X = "java/lang/IllegalArgumentException" ∧ μ' = μ ∧ (¬ x < 0 ∧ x < nI (pN g)) ∧ ¬ (-1 ≤ t.toInt ∧ t.toInt ≤ 100)), ?_, fun X μ0 hX => ?_, fun r μ2 h2 => ?_⟩
    · unfold sx_X8_tag tx_X8_tag_0
      refine ⟨fun μ' => μ' = μ ∧ ¬ x < 0 ∧ x < nI (pN g), ?_, fun μ2 h2 => ?_⟩
      · unfold sx_X8_requireSign tx_X8_requireSign_0
        rw [h.2.2.1.1]
        exact ⟨fun h1 => Or.inl ⟨rfl, rfl, fun z => z.1 h1⟩, fun h1 => ⟨fun h2 => ⟨rfl, h1, h2⟩, fun h2 => Or.inl ⟨rfl, rfl, fun z => h2 z.2⟩⟩⟩
      obtain ⟨rfl, ok⟩ := h2
      rw [lt32, le32]
      refine ⟨fun z => Or.inr ⟨rfl, rfl, ok, fun q => ?_⟩, fun z => ⟨fun z2 => ?_, fun z2 => Or.inr ⟨rfl, rfl, ok, fun q => ?_⟩⟩⟩
      · have z : t.toInt < -1 := z
        omega
      · have z : ¬ t.toInt < -1 := z
        have z2 : t.toInt ≤ 100 := z2
        obtain ⟨s, s1, rfl⟩ := ixI (by omega) ok.1 ok.2
        rw [cI (by omega)]
        refine ⟨inI (by omega) (by decide), inI (by omega) (by decide), fun μ6 e6 μ7 e7 => ⟨by omega, s, s1, rfl, ?_, ?_, ?_, rfl⟩⟩
        · rw [e7, e6]; exact (Fr.wI _ _ _ (by decide)).tr (Fr.wF _ _ (by decide))
        · rw [e7, mF_1, e6, mI_1, upE, cI (by omega)]
        · rw [e7, mF_221, upE]
      · have z2 : ¬ t.toInt ≤ 100 := z2
        omega
    · rcases hX with ⟨a, b, c⟩ | ⟨a, b, c, d⟩
      · exact Or.inl ⟨a, Or.inl ⟨rfl, c, b⟩⟩
      · exact Or.inr ⟨a, Or.inr (Or.inl ⟨rfl, c, d, b⟩)⟩
    · obtain ⟨tb, s, s1, e1, f2, t2, z2, rfl⟩ := h2
      refine ⟨vp0, fun μ6 e6 => Or.inr (Or.inr ⟨rfl, tb, s, s1, e1, ?_, ?_, ?_, ?_⟩)⟩
      · exact (f2.mono (by decide) (by decide) (by decide) (fun h => h)).tr (by rw [e6]; exact Fr.wL _ _ _ (by decide))
      · rw [e6, mL_1]; exact t2
      · rw [e6, mL_22]; exact z2
      · rw [e6, mL_21, upE]; exact ulE _ _ _
  · have HM3 : HasM μ3 g := by
      rcases h3 with ⟨-, -, rfl⟩ | ⟨-, -, -, rfl⟩ | ⟨-, -, s, -, -, f3, -⟩
      · exact h.2.2.2.1
      · exact h.2.2.2.1
      · exact h.2.2.2.1.fr f3 (by decide) (by decide) (by decide)
    refine ⟨fun r μ' => (μ'.2.2.1 9 = 1 ∧ ¬ (¬ x < 0 ∧ x < nI (pN g)) ∧ Fr [] [] [9] false μ3 μ') ∨ (μ'.2.2.1 9 = 2 ∧ (¬ x < 0 ∧ x < nI (pN g)) ∧ ¬ (-1 ≤ t.toInt ∧ t.toInt ≤ 100) ∧ Fr [] [] [9] false μ3 μ') ∨ (μ'.2.2.1 9 = 0 ∧ (-1 ≤ t.toInt ∧ t.toInt ≤ 100) ∧ ∃ s, s < pN g ∧ x = nI s ∧ Fr [51] [] [9, 11] false μ3 μ' ∧ μ'.1 51 = upd (μ3.1 51) s t ∧ μ'.2.2.1 11 = 0 ∧ r = μ3.1 51 s), ?_, fun r10 μ8 h8 => ⟨_, m_thrown, fun r14 μ12 h12 => ?_⟩⟩
    · unfold sp_X9_tag t_X9_tag_0
      refine ⟨_, m_isNoSign HM3 x, fun r4 μ4 h4 => ?_⟩
      obtain ⟨rfl, h4⟩ := h4
      refine ⟨_, m_isIn _ _ _, fun r5' μ5 h5 => ?_⟩
      obtain ⟨rfl, h5⟩ := h5
      rw [tL64] at h5
      have h5 : (r5' = 1 ∧ -1 ≤ t.toInt ∧ t.toInt ≤ 100) ∨ (r5' = 0 ∧ ¬ (-1 ≤ t.toInt ∧ t.toInt ≤ 100)) := h5
      have st : ∀ y : Int32, (y = 0 ↔ (-1 ≤ t.toInt ∧ t.toInt ≤ 100)) → t_X9_tag_25 (fun r μ' => (μ'.2.2.1 9 = 1 ∧ ¬ (¬ x < 0 ∧ x < nI (pN g)) ∧ Fr [] [] [9] false μ5 μ') ∨ (μ'.2.2.1 9 = 2 ∧ (¬ x < 0 ∧ x < nI (pN g)) ∧ ¬ (-1 ≤ t.toInt ∧ t.toInt ≤ 100) ∧ Fr [] [] [9] false μ5 μ') ∨ (μ'.2.2.1 9 = 0 ∧ (-1 ≤ t.toInt ∧ t.toInt ≤ 100) ∧ ∃ s, s < pN g ∧ x = nI s ∧ Fr [51] [] [9, 11] false μ5 μ' ∧ μ'.1 51 = upd (μ5.1 51) s t ∧ μ'.2.2.1 11 = 0 ∧ r = μ5.1 51 s)) x t r4 y μ5 := fun y hy => by
        unfold t_X9_tag_25
        refine ⟨_, m_refused _ _, fun r6 μ6 h6 => ?_⟩
        obtain ⟨f6, v6, z6⟩ := h6
        refine ⟨fun q => ?_, fun q => ?_⟩
        · obtain ⟨z1, z2⟩ := z6.mp q
          have ok : ¬ x < 0 ∧ x < nI (pN g) := by
            rcases h4 with ⟨a, -⟩ | ⟨-, a⟩
            · rw [z1] at a; exact absurd a (by decide)
            · exact a
          obtain ⟨s, s1, rfl⟩ := ixI (by omega) ok.1 ok.2
          rw [cI (by omega)]
          refine ⟨inI (by omega) (by decide), inI (by omega) (by decide), fun μ7 e7 μ8 e8 => Or.inr (Or.inr ⟨?_, hy.mp z2, s, s1, rfl, ?_, ?_, ?_, by rw [f6.1 51 (by decide)]⟩)⟩
          · rw [e8, mF_221, upN _ _ (by decide), e7, mI_2, v6, if_pos z1, if_pos z2]
          · exact (f6.mono (by decide) (by decide) (by decide) (fun h => h)).tr (by rw [e8, e7]; exact (Fr.wI _ _ _ (by decide)).tr (Fr.wF _ _ (by decide)))
          · rw [e8, mF_1, e7, mI_1, upE, cI (by omega), f6.1 51 (by decide)]
          · rw [e8, mF_221, upE]
        · rcases h4 with ⟨a, b⟩ | ⟨a, b⟩
          · exact Or.inl ⟨by rw [v6, if_neg (by rw [a]; decide)], b, f6⟩
          · have : ¬ y = 0 := fun z => q (z6.mpr ⟨a, z⟩)
            exact Or.inr (Or.inl ⟨by rw [v6, if_pos a, if_neg this], b, fun z => this (hy.mpr z), f6⟩)
      refine ⟨fun q => st 0 ⟨fun _ => ?_, fun _ => rfl⟩, fun q => st 1 ⟨fun z => absurd z (by decide), fun z => ?_⟩⟩
      · rcases h5 with ⟨-, a⟩ | ⟨a, -⟩
        · exact a
        · exact absurd a q
      · rcases h5 with ⟨a, -⟩ | ⟨-, a⟩
        · rw [q] at a; exact absurd a (by decide)
        · exact absurd z a
    · obtain ⟨rfl, rfl⟩ := h12
      rcases h3 with ⟨rfl, no, rfl⟩ | ⟨rfl, ok, bad, rfl⟩ | ⟨rfl, tb, s, s1, e1, f3, t3, z3, o3⟩
      · rcases h8 with ⟨v, -, f8⟩ | ⟨v, ok, -⟩ | ⟨v, -, s, s1, e1, -⟩
        · exact endK v (fun z => absurd z (by decide)) ⟨g, h.o (f8.mono (by decide) (by decide) (by decide) (fun h => by cases h))⟩
        · exact absurd ok no
        · exact absurd (by rw [e1]; exact okI s1 (by omega)) no
      · rcases h8 with ⟨v, no, -⟩ | ⟨v, -, -, f8⟩ | ⟨v, tb, -⟩
        · exact absurd ok no
        · exact endK v (fun z => absurd z (by decide)) ⟨g, h.o (f8.mono (by decide) (by decide) (by decide) (fun h => by cases h))⟩
        · exact absurd tb bad
      · rcases h8 with ⟨-, no, -⟩ | ⟨-, -, bad, -⟩ | ⟨v, -, s', s1', e1', f8, t8, z8, rfl⟩
        · exact absurd (by rw [e1]; exact okI s1 (by omega)) no
        · exact absurd tb bad
        · have es : s' = s := nI_inj (by omega) (by omega) (e1'.symm.trans e1)
          subst es
          have k51 : μ3.1 51 = μ.1 51 := f3.1 51 (by decide)
          have C := h.2.2.1
          have M := h.2.2.2.1
          refine endK v (fun _ => ?_) ⟨setG g s' t.toInt, ?_⟩
          · have : μ.1 16 s' = μ.1 51 s' := by rw [eq32, (C.2.1 s' s1).2.2.2.2.2.2, (M.2.1 s' s1).2.2.2.2.2.2]
            rw [show μ12.2.1 76 (0 : Int32).toNatClampNeg = μ12.2.1 76 0 from rfl, f8.2.1 76 (by decide), o3, k51, this]
          · have k : ∀ c, c ≠ 16 → c ≠ 51 → μ12.1 c = μ.1 c := fun c c1 c2 => by rw [f8.1 c (by simpa using c2), f3.1 c (by simpa using c1)]
            have kl : ∀ c, c ≠ 76 → μ12.2.1 c = μ.2.1 c := fun c c1 => by rw [f8.2.1 c (by simp), f3.2.1 c (by simpa using c1)]
            have kf : ∀ c, c ≠ 0 → c ≠ 9 → c ≠ 11 → μ12.2.2.1 c = μ.2.2.1 c := fun c c1 c2 c3 => by rw [f8.2.2.1 c (by simp; omega), f3.2.2.1 c (by simpa using c1)]
            have t16 : μ12.1 16 = upd (μ.1 16) s' t := by rw [f8.1 16 (by decide)]; exact t3
            have t51 : μ12.1 51 = upd (μ.1 51) s' t := by rw [t8, k51]
            refine ⟨⟨h.1.1, fun i hi => ?_⟩, h.2.1, Has.setG C (kf 1 (by decide) (by decide) (by decide)) (k 10 (by decide) (by decide)) (kl 11 (by decide)) (kl 12 (by decide)) (kl 13 (by decide)) (k 14 (by decide) (by decide)) (k 15 (by decide) (by decide)) t16 (k 17 (by decide) (by decide)) (k 18 (by decide) (by decide)), Has.setG M (kf 10 (by decide) (by decide) (by decide)) (k 45 (by decide) (by decide)) (kl 46 (by decide)) (kl 47 (by decide)) (kl 48 (by decide)) (k 49 (by decide) (by decide)) (k 50 (by decide) (by decide)) t51 (k 52 (by decide) (by decide)) (k 53 (by decide) (by decide)), ?_, fun z => absurd (by rw [f8.2.2.1 0 (by decide)]; exact z3) z, fun z => absurd z8 z, ?_⟩
            · obtain ⟨b1, b2, b3, b4, b5, b6⟩ := h.1.2 i hi
              refine ⟨b1, b2, b3, b4, b5, ?_⟩
              show -1 ≤ (if i = s' then t.toInt else pG g i) ∧ (if i = s' then t.toInt else pG g i) ≤ 100
              split
              · exact tb
              · exact b6
            · rw [k 15 (by decide) (by decide), k 50 (by decide) (by decide)]
              exact h.2.2.2.2.1
            · exact (h.2.2.2.2.2.2.2.fr f3 (by decide) (by decide)).fr f8 (by decide) (by decide)
set_option maxHeartbeats 1000000 in
theorem k_found {μ : MemT} {g : PgT} (h : RR μ g) {xs : Nat → Int32} {L : Nat} {x4 : Int32} (hv : ∀ k, k < 9 → vp_in (x4 + nI k) L) : tw_1181 KR xs L x4 μ := by
  obtain ⟨m, m1, m2, m3, B⟩ := h.2.2.2.2.2.2.2.2
  unfold tw_1181
  generalize hx : xs (x4 + (1 : Int32)).toNatClampNeg = x
  refine ⟨hv 1 (by decide), fun r μ' => Fr [] [76] [] false μ μ' ∧ ((r = 1 ∧ ¬ (¬ x < 0 ∧ x < nI m)) ∨ (r = 0 ∧ (¬ x < 0 ∧ x < nI m) ∧ μ'.2.1 76 0 = (μ.1 43 x.toNatClampNeg).toInt64)), ?_, fun r5 μ3 h3 => ⟨hv 1 (by decide), fun r μ' => Fr [] [] [9] false μ3 μ' ∧ ((μ'.2.2.1 9 = 1 ∧ ¬ (¬ x < 0 ∧ x < nI m)) ∨ (μ'.2.2.1 9 = 0 ∧ (¬ x < 0 ∧ x < nI m) ∧ r = μ.1 75 x.toNatClampNeg)), ?_, fun r10 μ8 h8 => ⟨_, m_thrown, fun r14 μ12 h12 => ?_⟩⟩⟩
  · unfold sl_L_found tl_L_found_0
    refine ⟨fun r μ' => μ' = μ ∧ (¬ x < 0 ∧ x < nI m) ∧ r = μ.1 43 x.toNatClampNeg, fun X μ' => X = "java/lang/IndexOutOfBoundsException" ∧ μ' = μ ∧ ¬ (¬ x < 0 ∧ x < nI m), ?_, fun X μ0 hX => ⟨hX.1, by rw [hX.2.1]; exact Fr.rf _, Or.inl ⟨rfl, hX.2.2⟩⟩, fun r μ2 h2 => ?_⟩
    · unfold sx_X8_found tx_X8_found_0
      rw [m2]
      refine ⟨_, c_reqWithin x (nI m), fun μ2 h2 => ?_⟩
      obtain ⟨rfl, ok⟩ := h2
      obtain ⟨i, i1, rfl⟩ := ixI (by omega) ok.1 ok.2
      exact ⟨inI (by omega) (by decide), rfl, ok, rfl⟩
    · obtain ⟨rfl, ok, rfl⟩ := h2
      refine ⟨vp0, fun μ6 e6 => ⟨by rw [e6]; exact Fr.wL _ _ _ (by decide), Or.inr ⟨rfl, ok, ?_⟩⟩⟩
      rw [e6, mL_21, upE]; exact ulE _ _ _
  · obtain ⟨f3, -⟩ := h3
    have e17 : μ3.2.2.1 17 = nI m := by rw [f3.2.2.1 17 (by decide)]; exact m3
    have st : ∀ y : Int32, (y = 0 ↔ (¬ x < 0 ∧ x < nI m)) → t_X9_found_18 (fun r μ' => Fr [] [] [9] false μ3 μ' ∧ ((μ'.2.2.1 9 = 1 ∧ ¬ (¬ x < 0 ∧ x < nI m)) ∨ (μ'.2.2.1 9 = 0 ∧ (¬ x < 0 ∧ x < nI m) ∧ r = μ.1 75 x.toNatClampNeg))) x y μ3 := fun y hy => by
      unfold t_X9_found_18
      refine ⟨_, m_refused _ _, fun r6 μ6 h6 => ?_⟩
      obtain ⟨f6, v6, z6⟩ := h6
      refine ⟨fun q => ?_, fun q => ⟨f6, Or.inl ?_⟩⟩
      · have ok := hy.mp (z6.mp q).1
        obtain ⟨i, i1, rfl⟩ := ixI (by omega) ok.1 ok.2
        exact ⟨inI (by omega) (by decide), f6, Or.inr ⟨by rw [v6, if_pos (z6.mp q).1, if_pos rfl], ok, by rw [f6.1 75 (by decide), f3.1 75 (by decide)]⟩⟩
      · have : ¬ y = 0 := fun z => q (z6.mpr ⟨z, rfl⟩)
        exact ⟨by rw [v6, if_neg this], fun z => this (hy.mpr z)⟩
    unfold sp_X9_found t_X9_found_0 t_X9_found_13
    rw [e17]
    exact ⟨fun z => st 1 ⟨fun y => absurd y (by decide), fun y => absurd z y.1⟩, fun z => ⟨fun z2 => st 0 ⟨fun _ => ⟨z, z2⟩, fun _ => rfl⟩, fun z2 => st 1 ⟨fun y => absurd y (by decide), fun y => absurd y.2 z2⟩⟩⟩
  · obtain ⟨f8, h8⟩ := h8
    obtain ⟨rfl, rfl⟩ := h12
    obtain ⟨f3, h3⟩ := h3
    have R8 : RR μ12 g := (h.o (f3.mono (by decide) (by decide) (by decide) (fun h => by cases h))).o (f8.mono (by decide) (by decide) (by decide) (fun h => by cases h))
    have o8 : μ12.2.1 76 (0 : Int32).toNatClampNeg = μ3.2.1 76 0 := by rw [f8.2.1 76 (by decide)]; rfl
    rcases h3 with ⟨rfl, no⟩ | ⟨rfl, ok, e2⟩
    · rcases h8 with ⟨v, -⟩ | ⟨v, ok, -⟩
      · exact endK v (fun z => absurd z (by decide)) ⟨g, R8⟩
      · exact absurd ok no
    · rcases h8 with ⟨-, no⟩ | ⟨v, -, hr⟩
      · exact absurd ok no
      · obtain ⟨i, i1, rfl⟩ := ixI (by omega) ok.1 ok.2
        refine endK v (fun _ => ?_) ⟨g, R8⟩
        rw [o8, e2, hr, cI (by omega), B i i1]
