/-! Finding: the model's call; both. -/
set_option maxHeartbeats 1000000 in
theorem m_find {μ : MemT} {g : PgT} (hg : PgOk g) (hmp : MpOk g) (M : HasM μ g) (hkn : ¬ μ.2.2.1 11 = 0 → DvM μ g) {k : Nat} (hk : k ≤ 20) (h16 : μ.2.2.1 16 = nI k) (x : Int32) : sp_X9_find x μ (fun r μ' => (μ'.2.2.1 9 = 1 ∧ ¬ (0 ≤ x.toInt ∧ x.toInt ≤ 65535) ∧ Fr [] [] [9] false μ μ') ∨ (μ'.2.2.1 9 = 2 ∧ (0 ≤ x.toInt ∧ x.toInt ≤ 65535) ∧ ¬ x = 0 ∧ k = 20 ∧ Fr [] [] [9] false μ μ') ∨ (μ'.2.2.1 9 = 0 ∧ (0 ≤ x.toInt ∧ x.toInt ≤ 65535) ∧ ¬ x = 0 ∧ k < 20 ∧ Fr [74] [] [9, 16] false μ μ' ∧ μ'.1 74 = upd (μ.1 74) k x ∧ μ'.2.2.1 16 = nI (k + 1) ∧ r = nI (k + 1)) ∨ (μ'.2.2.1 9 = 0 ∧ x = 0 ∧ ∃ μ2, Fr lkI lkL [9, 11, 12, 13, 14, 15] true μ μ2 ∧ ¬ μ2.2.2.1 11 = 0 ∧ DvM μ2 g ∧ Fr [75] [] [16, 17] false μ2 μ' ∧ μ'.2.2.1 16 = 0 ∧ ∃ m n, m ≤ 600 ∧ μ2.2.2.1 15 = nI m ∧ n ≤ 600 ∧ μ'.2.2.1 17 = nI n ∧ r = nI n ∧ n = (if k = 0 then 0 else hcF (μ2.1 72) (μ.1 74) k m m) ∧ (0 < k → HtR (μ2.1 72) (μ.1 74) k m (μ'.1 75) m))) := by
  intro K hK
  generalize hP : (fun r μ' => (μ'.2.2.1 9 = 1 ∧ ¬ (0 ≤ x.toInt ∧ x.toInt ≤ 65535) ∧ Fr [] [] [9] false μ μ') ∨ (μ'.2.2.1 9 = 2 ∧ (0 ≤ x.toInt ∧ x.toInt ≤ 65535) ∧ ¬ x = 0 ∧ k = 20 ∧ Fr [] [] [9] false μ μ') ∨ (μ'.2.2.1 9 = 0 ∧ (0 ≤ x.toInt ∧ x.toInt ≤ 65535) ∧ ¬ x = 0 ∧ k < 20 ∧ Fr [74] [] [9, 16] false μ μ' ∧ μ'.1 74 = upd (μ.1 74) k x ∧ μ'.2.2.1 16 = nI (k + 1) ∧ r = nI (k + 1)) ∨ (μ'.2.2.1 9 = 0 ∧ x = 0 ∧ ∃ μ2, Fr lkI lkL [9, 11, 12, 13, 14, 15] true μ μ2 ∧ ¬ μ2.2.2.1 11 = 0 ∧ DvM μ2 g ∧ Fr [75] [] [16, 17] false μ2 μ' ∧ μ'.2.2.1 16 = 0 ∧ ∃ m n, m ≤ 600 ∧ μ2.2.2.1 15 = nI m ∧ n ≤ 600 ∧ μ'.2.2.1 17 = nI n ∧ r = nI n ∧ n = (if k = 0 then 0 else hcF (μ2.1 72) (μ.1 74) k m m) ∧ (0 < k → HtR (μ2.1 72) (μ.1 74) k m (μ'.1 75) m))) = P at hK ⊢
  have st : ∀ y1 y2 : Int32, (y1 = 0 ↔ (0 ≤ x.toInt ∧ x.toInt ≤ 65535)) → (y2 = 0 ↔ (x.toInt ≤ 0 ∨ ¬ k = 20)) → t_X9_find_36 K P x y1 y2 μ := fun y1 y2 h1 h2 => by
    unfold t_X9_find_36
    refine ⟨_, m_refused _ _, fun r6 μ6 h6 => ?_⟩
    obtain ⟨f6, v6, z6⟩ := h6
    refine ⟨fun q => ?_, fun q => ?_⟩
    · obtain ⟨z1, z2⟩ := z6.mp q
      have ok := h1.mp z1
      have v0 : μ6.2.2.1 9 = 0 := by rw [v6, if_pos z1, if_pos z2]
      rw [le32, t_0]
      refine ⟨fun w => ?_, fun w => ?_⟩
      · have x0 : x = 0 := by rw [eq32, t_0]; omega
        refine ⟨_, hm_look hg hmp (M.fr f6 (by decide) (by decide) (by decide)) (fun u => (hkn (by rw [f6.2.2.1 11 (by decide)] at u; exact u)).fr f6 (by decide) (by decide)), fun μ7 q7 μ8 e8 => ?_⟩
        obtain ⟨m, m1, m2, -⟩ := tlenM hg q7.2.2
        have f8 : Fr [] [] [17] false μ7 μ8 := by rw [e8]; exact Fr.wF _ _ (by decide)
        refine m_hits (μ0 := μ) hk m1 (by rw [f8.2.2.1 16 (by decide), q7.1.2.2.1 16 (by decide), f6.2.2.1 16 (by decide)]; exact h16) (by rw [f8.2.2.1 15 (by decide)]; exact m2) (by rw [e8, mF_221, upE]) hK (fun μ' n fr z16 n1 n17 ne nh => ?_)
        rw [← hP]
        have k72 : μ8.1 72 = μ7.1 72 := f8.1 72 (by decide)
        have k74 : μ8.1 74 = μ.1 74 := by rw [f8.1 74 (by decide), q7.1.1 74 (by decide), f6.1 74 (by decide)]
        rw [k72, k74] at ne nh
        refine Or.inr (Or.inr (Or.inr ⟨?_, x0, μ7, ?_, q7.2.1, q7.2.2, ?_, z16, m, n, m1, m2, n1, n17, rfl, ne, nh⟩))
        · rw [fr.2.2.1 9 (by decide), f8.2.2.1 9 (by decide), q7.1.2.2.1 9 (by decide)]; exact v0
        · exact (f6.mono (by decide) (by decide) (by decide) (fun h => by cases h)).tr (q7.1.mono (by decide) (by decide) (by decide) (fun h => h))
        · exact (f8.mono (by decide) (by decide) (by decide) (fun h => h)).tr fr
      · have k20 : k < 20 := by
          rcases h2.mp z2 with u | u
          · omega
          · omega
        have x0 : ¬ x = 0 := fun u => w (by rw [u]; decide)
        have k16 : μ6.2.2.1 16 = nI k := by rw [f6.2.2.1 16 (by decide)]; exact h16
        rw [k16]
        refine ⟨inI (by omega) (by decide), fun μ10 e10 μ11 e11 => ?_⟩
        have e16 : μ11.2.2.1 16 = nI (k + 1) := by rw [e11, mF_221, upE, e10, mI_2, k16]; exact nI_1 _
        rw [e16, ← hP]
        refine Or.inr (Or.inr (Or.inl ⟨?_, ok, x0, k20, ?_, ?_, e16, rfl⟩))
        · rw [e11, mF_221, upN _ _ (by decide), e10, mI_2]; exact v0
        · exact (f6.mono (by decide) (by decide) (by decide) (fun h => h)).tr (by rw [e11, e10]; exact (Fr.wI _ _ _ (by decide)).tr (Fr.wF _ _ (by decide)))
        · rw [e11, mF_1, e10, mI_1, upE, cI (by omega), f6.1 74 (by decide)]
    · rw [← hP]
      by_cases q1 : y1 = 0
      · have q2 : ¬ y2 = 0 := fun u => q (z6.mpr ⟨q1, u⟩)
        have ok := h1.mp q1
        have : ¬ (x.toInt ≤ 0 ∨ ¬ k = 20) := fun u => q2 (h2.mpr u)
        exact Or.inr (Or.inl ⟨by rw [v6, if_pos q1, if_neg q2], ok, fun u => this (Or.inl (by rw [u]; decide)), by omega, f6⟩)
      · exact Or.inl ⟨by rw [v6, if_neg q1], fun u => q1 (h1.mpr u), f6⟩
  have mid : ∀ y1 : Int32, (y1 = 0 ↔ (0 ≤ x.toInt ∧ x.toInt ≤ 65535)) → t_X9_find_18 K P x y1 μ := fun y1 h1 => by
    unfold t_X9_find_18 t_X9_find_35
    rw [h16, le32, t_0, show (20 : Int32) = nI 20 from rfl, nI_eqI (by omega) (by omega)]
    exact ⟨fun w => st y1 0 h1 ⟨fun _ => Or.inl w, fun _ => rfl⟩, fun w => ⟨fun w2 => st y1 0 h1 ⟨fun _ => Or.inr w2, fun _ => rfl⟩, fun w2 => st y1 1 h1 ⟨fun u => absurd u (by decide), fun u => by omega⟩⟩⟩
  unfold t_X9_find_0
  refine ⟨_, m_isIn _ _ _, fun r4 μ4 h4 => ?_⟩
  obtain ⟨rfl, h4⟩ := h4
  rw [tL64] at h4
  have h4 : (r4 = 1 ∧ 0 ≤ x.toInt ∧ x.toInt ≤ 65535) ∨ (r4 = 0 ∧ ¬ (0 ≤ x.toInt ∧ x.toInt ≤ 65535)) := h4
  exact ⟨fun q => mid 0 ⟨fun _ => (pick01 h4).2 q, fun _ => rfl⟩, fun q => mid 1 ⟨fun u => absurd u (by decide), fun u => absurd u ((pick01 h4).1 q)⟩⟩
