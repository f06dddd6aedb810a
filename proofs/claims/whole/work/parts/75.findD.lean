/-! Finding: the class's call. -/
set_option maxHeartbeats 1000000 in
theorem c_find {μ : MemT} {g : PgT} (h : RR μ g) {k : Nat} (hk : k ≤ 20) (h7 : μ.2.2.1 7 = nI k) (x : Int32) : sl_L_find x μ (fun r μ' => (r = 1 ∧ ¬ (0 ≤ x.toInt ∧ x.toInt ≤ 65535) ∧ μ' = μ) ∨ (r = 2 ∧ (0 ≤ x.toInt ∧ x.toInt ≤ 65535) ∧ ¬ x = 0 ∧ k = 20 ∧ μ' = μ) ∨ (r = 0 ∧ (0 ≤ x.toInt ∧ x.toInt ≤ 65535) ∧ ¬ x = 0 ∧ k < 20 ∧ Fr [44] [76] [7] false μ μ' ∧ μ'.1 44 = upd (μ.1 44) k x ∧ μ'.2.2.1 7 = nI (k + 1) ∧ μ'.2.1 76 0 = (nI (k + 1)).toInt64) ∨ (r = 0 ∧ x = 0 ∧ ∃ μ2, Fr rfI rfL rfF false μ μ2 ∧ ¬ μ2.2.2.1 0 = 0 ∧ RR μ2 g ∧ Fr [43] [76] [7, 8] false μ2 μ' ∧ μ'.2.2.1 7 = 0 ∧ ∃ m n, m ≤ 600 ∧ μ2.2.2.1 6 = nI m ∧ n ≤ 600 ∧ μ'.2.2.1 8 = nI n ∧ μ'.2.1 76 0 = (nI n).toInt64 ∧ n = (if k = 0 then 0 else hcF (μ2.1 39) (μ.1 44) k m m) ∧ (0 < k → HtR (μ2.1 39) (μ.1 44) k m (μ'.1 43) m))) := by
  have e65 : (65535 : Int32).toInt = 65535 := by decide
  have e20 : (20 : Int32).toInt = 20 := by decide
  unfold sl_L_find tl_L_find_0
  refine ⟨fun r μ' => ((0 ≤ x.toInt ∧ x.toInt ≤ 65535) ∧ ¬ x = 0 ∧ k < 20 ∧ Fr [44] [] [7] false μ μ' ∧ μ'.1 44 = upd (μ.1 44) k x ∧ μ'.2.2.1 7 = nI (k + 1) ∧ r = nI (k + 1)) ∨ (x = 0 ∧ ∃ μ2, Fr rfI rfL rfF false μ μ2 ∧ ¬ μ2.2.2.1 0 = 0 ∧ RR μ2 g ∧ Fr [43] [] [7, 8] false μ2 μ' ∧ μ'.2.2.1 7 = 0 ∧ ∃ m n, m ≤ 600 ∧ μ2.2.2.1 6 = nI m ∧ n ≤ 600 ∧ μ'.2.2.1 8 = nI n ∧ r = nI n ∧ n = (if k = 0 then 0 else hcF (μ2.1 39) (μ.1 44) k m m) ∧ (0 < k → HtR (μ2.1 39) (μ.1 44) k m (μ'.1 43) m)), fun X μ' => (X = "java/lang/IllegalArgumentException" ∧ μ' = μ ∧ ¬ (0 ≤ x.toInt ∧ x.toInt ≤ 65535)) ∨ (X = "java/lang/UnsupportedOperationException" ∧ μ' = μ ∧ (0 ≤ x.toInt ∧ x.toInt ≤ 65535) ∧ ¬ x = 0 ∧ k = 20), ?_, fun X μ0 hX => ?_, fun r μ2 h2 => ?_⟩
  · unfold sx_X8_find tx_X8_find_0
    rw [lt32, le32, t_0, e65]
    refine ⟨fun z => Or.inl ⟨rfl, rfl, by omega⟩, fun z => ⟨fun z2 => ⟨fun z3 => ?_, fun z3 => ?_⟩, fun z2 => Or.inl ⟨rfl, rfl, by omega⟩⟩⟩
    · rw [h7, lt32, tI (by omega), e20]
      refine ⟨fun z4 => ⟨fun r μ' => Fr [44] [] [7] false μ μ' ∧ μ'.1 44 = upd (μ.1 44) k x ∧ μ'.2.2.1 7 = nI (k + 1) ∧ r = nI (k + 1), ?_, fun r μ2 q => Or.inl ⟨by omega, z3, by omega, q⟩⟩, fun z4 => Or.inr ⟨rfl, rfl, by omega, z3, by omega⟩⟩
      unfold sp_X5_seek t_X5_seek_0
      rw [h7, le32, tI (by omega), e20]
      refine ⟨fun w => absurd w (by omega), fun _ => ⟨inI (by omega) (by decide), fun μ2 e2 μ3 e3 => ?_⟩⟩
      have v : μ3.2.2.1 7 = nI (k + 1) := by rw [e3, mF_221, upE, e2, mI_2, h7]; exact nI_1 _
      exact ⟨by rw [e3, e2]; exact (Fr.wI _ _ _ (by decide)).tr (Fr.wF _ _ (by decide)), by rw [e3, mF_1, e2, mI_1, upE, cI (by omega)], v, v⟩
    · refine ⟨_, c_refresh h, fun μ2 q => ?_⟩
      obtain ⟨f2, n2, R2⟩ := q
      obtain ⟨m, m1, m2, -⟩ := tlen R2.1 (R2.2.2.2.2.2.1 n2)
      have k7 : μ2.2.2.1 7 = nI k := by rw [f2.2.2.1 7 (by decide)]; exact h7
      refine ⟨_, c_run hk m1 k7 m2, fun r μ3 q3 => ?_⟩
      obtain ⟨f3, z7, n, p1, p2, p3, p4, p5⟩ := q3
      rw [f2.1 44 (by decide)] at p4 p5
      exact Or.inr ⟨z3, μ2, f2, n2, R2, f3, z7, m, n, m1, m2, p1, p3, p2, p4, p5⟩
  · rcases hX with ⟨p1, p2, p3⟩ | ⟨p1, p2, p3, p4, p5⟩
    · exact Or.inl ⟨p1, Or.inl ⟨rfl, p3, p2⟩⟩
    · exact Or.inr ⟨p1, Or.inr (Or.inl ⟨rfl, p3, p4, p5, p2⟩)⟩
  · refine ⟨vp0, fun μ6 e6 => ?_⟩
    have f6 : Fr [] [76] [] false μ2 μ6 := by rw [e6]; exact Fr.wL _ _ _ (by decide)
    have o6 : μ6.2.1 76 0 = r.toInt64 := by rw [e6, mL_21, upE]; exact ulE _ _ _
    rcases h2 with ⟨a1, a2, a3, a4, a5, a6, rfl⟩ | ⟨a1, μ3, b1, b2, b3, b4, b5, m, n, c1, c2, c3, c4, rfl, c6, c7⟩
    · exact Or.inr (Or.inr (Or.inl ⟨rfl, a1, a2, a3, (a4.mono (by decide) (by decide) (by decide) (fun h => h)).tr (f6.mono (by decide) (by decide) (by decide) (fun h => h)), by rw [f6.1 44 (by decide)]; exact a5, by rw [f6.2.2.1 7 (by decide)]; exact a6, o6⟩))
    · exact Or.inr (Or.inr (Or.inr ⟨rfl, a1, μ3, b1, b2, b3, (b4.mono (by decide) (by decide) (by decide) (fun h => h)).tr (f6.mono (by decide) (by decide) (by decide) (fun h => h)), by rw [f6.2.2.1 7 (by decide)]; exact b5, m, n, c1, c2, c3, by rw [f6.2.2.1 8 (by decide)]; exact c4, o6, c6, by rw [f6.1 43 (by decide)]; exact c7⟩))
