/-! Finding: both. -/
set_option maxHeartbeats 1000000 in
theorem m_hits {μ0 μ : MemT} {k m : Nat} {x1 : Int32} {P : Int32 → MemT → Prop} {K : Int32 → Int32 → MemT → Prop} (hk : k ≤ 20) (hm : m ≤ 600) (h16 : μ.2.2.1 16 = nI k) (h15 : μ.2.2.1 15 = nI m) (h17 : μ.2.2.1 17 = 0) (hK : ∀ (x1 x2 : Int32) (μ : MemT), t_X9_find_84 K P x1 x2 μ → K x1 x2 μ)
    (fin : ∀ μ' h, Fr [75] [] [16, 17] false μ μ' → μ'.2.2.1 16 = 0 → h ≤ 600 → μ'.2.2.1 17 = nI h → h = (if k = 0 then 0 else hcF (μ.1 72) (μ.1 74) k m m) → (0 < k → HtR (μ.1 72) (μ.1 74) k m (μ'.1 75) m) → P (nI h) μ') : K x1 0 μ := by
  have key : ∀ q i μ2, q + i = m → 0 < k → Fr [75] [] [17] false μ μ2 → μ2.2.2.1 17 = nI (hcF (μ.1 72) (μ.1 74) k m i) → HtR (μ.1 72) (μ.1 74) k m (μ2.1 75) i → K x1 (nI i) μ2 := by
    intro q
    induction q with
    | zero =>
      intro i μ2 hi hk0 f2 F2 H2
      have e : i = m := by omega
      subst e
      have hl := hcF_le (μ.1 72) (μ.1 74) k i i
      apply hK
      unfold t_X9_find_84
      rw [f2.2.2.1 15 (by decide), h15]
      refine ⟨fun _ μ3 e3 => ?_, fun z => absurd (by rw [nI_leI (by omega) (by omega)]; omega) z⟩
      have e17 : μ3.2.2.1 17 = nI (hcF (μ.1 72) (μ.1 74) k i i) := by rw [e3, mF_221, upN _ _ (by decide)]; exact F2
      rw [e17]
      refine fin μ3 _ ((f2.mono (by decide) (by decide) (by decide) (fun h => h)).tr (by rw [e3]; exact Fr.wF _ _ (by decide))) (by rw [e3, mF_221, upE]) (by omega) e17 (by rw [if_neg (by omega)]) (fun _ => ?_)
      rw [e3, mF_1]
      exact H2
    | succ q ih =>
      intro i μ2 hi hk0 f2 F2 H2
      have hl := hcF_le (μ.1 72) (μ.1 74) k m i
      have st : hcF (μ.1 72) (μ.1 74) k m (i + 1) = hcF (μ.1 72) (μ.1 74) k m i + if htB (μ.1 72) (μ.1 74) k m i = true then 1 else 0 := rfl
      have k16 : μ2.2.2.1 16 = nI k := by rw [f2.2.2.1 16 (by decide)]; exact h16
      have k15 : μ2.2.2.1 15 = nI m := by rw [f2.2.2.1 15 (by decide)]; exact h15
      apply hK
      unfold t_X9_find_84
      rw [k15, k16]
      refine ⟨fun z => ?_, fun _ => ⟨fun z => ?_, fun _ => ⟨_, m_stands hk hm (show i < m by omega) k16 k15, fun r6 μ4 h4 => ?_⟩⟩⟩
      · exfalso
        rw [nI_leI (by omega) (by omega)] at z
        omega
      · exfalso
        rw [le32, tI (by omega), t_0] at z
        omega
      obtain ⟨rfl, h4⟩ := h4
      rw [f2.1 72 (by decide), f2.1 74 (by decide)] at h4
      rw [nI_1]
      refine ⟨fun z => ih (i + 1) μ4 (by omega) hk0 f2 ?_ ⟨H2, fun w => absurd z (h4.mpr w)⟩, fun z => ?_⟩
      · rw [st, if_neg (fun w => (h4.mpr w) z), Nat.add_zero]; exact F2
      · rw [F2]
        refine ⟨inI (by omega) (by decide), fun μ7 e7 μ8 e8 => ih (i + 1) μ8 (by omega) hk0 (f2.tr (by rw [e8, e7]; exact (Fr.wI _ _ _ (by decide)).tr (Fr.wF _ _ (by decide)))) ?_ ⟨?_, fun _ => ?_⟩⟩
        · rw [e8, mF_221, upE, e7, mI_2, F2, st, if_pos (h4.mp z)]; exact nI_1 _
        · refine H2.cg (fun t ht => ?_)
          rw [e8, mF_1, e7, mI_1, upE, cI (by omega), udN _ _ (by omega)]
        · rw [e8, mF_1, e7, mI_1, upE, cI (by omega), udE]
  by_cases hk0 : 0 < k
  · exact key m 0 μ (by omega) hk0 (Fr.rf μ) h17 trivial
  · have k0 : k = 0 := by omega
    have go : ∀ μ3, μ3 = mwF μ 16 (0 : Int32) → P (μ3.2.2.1 17) μ3 := fun μ3 e3 => by
      have e17 : μ3.2.2.1 17 = nI 0 := by rw [e3, mF_221, upN _ _ (by decide), h17]; rfl
      rw [e17]
      exact fin μ3 0 (by rw [e3]; exact Fr.wF _ _ (by decide)) (by rw [e3, mF_221, upE]) (by omega) e17 (by rw [if_pos k0]) (fun w => absurd w hk0)
    apply hK
    unfold t_X9_find_84
    rw [h16]
    exact ⟨fun _ => go, fun _ => ⟨fun _ => go, fun z => absurd (by rw [k0]; decide) z⟩⟩
