/-! Finding: the model's test at a place. -/
theorem m_stands {μ : MemT} {k m i : Nat} (hk : k ≤ 20) (hm : m ≤ 600) (hi : i < m) (hF : μ.2.2.1 16 = nI k) (hG : μ.2.2.1 15 = nI m) : sp_X9_stands (nI i) μ (fun r μ' => μ' = μ ∧ (¬ r = 0 ↔ htB (μ.1 72) (μ.1 74) k m i = true)) := by
  intro K hK
  have key : ∀ q j, q + j = k → i + j ≤ m → alE (μ.1 72) (μ.1 74) i j = true → K (nI i) (nI j) μ := by
    intro q
    induction q with
    | zero =>
      intro j hj hjm ha
      have e : j = k := by omega
      subst e
      have ht : htB (μ.1 72) (μ.1 74) j m i = true := by unfold htB; rw [decide_eq_true hjm, ha]; rfl
      apply hK
      unfold t_X9_stands_2 t_X9_stands_49
      rw [hF]
      exact ⟨fun _ => ⟨fun w => absurd rfl w, fun _ => ⟨rfl, fun _ => ht, fun _ => by decide⟩⟩, fun z => absurd (by rw [nI_leI (by omega) (by omega)]; omega) z⟩
    | succ q ih =>
      intro j hj hjm ha
      have out : htB (μ.1 72) (μ.1 74) k m i = false → t_X9_stands_49 K (fun r μ' => μ' = μ ∧ (¬ r = 0 ↔ htB (μ.1 72) (μ.1 74) k m i = true)) (nI i) (nI j) μ := fun hz => by
        unfold t_X9_stands_49
        rw [hF, nI_eqI (by omega) (by omega)]
        exact ⟨fun _ => ⟨rfl, fun w => absurd rfl w, fun w => by rw [hz] at w; cases w⟩, fun w => absurd w (by omega)⟩
      apply hK
      unfold t_X9_stands_2
      rw [hF, hG, nI_add', cI (by omega), cI (by omega)]
      refine ⟨fun z => ?_, fun _ => ⟨fun z => out ?_, fun z => ?_⟩⟩
      · exfalso
        rw [nI_leI (by omega) (by omega)] at z
        omega
      · rw [nI_leI (by omega) (by omega)] at z
        unfold htB
        rw [decide_eq_false (by omega), Bool.false_and]
      · have hlt : i + j < m := by
          rcases Nat.lt_or_ge (i + j) m with w | w
          · exact w
          · exact absurd (by rw [nI_leI (by omega) (by omega)]; exact w) z
        refine ⟨inI (by omega) (by decide), _, m_plain _, fun r5 μ3 h3 => ?_⟩
        obtain ⟨rfl, rfl⟩ := h3
        refine ⟨inI (by omega) (by decide), _, m_plain _, fun r10 μ8 h8 => ?_⟩
        obtain ⟨rfl, rfl⟩ := h8
        refine ⟨fun w => out ?_, fun w => ?_⟩
        · unfold htB
          rw [alE_no w k (by omega), Bool.and_false]
        · rw [nI_1]
          refine ih (j + 1) (by omega) (by omega) ?_
          show (alE (μ8.1 72) (μ8.1 74) i j && (plF (μ8.1 72 (i + j)) == plF (μ8.1 74 j))) = true
          rw [ha, w]
          simp
  exact key k 0 (by omega) (by omega) rfl
