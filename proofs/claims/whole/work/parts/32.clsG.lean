/-! The class: blocks. -/
set_option maxHeartbeats 1000000 in
theorem hs_great {μ : MemT} {N j : Nat} (hN : N ≤ 200) (hF : μ.2.2.1 4 = nI N) (hz : ∀ q, q < N → 1 ≤ (μ.1 34 q).toInt ∧ (μ.1 34 q).toInt ≤ 1000) (hex : ∃ q, q < N ∧ μ.1 36 q = nI j) : sp_X0_greatestSize (nI j) μ (fun v μ' => μ' = μ ∧ Mst (fun q => μ.1 36 q = nI j) (fun q => (μ.1 34 q).toInt) N v.toInt) := by
  intro K hK
  have key : ∀ q i (v : Int64), q + i = N → ((v.toInt = 0 ∧ ∀ k, k < i → ¬ μ.1 36 k = nI j) ∨ Mst (fun q => μ.1 36 q = nI j) (fun q => (μ.1 34 q).toInt) i v.toInt) → K (nI j) v (nI i) μ := by
    intro q
    induction q with
    | zero =>
      intro i v hi hv
      have e : i = N := by omega
      subst e
      apply hK
      unfold t_X0_greatestSize_5
      rw [hF]
      refine ⟨fun _ => ⟨rfl, ?_⟩, fun h => absurd (by rw [nI_leI (by omega) (by omega)]; omega) h⟩
      rcases hv with ⟨-, h⟩ | h
      · obtain ⟨k, k1, k2⟩ := hex
        exact absurd k2 (h k k1)
      · exact h
    | succ q ih =>
      intro i v hi hv
      have zi := hz i (by omega)
      apply hK
      unfold t_X0_greatestSize_5
      rw [hF, nI_leI (by omega) (by omega), cI (by omega : i < 2147483648)]
      have i1 : vp_in (nI i) 200 := inI (by omega) (by decide)
      refine ⟨fun h => by omega, fun _ => ⟨i1, fun h => ?_, fun h => ⟨i1, fun z3 e3 => ?_⟩⟩⟩
      · rw [nI_1]
        refine ih (i + 1) v (by omega) ?_
        rcases hv with ⟨v1, v2⟩ | ⟨⟨k, k1, k2, k3⟩, k4⟩
        · refine Or.inl ⟨v1, fun k hk => ?_⟩
          by_cases e : k = i
          · rw [e]; exact h
          · exact v2 k (by omega)
        · refine Or.inr ⟨⟨k, by omega, k2, k3⟩, fun t t1 t2 => ?_⟩
          by_cases e : t = i
          · rw [e] at t2; exact absurd t2 h
          · exact k4 t (by omega) t2
      · rw [nI_1]
        have ez : z3.toInt = mxZ v.toInt (μ.1 34 i).toInt := by
          rw [e3, ite64, tL64, mxZ]
          by_cases c : (μ.1 34 i).toInt64 < v
          · rw [if_pos c]; rw [lt64, tL64] at c; rw [if_neg (by omega)]
          · rw [if_neg c]; rw [lt64, tL64] at c; split <;> omega
        refine ih (i + 1) z3 (by omega) (Or.inr ?_)
        rw [ez]
        rcases hv with ⟨v1, v2⟩ | ⟨⟨k, k1, k2, k3⟩, k4⟩
        · have e0 : mxZ v.toInt (μ.1 34 i).toInt = (μ.1 34 i).toInt := by unfold mxZ; split <;> omega
          rw [e0]
          refine ⟨⟨i, by omega, h, rfl⟩, fun t t1 t2 => ?_⟩
          by_cases e : t = i
          · rw [e]; exact Int.le_refl _
          · exact absurd t2 (v2 t (by omega))
        · have k3 : (μ.1 34 k).toInt = v.toInt := k3
          unfold mxZ
          split
          · refine ⟨⟨i, by omega, h, rfl⟩, fun t t1 t2 => ?_⟩
            by_cases e : t = i
            · rw [e]; exact Int.le_refl _
            · have := k4 t (by omega) t2
              have this : (μ.1 34 t).toInt ≤ v.toInt := this
              show (μ.1 34 t).toInt ≤ _
              omega
          · refine ⟨⟨k, by omega, k2, k3⟩, fun t t1 t2 => ?_⟩
            by_cases e : t = i
            · rw [e]
              show (μ.1 34 i).toInt ≤ _
              omega
            · exact k4 t (by omega) t2
  exact key N 0 0 (by omega) (Or.inl ⟨t0L, fun k hk => absurd hk (by omega)⟩)
/-- the class's segments with their two orders -/
def OrC (μ : MemT) (N : Nat) : Prop := N ≤ 200 ∧ μ.2.2.1 4 = nI N ∧ (∃ o, Enm (fun q => q < N) (kBf (fun q => (μ.2.1 30 q).toInt)) o N ∧ ∀ i, i < N → μ.1 37 i = nI (o i)) ∧ (∃ o, Enm (fun q => q < N) (kBf (fun q => (μ.2.1 32 q).toInt)) o N ∧ ∀ i, i < N → μ.1 38 i = nI (o i)) ∧ ∀ q, q < N → ((μ.2.1 30 q).toInt ≤ (μ.2.1 31 q).toInt ∧ (μ.2.1 32 q).toInt ≤ (μ.2.1 33 q).toInt) ∧ ((-3000000 ≤ (μ.2.1 30 q).toInt ∧ (μ.2.1 30 q).toInt ≤ 3000000) ∧ (-3000000 ≤ (μ.2.1 31 q).toInt ∧ (μ.2.1 31 q).toInt ≤ 3000000)) ∧ ((-3000000 ≤ (μ.2.1 32 q).toInt ∧ (μ.2.1 32 q).toInt ≤ 3000000) ∧ (-3000000 ≤ (μ.2.1 33 q).toInt ∧ (μ.2.1 33 q).toInt ≤ 3000000)) ∧ 1 ≤ (μ.1 34 q).toInt ∧ (μ.1 34 q).toInt ≤ 1000
theorem OrC.fr {μ μ' : MemT} {N : Nat} {SI SF : List Nat} (h : OrC μ N) (hf : Fr SI [] SF false μ μ') (h1 : ∀ k ∈ [34, 37, 38], k ∉ SI) (h2 : 4 ∉ SF) : OrC μ' N := by
  unfold OrC at *
  rw [hf.1 34 (h1 34 (by decide)), hf.1 37 (h1 37 (by decide)), hf.1 38 (h1 38 (by decide)), hf.2.2.1 4 h2, hf.2.1 30 (by decide), hf.2.1 31 (by decide), hf.2.1 32 (by decide), hf.2.1 33 (by decide)]
  exact h
set_option maxHeartbeats 2000000 in
theorem hs_isParted {μ : MemT} {N j : Nat} (hO : OrC μ N) (hj : j < 300) (hex : ∃ q, q < N ∧ μ.1 36 q = nI j) : sp_X0_isParted (nI j) μ (fun r μ' => ∃ z, Mst (fun q => μ.1 36 q = nI j) (fun q => (μ.1 34 q).toInt) N z ∧ ((r = 1 ∧ ∃ c, CtA2 (fun q => μ.1 36 q = nI j) (fun q => (μ.2.1 30 q).toInt) (fun q => (μ.2.1 31 q).toInt) N (2 * z) c ∧ Fr [36] [] [] false μ μ' ∧ ∀ q, q < N → μ'.1 36 q = if μ.1 36 q = nI j ∧ (μ.2.1 30 q).toInt < c then nI (j + 1) else μ.1 36 q) ∨
    (r = 1 ∧ NoCt (fun q => μ.1 36 q = nI j) (fun q => (μ.2.1 30 q).toInt) (fun q => (μ.2.1 31 q).toInt) N (2 * z) ∧ ∃ c, CtA2 (fun q => μ.1 36 q = nI j) (fun q => (μ.2.1 32 q).toInt) (fun q => (μ.2.1 33 q).toInt) N z c ∧ Fr [36] [] [] false μ μ' ∧ ∀ q, q < N → μ'.1 36 q = if μ.1 36 q = nI j ∧ (μ.2.1 32 q).toInt < c then nI (j + 1) else μ.1 36 q) ∨
    (r = 0 ∧ NoCt (fun q => μ.1 36 q = nI j) (fun q => (μ.2.1 30 q).toInt) (fun q => (μ.2.1 31 q).toInt) N (2 * z) ∧ NoCt (fun q => μ.1 36 q = nI j) (fun q => (μ.2.1 32 q).toInt) (fun q => (μ.2.1 33 q).toInt) N z ∧ μ' = μ))) := by
  obtain ⟨hN, hF, ⟨o, ho1, ho2⟩, ⟨o', ho3, ho4⟩, hb⟩ := hO
  unfold sp_X0_isParted t_X0_isParted_0
  refine ⟨_, hs_great hN hF (fun q hq => (hb q hq).2.2.2) hex, fun v μ2 h2 => ?_⟩
  obtain ⟨rfl, hM⟩ := h2
  have bz : 1 ≤ v.toInt ∧ v.toInt ≤ 1000 := by
    obtain ⟨⟨k, k1, -, k3⟩, -⟩ := hM
    have := (hb k k1).2.2.2
    have k3 : (μ2.1 34 k).toInt = v.toInt := k3
    omega
  have e2 : ((2 : Int64) * v).toInt = 2 * v.toInt := by rw [fb_mulL (by rw [t2L]; omega) (by rw [t2L]; omega), t2L]
  rw [hF]
  refine ⟨_, hs_along (lam := 2 * v.toInt) (by decide) (by decide) (by decide) (by decide) hN hj ho1 ho2 (fun q hq => (hb q hq).1.1) (fun q hq => (hb q hq).2.1) e2 (by omega) (by omega), fun r8 μ6 h6 => ?_⟩
  refine ⟨fun h => ?_, fun h => ?_⟩
  · rcases h6 with ⟨a, b⟩ | ⟨a, b⟩
    · exact ⟨_, hM, Or.inl ⟨rfl, b⟩⟩
    · exact absurd a h
  · rcases h6 with ⟨a, b⟩ | ⟨-, b, c⟩
    · rw [h] at a; exact absurd a (by decide)
    subst c
    refine ⟨_, hs_along (lam := v.toInt) (by decide) (by decide) (by decide) (by decide) hN hj ho3 ho4 (fun q hq => (hb q hq).1.2) (fun q hq => (hb q hq).2.2.1) rfl (by omega) (by omega), fun r12 μ10 h10 => ⟨fun h => ?_, fun h => ?_⟩⟩
    · rcases h10 with ⟨a, -⟩ | ⟨-, d, e⟩
      · rw [h] at a; exact absurd a (by decide)
      · exact ⟨_, hM, Or.inr (Or.inr ⟨rfl, b, d, e⟩)⟩
    · rcases h10 with ⟨-, d⟩ | ⟨a, -⟩
      · exact ⟨_, hM, Or.inr (Or.inl ⟨rfl, b, d⟩)⟩
      · exact absurd a h
set_option maxHeartbeats 1000000 in
theorem hs_close {μ : MemT} {N j b : Nat} (hN : N ≤ 200) (hF : μ.2.2.1 4 = nI N) (hF5 : μ.2.2.1 5 = nI b) : sp_X0_close (nI j) μ (fun μ' => Fr [35, 36] [] [5] false μ μ' ∧ μ'.2.2.1 5 = nI (b + 1) ∧ ∀ q, q < N → (μ.1 36 q = nI j → μ'.1 36 q = -1 ∧ μ'.1 35 q = nI b) ∧ (¬ μ.1 36 q = nI j → μ'.1 36 q = μ.1 36 q ∧ μ'.1 35 q = μ.1 35 q)) := by
  intro K hK
  have key : ∀ q i μ1, q + i = N → Fr [35, 36] [] [] false μ μ1 → (∀ k, k < N → (k < i ∧ μ.1 36 k = nI j → μ1.1 36 k = -1 ∧ μ1.1 35 k = nI b) ∧ (¬ (k < i ∧ μ.1 36 k = nI j) → μ1.1 36 k = μ.1 36 k ∧ μ1.1 35 k = μ.1 35 k)) → K (nI j) (nI i) μ1 := by
    intro q
    induction q with
    | zero =>
      intro i μ1 hi hf h
      have e : i = N := by omega
      subst e
      apply hK
      unfold t_X0_close_2
      rw [hf.2.2.1 4 (by decide), hF]
      refine ⟨fun _ μ2 e2 => ⟨(hf.mono (by decide) (by decide) (by decide) (fun h => h)).tr (by rw [e2]; exact Fr.wF _ _ (by decide)), ?_, fun k hk => ?_⟩, fun h => absurd (by rw [nI_leI (by omega) (by omega)]; omega) h⟩
      · rw [e2, mF_221, upE, hf.2.2.1 5 (by decide), hF5, lit32 1, nI_add]
      · rw [e2, mF_1]
        exact ⟨fun z => (h k hk).1 ⟨hk, z⟩, fun z => (h k hk).2 (fun y => z y.2)⟩
    | succ q ih =>
      intro i μ1 hi hf h
      have hold := ((h i (by omega)).2 (by omega)).1
      apply hK
      unfold t_X0_close_2
      rw [hf.2.2.1 4 (by decide), hF, nI_leI (by omega) (by omega), cI (by omega : i < 2147483648), hold]
      have i1 : vp_in (nI i) 200 := inI (by omega) (by decide)
      refine ⟨fun h => by omega, fun _ => ⟨i1, fun hm => ?_, fun hm => ⟨i1, fun μ4 e4 => ⟨i1, fun μ6 e6 => ?_⟩⟩⟩⟩
      · rw [nI_1]
        refine ih (i + 1) μ1 (by omega) hf (fun k hk => ⟨fun z => ?_, fun z => ?_⟩)
        · by_cases e : k = i
          · rw [e] at z; exact absurd z.2 hm
          · exact (h k hk).1 ⟨by omega, z.2⟩
        · exact (h k hk).2 (fun y => z ⟨by omega, y.2⟩)
      · rw [nI_1]
        have f4 : Fr [35, 36] [] [] false μ1 μ4 := by rw [e4]; exact Fr.wI _ _ _ (by decide)
        have e36 : μ6.1 36 = upd (μ1.1 36) i (-1) := by rw [e6, mI_1, upN _ _ (by decide), e4, mI_1, upE, cI (by omega)]
        have e35 : μ6.1 35 = upd (μ1.1 35) i (nI b) := by rw [e6, mI_1, upE, e4, mI_1, mI_2, upN _ _ (by decide), cI (by omega), hf.2.2.1 5 (by decide), hF5]
        refine ih (i + 1) μ6 (by omega) (hf.tr (f4.tr (by rw [e6]; exact Fr.wI _ _ _ (by decide)))) (fun k hk => ?_)
        rw [e36, e35]
        by_cases e : k = i
        · subst e
          rw [udE, udE]
          exact ⟨fun _ => ⟨rfl, rfl⟩, fun z => absurd ⟨by omega, hm⟩ z⟩
        · rw [udN _ _ e, udN _ _ e]
          exact ⟨fun z => (h k hk).1 ⟨by omega, z.2⟩, fun z => (h k hk).2 (fun y => z ⟨by omega, y.2⟩)⟩
  exact key N 0 μ (by omega) (Fr.rf μ) (fun k hk => ⟨fun z => absurd z.1 (by omega), fun _ => ⟨rfl, rfl⟩⟩)
set_option maxHeartbeats 1000000 in
theorem hs_pileUp {μ : MemT} {N : Nat} {tn : Nat → Bool} (hN : N ≤ 200) (hF : μ.2.2.1 4 = nI N) (ht : ∀ q, q < N → μ.1 29 q = b01 (tn q)) (t : Bool) : sp_X0_pileUp (b01 t) μ (fun r μ' => Fr [36] [] [] false μ μ' ∧ (∀ q, q < N → μ'.1 36 q = if tn q = t then 0 else -1) ∧ ((r = 0 ∧ ∃ q, q < N ∧ tn q = t) ∨ (r = -1 ∧ ∀ q, q < N → tn q ≠ t))) := by
  intro K hK
  have key : ∀ q i (r : Int32) μ1, q + i = N → Fr [36] [] [] false μ μ1 → (∀ q, q < i → μ1.1 36 q = if tn q = t then 0 else -1) → ((r = 0 ∧ ∃ q, q < N ∧ tn q = t) ∨ (r = -1 ∧ ∀ q, q < i → tn q ≠ t)) → K (b01 t) r (nI i) μ1 := by
    intro q
    induction q with
    | zero =>
      intro i r μ1 hi hf h hr
      have e : i = N := by omega
      subst e
      apply hK
      unfold t_X0_pileUp_5
      rw [hf.2.2.1 4 (by decide), hF]
      exact ⟨fun _ => ⟨hf, h, hr⟩, fun h => absurd (by rw [nI_leI (by omega) (by omega)]; omega) h⟩
    | succ q ih =>
      intro i r μ1 hi hf h hr
      have i1 : vp_in (nI i) 200 := inI (by omega) (by decide)
      apply hK
      unfold t_X0_pileUp_5
      rw [hf.2.2.1 4 (by decide), hF, nI_leI (by omega) (by omega), cI (by omega : i < 2147483648), hf.1 29 (by decide), ht i (by omega), b01_iff]
      refine ⟨fun h => by omega, fun _ => ⟨i1, fun hm => ?_, fun hm => ?_⟩⟩
      · unfold t_X0_pileUp_30
        refine ⟨fun _ => ?_, fun z => absurd rfl z⟩
        unfold t_X0_pileUp_48
        refine ⟨i1, fun μ2 e2 => ⟨fun _ => ?_, fun z => absurd rfl z⟩⟩
        rw [nI_1]
        refine ih (i + 1) r μ2 (by omega) (hf.tr (by rw [e2]; exact Fr.wI _ _ _ (by decide))) (fun k hk => ?_) ?_
        · rw [e2, mI_1, upE, cI (by omega)]
          by_cases e : k = i
          · subst e
            rw [udE, if_neg hm]
          · rw [udN _ _ e]
            exact h k (by omega)
        · rcases hr with hr | ⟨hr, hr2⟩
          · exact Or.inl hr
          · refine Or.inr ⟨hr, fun k hk => ?_⟩
            by_cases e : k = i
            · rw [e]; exact hm
            · exact hr2 k (by omega)
      · unfold t_X0_pileUp_30
        refine ⟨fun z => absurd z (by decide), fun _ => ?_⟩
        unfold t_X0_pileUp_48
        refine ⟨i1, fun μ2 e2 => ⟨fun z => absurd z (by decide), fun _ => ?_⟩⟩
        rw [nI_1]
        refine ih (i + 1) 0 μ2 (by omega) (hf.tr (by rw [e2]; exact Fr.wI _ _ _ (by decide))) (fun k hk => ?_) (Or.inl ⟨rfl, i, by omega, hm⟩)
        rw [e2, mI_1, upE, cI (by omega)]
        by_cases e : k = i
        · subst e
          rw [udE, if_pos hm]
        · rw [udN _ _ e]
          exact h k (by omega)
  exact key N 0 (-1) μ (by omega) (Fr.rf μ) (fun q hq => absurd hq (by omega)) (Or.inr ⟨rfl, fun q hq => absurd hq (by omega)⟩)
