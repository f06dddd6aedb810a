/-! The class's script. -/
set_option maxHeartbeats 4000000 in
theorem hs_bringInOrder {g : PgT} {μ : MemT} {la r : Nat → Nat} {P : Nat} {al : Nat → Nat} (hS : ScA μ g la r P al) (hE : ∀ p q, p < q → q < P → gBf g la (r p) (r q)) : sp_X4_bringInOrder μ (fun μ' => Fr [41, 42] [] [] false μ μ' ∧ ∃ τ, Enm (fun s => ∃ p, p < P ∧ r p = s) (rdB g la r P al) τ P ∧ ∀ i, i < P → μ'.1 41 i = nI (τ i)) := by
  have hn := hS.1.1.1
  have hP := hS.2.1
  have hi := hS.2.2.2.2
  have hsx : ∀ p, p < P → sX r P (r p) = p := fun p hp => sX_at hi hp
  have hbk : ∀ p, p < P → bkN g la r P al (r p) = al (sgF g la r p) := fun p hp => by unfold bkN; rw [hsx p hp]
  have hrn : ∀ p, p < P → r p < 200 := fun p hp => by have := (hS.2.2.2.1 p hp).1; omega
  -- ranks
  let rk : Nat → Nat := fun p => (trN g (r p) * 200 + al (sgF g la r p)) * 200 + p
  have hrk : ∀ p, p < P → rk p < 2147483648 := fun p hp => by
    have h1 := trN_le hS.1.1 (hS.2.2.2.1 p hp).1
    have h2 := (hS.2.2.2.1 p hp).2.2.2.2.2.2
    show (trN g (r p) * 200 + al (sgF g la r p)) * 200 + p < 2147483648
    omega
  have hlt : ∀ p q, p < P → q < P → p ≠ q → (rk p ≤ rk q ↔ rdB g la r P al (r p) (r q)) := fun p q hp hq hne => by
    have h2 := (hS.2.2.2.1 p hp).2.2.2.2.2.2
    have h3 := (hS.2.2.2.1 q hq).2.2.2.2.2.2
    have e1 : p < q ↔ gBf g la (r p) (r q) := ⟨fun h => hE p q h hq, fun h => by
      rcases Nat.lt_trichotomy p q with c | c | c
      · exact c
      · exact absurd c hne
      · exact absurd h (gBf.as _ _ (hE q p c hp))⟩
    show (trN g (r p) * 200 + al (sgF g la r p)) * 200 + p ≤ (trN g (r q) * 200 + al (sgF g la r q)) * 200 + q ↔ _
    unfold rdB
    rw [hbk p hp, hbk q hq, ← e1]
    omega
  intro K3 K53 h3 h53
  have fin : ∀ μ1 i a τ, i < P → a ≤ i → Fr [41, 42] [] [] false μ μ1 → Enm (fun s => ∃ p, p < i ∧ r p = s) (rdB g la r P al) τ i → ShA (μ1.1 41) τ i a → (∀ q, q < a → rdB g la r P al (τ q) (r i)) → (∀ q, a ≤ q → q < i → rdB g la r P al (r i) (τ q)) → (∀ p, p ≤ i → μ1.1 42 (r p) = nI (rk p)) →
      (∀ μ2 τ', Fr [41, 42] [] [] false μ μ2 → Enm (fun s => ∃ p, p < i + 1 ∧ r p = s) (rdB g la r P al) τ' (i + 1) → (∀ p, p < i + 1 → μ2.1 41 p = nI (τ' p)) → (∀ p, p < i + 1 → μ2.1 42 (r p) = nI (rk p)) → K3 (nI (i + 1)) μ2) → vp_in (nI a) 200 ∧ ∀ μ2 : MemT, μ2 = mwI μ1 41 (nI a) (nI (r i)) → K3 (nI i + 1) μ2 := by
    intro μ1 i a τ hiP ha hf hEn hSh hb1 hb2 hr go
    refine ⟨inI (by omega) (by decide), fun μ2 e2 => ?_⟩
    rw [nI_1]
    have f2 : Fr [41] [] [] false μ1 μ2 := by rw [e2]; exact Fr.wI _ _ _ (by decide)
    refine go μ2 (insF τ a (r i)) (hf.tr (f2.mono (by decide) (by decide) (by decide) (fun h => h))) (hEn.ins ha (fun t => ⟨fun ⟨p, p1, p2⟩ => ?_, fun h => ?_⟩) hb1 hb2) (fun p hp => ?_) (fun p hp => ?_)
    · by_cases e : p = i
      · exact Or.inr (by rw [← p2, e])
      · exact Or.inl ⟨p, by omega, p2⟩
    · rcases h with ⟨p, p1, p2⟩ | h
      · exact ⟨p, by omega, p2⟩
      · exact ⟨i, by omega, h.symm⟩
    · rw [e2, mI_1, upE, cI (by omega)]
      exact hSh.fin (r i) p (by omega)
    · rw [f2.1 42 (by decide)]
      exact hr p (by omega)
  have key : ∀ q i μ1 τ, q + i = P → Fr [41, 42] [] [] false μ μ1 → Enm (fun s => ∃ p, p < i ∧ r p = s) (rdB g la r P al) τ i → (∀ p, p < i → μ1.1 41 p = nI (τ p)) → (∀ p, p < i → μ1.1 42 (r p) = nI (rk p)) → K3 (nI i) μ1 := by
    intro q
    induction q with
    | zero =>
      intro i μ1 τ hq hf hEn ho hr
      have e : i = P := by omega
      subst e
      apply h3
      unfold t_X4_bringInOrder_3
      rw [hf.2.2.1 3 (by decide), hS.2.2.1]
      exact ⟨fun _ => ⟨hf, τ, hEn, ho⟩, fun h => absurd (by rw [nI_leI (by omega) (by omega)]; omega) h⟩
    | succ q ih =>
      intro i μ1 τ hq hf hEn ho hr
      have hS1 : ScA μ1 g la r P al := hS.fr hf (by decide) (by decide) (by decide)
      obtain ⟨a1, a2, -⟩ := hS1.2.2.2.1 i (by omega)
      have hri := hrn i (by omega)
      apply h3
      unfold t_X4_bringInOrder_3
      rw [hS1.2.2.1, cI (by omega : i < 2147483648), a2, cI (by omega : r i < 2147483648)]
      refine ⟨fun h => ?_, fun _ => ⟨inI (by omega) (by decide), inI (by omega) (by decide), _, hs_blockOfSign hS1 (by omega), fun v μ2 h2 => ?_⟩⟩
      · exfalso
        rw [nI_leI (by omega) (by omega)] at h
        omega
      obtain ⟨rfl, rfl⟩ := h2
      refine ⟨_, hs_rank hS1.1.1 a1 ((hS1.1.2.1.2.1 (r i) a1).2.2.2.2.2.2), fun v μ3 h3' => ?_⟩
      obtain ⟨rfl, rfl⟩ := h3'
      refine ⟨inI (by omega) (by decide), fun μ4 e4 => ?_⟩
      have f4 : Fr [41, 42] [] [] false μ μ4 := hf.tr (by rw [e4]; exact Fr.wI _ _ _ (by decide))
      have o4 : μ4.1 41 = μ3.1 41 := by rw [e4, mI_1, upN _ _ (by decide)]
      have r4 : ∀ p, p ≤ i → μ4.1 42 (r p) = nI (rk p) := fun p hp => by
        rw [e4, mI_1, upE, cI (by omega)]
        by_cases e : p = i
        · rw [e, udE]
        · rw [udN _ _ (fun z => e (hi p i (by omega) (by omega) z))]
          exact hr p (by omega)
      have goK : ∀ μ2 τ', Fr [41, 42] [] [] false μ μ2 → Enm (fun s => ∃ p, p < i + 1 ∧ r p = s) (rdB g la r P al) τ' (i + 1) → (∀ p, p < i + 1 → μ2.1 41 p = nI (τ' p)) → (∀ p, p < i + 1 → μ2.1 42 (r p) = nI (rk p)) → K3 (nI (i + 1)) μ2 := fun μ2 τ' b1 b2 b3 b4 => ih (i + 1) μ2 τ' (by omega) b1 b2 b3 b4
      -- the inner loop
      have inner : ∀ a μ5, a ≤ i → Fr [41, 42] [] [] false μ μ5 → ShA (μ5.1 41) τ i a → (∀ q, a ≤ q → q < i → rdB g la r P al (r i) (τ q)) → (∀ p, p ≤ i → μ5.1 42 (r p) = nI (rk p)) → K53 (nI i) (nI (r i)) (nI a) μ5 := by
        intro a
        induction a with
        | zero =>
          intro μ5 ha hf5 hSh hb hr5
          apply h53
          unfold t_X4_bringInOrder_53
          exact ⟨fun _ => fin μ5 i 0 τ (by omega) (by omega) hf5 hEn hSh (fun q hq => absurd hq (by omega)) hb hr5 goK, fun h => absurd (by decide) h⟩
        | succ a iha =>
          intro μ5 ha hf5 hSh hb hr5
          apply h53
          unfold t_X4_bringInOrder_53
          have e1 : nI (a + 1) - (1 : Int32) = nI a := by rw [← nI_1]; simp
          have e2 : nI (a + 1) + (-1 : Int32) = nI a := by rw [← nI_1, Int32.add_assoc]; simp
          obtain ⟨k, k1, k2⟩ := hEn.1 a (by omega)
          have hta : τ a < 200 := by rw [← k2]; exact hrn k (by omega)
          rw [e1, cI (by omega : a < 2147483648), hSh.1 a (by omega), cI (by omega : τ a < 2147483648), cI (by omega : r i < 2147483648), ← k2, hr5 k (by omega), hr5 i (by omega), nI_leI (hrk k (by omega)) (hrk i (by omega)), hlt k i (by omega) (by omega) (by omega), k2]
          refine ⟨fun h => ?_, fun _ => ⟨inI (by omega) (by decide), inI (by omega) (by decide), inI (by omega) (by decide), fun h => ?_, fun h => ⟨inI (by omega) (by decide), inI (by omega) (by decide), fun μ6 e6 => ?_⟩⟩⟩
          · exfalso
            rw [le32, tI (by omega)] at h
            have h : ((a + 1 : Nat) : Int) ≤ 0 := h
            omega
          · refine fin μ5 i (a + 1) τ (by omega) ha hf5 hEn hSh (fun q hq => ?_) hb hr5 goK
            by_cases e : q = a
            · rw [e]; exact h
            · exact rdB.tr _ _ _ (hEn.2.2 q a (by omega) (by omega)) h
          · rw [e2]
            refine iha μ6 (by omega) (hf5.tr (by rw [e6]; exact Fr.wI _ _ _ (by decide))) ?_ (fun q h1 h2 => ?_) (fun p hp => ?_)
            · rw [e6, mI_1, upE, cI (by omega), ← hSh.1 a (by omega)]
              exact hSh.step
            · by_cases e : q = a
              · rw [e]
                rcases rdB.tot (g := g) (la := la) (r := r) (P := P) (al := al) (τ a) (r i) (fun z => by
                  rw [← k2] at z
                  have := hi k i (by omega) (by omega) z
                  omega) with c | c
                · exact absurd c h
                · exact c
              · exact hb q (by omega) h2
            · rw [e6, mI_1, upN _ _ (by decide)]
              exact hr5 p hp
      exact inner i μ4 (Nat.le_refl i) f4 (by rw [o4]; exact ShA.start ho) (fun q h1 h2 => absurd h2 (by omega)) r4
  unfold t_X4_bringInOrder_0
  exact key P 0 μ (fun _ => 0) (by omega) (Fr.rf μ) ⟨fun p hp => absurd hp (by omega), fun s ⟨p, hp, _⟩ => absurd hp (by omega), fun p q h1 h2 => absurd h2 (by omega)⟩ (fun p hp => absurd hp (by omega)) (fun p hp => absurd hp (by omega))
def TxC (μ : MemT) (T : TxT) : Prop := μ.2.2.1 6 = nI T.length ∧ TxR (μ.1 39) (μ.1 40) T
theorem hs_put {μ : MemT} {T : TxT} (h : TxC μ T) (hT : T.length < 600) (a b : Int32) : sp_X4_put a b μ (fun μ' => Fr [39, 40] [] [6] false μ μ' ∧ TxC μ' ((a, b) :: T)) := by
  unfold sp_X4_put t_X4_put_0
  rw [h.1]
  refine ⟨fun h => ?_, fun _ => ⟨inI (by omega) (by decide), fun μ2 e2 => ?_⟩⟩
  · exfalso
    rw [lit32, nI_leI (by decide) (by omega)] at h
    have h : 600 ≤ T.length := h
    omega
  have g2 : μ2.2.2.1 6 = nI T.length := by rw [e2, mI_2]; exact h.1
  rw [g2]
  refine ⟨inI (by omega) (by decide), fun μ4 e4 μ5 e5 => ⟨?_, ?_, ?_⟩⟩
  · rw [e5, e4, e2]
    exact ((Fr.wI _ _ _ (by decide)).tr (Fr.wI _ _ _ (by decide))).tr (Fr.wF _ _ (by decide))
  · rw [e5, mF_221, upE, e4, mI_2, g2]
    exact nI_1 _
  · rw [e5, mF_1, e4, mI_1, upE, upN _ _ (by decide), e2, mI_1, upE, upN _ _ (by decide), cI (by omega)]
    exact h.2.push a b
