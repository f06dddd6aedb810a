/-! The class: orders of segments, parting along one of them. -/
def kBf (S : Nat → Int) (a b : Nat) : Prop := S a < S b ∨ (S a = S b ∧ a < b)
theorem kBf.ir {S : Nat → Int} (a : Nat) : ¬ kBf S a a := by unfold kBf; omega
set_option maxHeartbeats 2000000 in
theorem hs_sort {μ : MemT} {a1 a2 N : Nat} (h1 : mln a1 = 200) (h2 : mln a2 = 200) (hN : N ≤ 200) : sp_X0_sort a1 a2 (nI N) μ (fun μ' => Fr [a1] [] [] false μ μ' ∧ ∃ o, Enm (fun q => q < N) (kBf (fun q => (μ.2.1 a2 q).toInt)) o N ∧ ∀ i, i < N → μ'.1 a1 i = nI (o i)) := by
  intro K3 K13 hK3 hK13
  have key : ∀ q i μ1 o, q + i = N → Fr [a1] [] [] false μ μ1 → Enm (fun q => q < i) (kBf (fun q => (μ.2.1 a2 q).toInt)) o i → (∀ p, p < i → μ1.1 a1 p = nI (o p)) → K3 (nI N) (nI i) μ1 := by
    intro q
    induction q with
    | zero =>
      intro i μ1 o hi hf he ha
      have e : i = N := by omega
      subst e
      apply hK3
      unfold t_X0_sort_3
      exact ⟨fun _ => ⟨hf, o, he, ha⟩, fun h => absurd (by rw [nI_leI (by omega) (by omega)]; omega) h⟩
    | succ q ih =>
      intro i μ1 o hi hf he ha
      have fin : ∀ a μ2, a ≤ i → Fr [a1] [] [] false μ μ2 → ShA (μ2.1 a1) o i a → (∀ q, a ≤ q → q < i → (μ.2.1 a2 i).toInt < (μ.2.1 a2 (o q)).toInt) → (a = 0 ∨ (μ.2.1 a2 (o (a - 1))).toInt ≤ (μ.2.1 a2 i).toInt) → vp_in (nI a) (mln a1) ∧ ∀ μ3 : MemT, μ3 = mwI μ2 a1 (nI a) (nI i) → K3 (nI N) (nI i + 1) μ3 := by
        intro a μ2 b1 hf2 hsh b2 b3
        rw [h1]
        refine ⟨inI (by omega) (by decide), fun μ3 e3 => ?_⟩
        rw [nI_1]
        refine ih (i + 1) μ3 (insF o a i) (by omega) (hf2.tr (by rw [e3]; exact Fr.wI _ _ _ (by simp))) (he.ins b1 (fun t => by omega) (fun q q1 => ?_) (fun q q1 q2 => Or.inl (b2 q q1 q2))) (fun p hp => ?_)
        · have oq := he.1 q (by omega)
          rcases b3 with b3 | b3
          · omega
          · simp only [kBf]
            by_cases e : q = a - 1
            · rw [← e] at b3; omega
            · have := he.2.2 q (a - 1) (by omega) (by omega)
              simp only [kBf] at this
              omega
        · rw [e3, mI_1, upE, cI (by omega)]
          exact hsh.fin i p (by omega)
      have key2 : ∀ a μ2, a ≤ i → Fr [a1] [] [] false μ μ2 → ShA (μ2.1 a1) o i a → (∀ q, a ≤ q → q < i → (μ.2.1 a2 i).toInt < (μ.2.1 a2 (o q)).toInt) → K13 (nI N) (nI i) (nI a) μ2 := by
        intro a
        induction a with
        | zero =>
          intro μ2 b1 hf2 hsh b2
          apply hK13
          unfold t_X0_sort_13
          exact ⟨fun _ => fin 0 μ2 b1 hf2 hsh b2 (Or.inl rfl), fun h => absurd (by decide) h⟩
        | succ a iha =>
          intro μ2 b1 hf2 hsh b2
          have oa := he.1 a (by omega)
          have ea : nI (a + 1) - (1 : Int32) = nI a := nI_pred a
          have er : μ2.1 a1 a = nI (o a) := hsh.1 a (by omega)
          apply hK13
          unfold t_X0_sort_13
          rw [ea, cI (by omega : a < 2147483648), er, cI (by omega : o a < 2147483648), cI (by omega : i < 2147483648), hf2.2.1 a2 (by simp), le64]
          refine ⟨fun h => absurd h (nI_nle (by omega) (by omega)), fun _ => ⟨by rw [h1]; exact inI (by omega) (by decide), by rw [h2]; exact inI (by omega) (by decide), by rw [h2]; exact inI (by omega) (by decide), fun h3 => fin (a + 1) μ2 b1 hf2 hsh b2 (Or.inr h3), fun h3 => ⟨by rw [h1]; exact inI (by omega) (by decide), by rw [h1]; exact inI (by omega) (by decide), fun μ3 e3 => ?_⟩⟩⟩
          have eb : nI (a + 1) + (-1) = nI a := pk_m1 a
          rw [eb]
          refine iha μ3 (by omega) (hf2.tr (by rw [e3]; exact Fr.wI _ _ _ (by simp))) ?_ (fun q q1 q2 => ?_)
          · rw [e3, mI_1, upE, cI (by omega), ← er]
            exact hsh.step
          · by_cases e : q = a
            · rw [e]; omega
            · exact b2 q (by omega) q2
      apply hK3
      unfold t_X0_sort_3
      refine ⟨fun h => ?_, fun _ => key2 i μ1 (Nat.le_refl i) hf (ShA.start ha) (fun q q1 q2 => absurd q2 (by omega))⟩
      exfalso
      rw [nI_leI (by omega) (by omega)] at h
      omega
  exact key N 0 μ (fun _ => 0) (by omega) (Fr.rf μ) ⟨fun p hp => absurd hp (by omega), fun s hs => absurd hs (by omega), fun p q h1 h2 => absurd h2 (by omega)⟩ (fun p hp => absurd hp (by omega))
set_option maxHeartbeats 2000000 in
theorem hs_raise {μ : MemT} {a1 N k j : Nat} {o : Nat → Nat} (h1 : mln a1 = 200) (hne : a1 ≠ 36) (hN : N ≤ 200) (hk : k ≤ N) (ho : ∀ i, i < N → o i < 200) (hinj : ∀ p q, p < N → q < N → o p = o q → p = q) (ha : ∀ i, i < N → μ.1 a1 i = nI (o i)) : sp_X0_raise a1 (nI k) (nI j) μ (fun μ' => Fr [36] [] [] false μ μ' ∧ (∀ p, p < N → μ'.1 36 (o p) = if p < k ∧ μ.1 36 (o p) = nI j then nI (j + 1) else μ.1 36 (o p)) ) := by
  intro K hK
  have key : ∀ q i μ1, q + i = k → Fr [36] [] [] false μ μ1 → (∀ p, p < N → μ1.1 36 (o p) = if p < i ∧ μ.1 36 (o p) = nI j then nI (j + 1) else μ.1 36 (o p)) → K (nI k) (nI j) (nI i) μ1 := by
    intro q
    induction q with
    | zero =>
      intro i μ1 hi hf hp
      have e : i = k := by omega
      subst e
      apply hK
      unfold t_X0_raise_3
      exact ⟨fun _ => ⟨hf, hp⟩, fun h => absurd (by rw [nI_leI (by omega) (by omega)]; omega) h⟩
    | succ q ih =>
      intro i μ1 hi hf hp
      have oi := ho i (by omega)
      have ei : μ1.1 a1 i = nI (o i) := by rw [hf.1 a1 (by simp [hne])]; exact ha i (by omega)
      have hold : μ1.1 36 (o i) = μ.1 36 (o i) := by rw [hp i (by omega), if_neg (by omega)]
      apply hK
      unfold t_X0_raise_3
      rw [nI_leI (by omega) (by omega), cI (by omega : i < 2147483648), ei, cI (by omega : o i < 2147483648), h1, hold]
      have i1 : vp_in (nI i) 200 := inI (by omega) (by decide)
      have i2 : vp_in (nI (o i)) 200 := inI (by omega) (by decide)
      refine ⟨fun h => by omega, fun _ => ⟨i1, i2, fun h => ?_, fun h => ⟨i1, i2, fun μ5 e5 => ?_⟩⟩⟩
      · rw [nI_1]
        refine ih (i + 1) μ1 (by omega) hf (fun p hpN => ?_)
        rw [hp p hpN]
        by_cases e : p = i
        · subst e
          rw [if_neg (by omega), if_neg (fun z => h z.2)]
        · by_cases c : p < i ∧ μ.1 36 (o p) = nI j
          · rw [if_pos c, if_pos ⟨by omega, c.2⟩]
          · rw [if_neg c, if_neg (fun z => c ⟨by omega, z.2⟩)]
      · rw [nI_1]
        refine ih (i + 1) μ5 (by omega) (hf.tr (by rw [e5]; exact Fr.wI _ _ _ (by decide))) (fun p hpN => ?_)
        rw [e5, mI_1, upE, cI (by omega)]
        by_cases e : p = i
        · subst e
          rw [udE, if_pos ⟨by omega, h⟩, nI_1]
        · rw [udN _ _ (fun z => e (hinj p i hpN (by omega) z)), hp p hpN]
          by_cases c : p < i ∧ μ.1 36 (o p) = nI j
          · rw [if_pos c, if_pos ⟨by omega, c.2⟩]
          · rw [if_neg c, if_neg (fun z => c ⟨by omega, z.2⟩)]
  exact key k 0 μ (by omega) (Fr.rf μ) (fun p hp => by rw [if_neg (by omega)])
theorem hs_raise0 {μ : MemT} {a1 : Nat} {x : Int32} : sp_X0_raise a1 (-1) x μ (fun μ' => μ' = μ) := by
  intro K hK
  unfold t_X0_raise_0
  apply hK
  unfold t_X0_raise_3
  exact ⟨fun _ => rfl, fun h => absurd (by decide) h⟩
/-- the greatest end of the members at the first p places of the order o -/
def Mxo (m : Nat → Prop) (E : Nat → Int) (o : Nat → Nat) (p : Nat) (f : Int) : Prop := (∃ k, k < p ∧ m (o k) ∧ E (o k) = f) ∧ ∀ k, k < p → m (o k) → E (o k) ≤ f
def Gpo (m : Nat → Prop) (S E : Nat → Int) (o : Nat → Nat) (p : Nat) (w : Int) : Prop := m (o p) ∧ ∃ f, Mxo m E o p f ∧ w = S (o p) - f
theorem Mxo.one {m : Nat → Prop} {E : Nat → Int} {o : Nat → Nat} {p : Nat} {f f' : Int} (h : Mxo m E o p f) (h' : Mxo m E o p f') : f = f' := by
  obtain ⟨⟨k, a1, a2, a3⟩, a4⟩ := h
  obtain ⟨⟨k', b1, b2, b3⟩, b4⟩ := h'
  have := a4 k' b1 b2
  have := b4 k a1 a2
  omega
/-- at the first of its start: the order's gap is the gap -/
theorem far_mxo {m : Nat → Prop} {S E : Nat → Int} {o : Nat → Nat} {N p : Nat} (he : Enm (fun q => q < N) (kBf S) o N) (hp : p < N) (hf : ∀ k, k < p → m (o k) → S (o k) ≠ S (o p)) (f : Int) : Far m S E N (S (o p)) f ↔ Mxo m E o p f := by
  have before : ∀ k, k < p → m (o k) → S (o k) < S (o p) := fun k hk hm => by
    have := he.2.2 k p hk hp
    have := hf k hk hm
    unfold kBf at *
    omega
  have after : ∀ k, k < N → S (o k) < S (o p) → k < p := fun k hk hS => by
    rcases Nat.lt_trichotomy k p with c | c | c
    · exact c
    · subst c; omega
    · have := he.2.2 p k c hk
      unfold kBf at this
      omega
  constructor
  · rintro ⟨⟨k, k1, k2, k3, k4⟩, k5⟩
    obtain ⟨i, hi, e⟩ := he.2.1 k k1
    subst e
    exact ⟨⟨i, after i hi k3, k2, k4⟩, fun t t1 t2 => k5 (o t) (he.1 t (by omega)) t2 (before t t1 t2)⟩
  · rintro ⟨⟨k, k1, k2, k3⟩, k4⟩
    refine ⟨⟨o k, he.1 k (by omega), k2, before k k1 k2, k3⟩, fun t t1 t2 t3 => ?_⟩
    obtain ⟨i, hi, e⟩ := he.2.1 t t1
    subst e
    exact k4 i (after i hi t3) t2
theorem first_of {m : Nat → Prop} {S : Nat → Int} {o : Nat → Nat} {N p : Nat} (hp : p < N) (hm : m (o p)) : ∃ p0, p0 ≤ p ∧ m (o p0) ∧ S (o p0) = S (o p) ∧ ∀ k, k < p0 → m (o k) → S (o k) ≠ S (o p0) := by
  induction p using Nat.strongRecOn with
  | ind p ih =>
    by_cases c : ∃ k, k < p ∧ m (o k) ∧ S (o k) = S (o p)
    · obtain ⟨k, k1, k2, k3⟩ := c
      obtain ⟨p0, a1, a2, a3, a4⟩ := ih k k1 (by omega) k2
      exact ⟨p0, by omega, a2, by omega, a4⟩
    · exact ⟨p, Nat.le_refl p, hm, rfl, fun k hk hm2 e => c ⟨k, hk, hm2, e⟩⟩
