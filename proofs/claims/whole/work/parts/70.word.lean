/-! Words. -/
def inW (L : Nat → Int32) (i : Nat) : Bool := !(L i == 10) && !(L i == 32)
def stW (L : Nat → Int32) (i : Nat) : Bool := inW L i && (i == 0 || !(inW L (i - 1)))
def wcF (L : Nat → Int32) : Nat → Nat
  | 0 => 0
  | i + 1 => wcF L i + if stW L i = true then 1 else 0
theorem wcF_le (L : Nat → Int32) : ∀ i, wcF L i ≤ i
  | 0 => Nat.le_refl 0
  | i + 1 => by
    have := wcF_le L i
    show wcF L i + _ ≤ i + 1
    split <;> omega
theorem wcF_mono (L : Nat → Int32) {i : Nat} : ∀ {j : Nat}, i ≤ j → wcF L i ≤ wcF L j
  | 0, h => by have : i = 0 := by omega
               rw [this]; exact Nat.le_refl _
  | j + 1, h => by
    by_cases e : i = j + 1
    · rw [e]; exact Nat.le_refl _
    · have := wcF_mono L (i := i) (j := j) (by omega)
      show _ ≤ wcF L j + _
      omega
theorem wcF_lt (L : Nat → Int32) {i j : Nat} (h : i < j) (hs : stW L i = true) : wcF L i < wcF L j := by
  have h1 : wcF L (i + 1) = wcF L i + 1 := by
    show wcF L i + (if stW L i = true then 1 else 0) = _
    rw [if_pos hs]
  have := wcF_mono L (show i + 1 ≤ j by omega)
  omega
theorem inW_cg {L L' : Nat → Int32} {i : Nat} (h : L i = L' i) : inW L i = inW L' i := by unfold inW; rw [h]
theorem stW_cg {L L' : Nat → Int32} {i : Nat} (h : ∀ j, j ≤ i → L j = L' j) : stW L i = stW L' i := by
  unfold stW
  rw [inW_cg (h i (Nat.le_refl i)), inW_cg (h (i - 1) (by omega))]
theorem wcF_cg {L L' : Nat → Int32} : ∀ n, (∀ j, j < n → L j = L' j) → wcF L n = wcF L' n
  | 0, _ => rfl
  | n + 1, h => by
    show wcF L n + _ = wcF L' n + _
    rw [wcF_cg n (fun j hj => h j (by omega)), stW_cg (fun j hj => h j (by omega))]
theorem inW_t {L : Nat → Int32} {i : Nat} : inW L i = true ↔ (¬ L i = 10 ∧ ¬ L i = 32) := by
  unfold inW
  simp
-- the class
theorem c_isInWord {μ : MemT} {i : Nat} (hi : i < 600) : sp_X4_isInWord (nI i) μ (fun r μ' => μ' = μ ∧ r = b01 (inW (μ.1 39) i)) := by
  have ii : vp_in (nI i) 600 := inI hi (by decide)
  have no : ¬ (inW (μ.1 39) i = true) → (0 : Int32) = b01 (inW (μ.1 39) i) := fun h => by
    cases c : inW (μ.1 39) i
    · rfl
    · exact absurd c h
  unfold sp_X4_isInWord t_X4_isInWord_0
  rw [cI (by omega)]
  refine ⟨ii, fun h => ⟨rfl, no (fun z => (inW_t.mp z).1 h)⟩, fun h => ⟨ii, fun h2 => ⟨rfl, no (fun z => (inW_t.mp z).2 h2)⟩, fun h2 => ⟨rfl, by rw [inW_t.mpr ⟨h, h2⟩]; rfl⟩⟩⟩
theorem c_startsWord {μ : MemT} {i : Nat} (hi : i < 600) : sp_X4_startsWord (nI i) μ (fun r μ' => μ' = μ ∧ r = b01 (stW (μ.1 39) i)) := by
  unfold sp_X4_startsWord t_X4_startsWord_0
  refine ⟨_, c_isInWord hi, fun r μ2 h2 => ?_⟩
  obtain ⟨rfl, rfl⟩ := h2
  rw [b01_0]
  refine ⟨fun h => ⟨rfl, by unfold stW; rw [h]; rfl⟩, fun h => ?_⟩
  have h' : inW (μ2.1 39) i = true := by
    cases c : inW (μ2.1 39) i
    · exact absurd c h
    · rfl
  refine ⟨fun h3 => ⟨rfl, ?_⟩, fun h3 => ?_⟩
  · have e : i = 0 := by
      rw [eq32, tI (by omega), t_0] at h3
      omega
    subst e
    unfold stW
    rw [h']
    rfl
  · have e : i ≠ 0 := fun z => h3 (by rw [z]; rfl)
    have ei : nI i - (1 : Int32) = nI (i - 1) := by
      have : i = (i - 1) + 1 := by omega
      rw [this, nIp, Nat.add_sub_cancel]
    rw [ei]
    refine ⟨_, c_isInWord (by omega), fun r μ4 h4 => ?_⟩
    obtain ⟨rfl, rfl⟩ := h4
    have k : stW (μ4.1 39) i = !(inW (μ4.1 39) (i - 1)) := by
      unfold stW
      rw [h', show (i == 0) = false by simpa using e]
      simp
    rw [k, b01_0]
    refine ⟨fun h5 => ⟨rfl, ?_⟩, fun h5 => ⟨rfl, by rw [h5]; rfl⟩⟩
    cases c : inW (μ4.1 39) (i - 1)
    · exact absurd c h5
    · rfl
theorem c_countWords {μ : MemT} {m : Nat} (hm : m ≤ 600) (hF : μ.2.2.1 6 = nI m) : sp_X4_countWords μ (fun r μ' => μ' = μ ∧ r = nI (wcF (μ.1 39) m)) := by
  intro K hK
  have key : ∀ q i, q + i = m → K (nI (wcF (μ.1 39) i)) (nI i) μ := by
    intro q
    induction q with
    | zero =>
      intro i hi
      have e : i = m := by omega
      subst e
      apply hK
      unfold t_X4_countWords_4
      rw [hF]
      exact ⟨fun _ => ⟨rfl, rfl⟩, fun z => absurd (by rw [nI_leI (by omega) (by omega)]; omega) z⟩
    | succ q ih =>
      intro i hi
      have st : wcF (μ.1 39) (i + 1) = wcF (μ.1 39) i + if stW (μ.1 39) i = true then 1 else 0 := rfl
      have nx := ih (i + 1) (by omega)
      apply hK
      unfold t_X4_countWords_4
      rw [hF]
      refine ⟨fun z => ?_, fun _ => ⟨_, c_startsWord (by omega), fun r μ2 h2 => ?_⟩⟩
      · exfalso
        rw [nI_leI (by omega) (by omega)] at z
        omega
      obtain ⟨rfl, rfl⟩ := h2
      rw [b01_0, nI_1]
      refine ⟨fun z => ?_, fun z => ?_⟩
      · rw [st, if_neg (by rw [z]; decide), Nat.add_zero] at nx
        exact nx
      · rw [st, if_pos (by cases c : stW (μ2.1 39) i; exact absurd c z; rfl)] at nx
        rw [nI_1]
        exact nx
  exact key m 0 (by omega)
theorem c_startOfWord {μ : MemT} {m : Nat} (hm : m ≤ 600) (hF : μ.2.2.1 6 = nI m) (x : Int32) : sp_X4_startOfWord x μ (fun r μ' => μ' = μ ∧ ((r = -1 ∧ ∀ k, k < m → stW (μ.1 39) k = true → nI (wcF (μ.1 39) k) ≠ x) ∨ ∃ k, k < m ∧ stW (μ.1 39) k = true ∧ nI (wcF (μ.1 39) k) = x ∧ r = nI k)) := by
  intro K hK
  have key : ∀ q i, q + i = m → (∀ k, k < i → stW (μ.1 39) k = true → nI (wcF (μ.1 39) k) ≠ x) → K x (nI (wcF (μ.1 39) i)) (nI i) μ := by
    intro q
    induction q with
    | zero =>
      intro i hi hno
      have e : i = m := by omega
      subst e
      apply hK
      unfold t_X4_startOfWord_4
      rw [hF]
      exact ⟨fun _ => ⟨rfl, Or.inl ⟨rfl, hno⟩⟩, fun z => absurd (by rw [nI_leI (by omega) (by omega)]; omega) z⟩
    | succ q ih =>
      intro i hi hno
      have st : wcF (μ.1 39) (i + 1) = wcF (μ.1 39) i + if stW (μ.1 39) i = true then 1 else 0 := rfl
      have nx : (stW (μ.1 39) i = true → nI (wcF (μ.1 39) i) ≠ x) → K x (nI (wcF (μ.1 39) (i + 1))) (nI (i + 1)) μ := fun hz => ih (i + 1) (by omega) (fun k hk => by
        by_cases e : k = i
        · rw [e]; exact hz
        · exact hno k (by omega))
      apply hK
      unfold t_X4_startOfWord_4
      rw [hF]
      refine ⟨fun z => ?_, fun _ => ⟨_, c_startsWord (by omega), fun r μ2 h2 => ?_⟩⟩
      · exfalso
        rw [nI_leI (by omega) (by omega)] at z
        omega
      obtain ⟨rfl, rfl⟩ := h2
      rw [b01_0, nI_1]
      refine ⟨fun z => ?_, fun z => ?_⟩
      · have nx := nx (fun u => by rw [z] at u; cases u)
        rw [st, if_neg (by rw [z]; decide), Nat.add_zero] at nx
        exact nx
      · have hs : stW (μ2.1 39) i = true := by cases c : stW (μ2.1 39) i; exact absurd c z; rfl
        refine ⟨fun z2 => ?_, fun z2 => ⟨rfl, Or.inr ⟨i, by omega, hs, z2, rfl⟩⟩⟩
        have nx := nx (fun _ => z2)
        rw [st, if_pos hs] at nx
        rw [nI_1]
        exact nx
  exact key m 0 (by omega) (fun k hk => absurd hk (by omega))
theorem c_endOfWord {μ : MemT} {m k : Nat} (hm : m ≤ 600) (hk : k ≤ m) (hF : μ.2.2.1 6 = nI m) : sp_X4_endOfWord (nI k) μ (fun r μ' => μ' = μ ∧ ∃ e, k ≤ e ∧ e ≤ m ∧ r = nI e ∧ (∀ j, k ≤ j → j < e → inW (μ.1 39) j = true) ∧ (e < m → inW (μ.1 39) e = false)) := by
  intro K hK
  have key : ∀ q i, q + i = m → k ≤ i → (∀ j, k ≤ j → j < i → inW (μ.1 39) j = true) → K (nI k) (nI i) μ := by
    intro q
    induction q with
    | zero =>
      intro i hi hki hall
      have e : i = m := by omega
      subst e
      apply hK
      unfold t_X4_endOfWord_2
      rw [hF]
      exact ⟨fun _ => ⟨rfl, i, hki, Nat.le_refl _, rfl, hall, fun z => absurd z (by omega)⟩, fun z => absurd (by rw [nI_leI (by omega) (by omega)]; omega) z⟩
    | succ q ih =>
      intro i hi hki hall
      apply hK
      unfold t_X4_endOfWord_2
      rw [hF]
      refine ⟨fun z => ?_, fun _ => ⟨_, c_isInWord (by omega), fun r μ2 h2 => ?_⟩⟩
      · exfalso
        rw [nI_leI (by omega) (by omega)] at z
        omega
      obtain ⟨rfl, rfl⟩ := h2
      rw [b01_0, nI_1]
      refine ⟨fun z => ⟨rfl, i, hki, by omega, rfl, hall, fun _ => z⟩, fun z => ih (i + 1) (by omega) (by omega) (fun j h1 h2 => ?_)⟩
      by_cases e : j = i
      · rw [e]
        cases c : inW (μ2.1 39) i
        · exact absurd c z
        · rfl
      · exact hall j h1 (by omega)
  exact key (m - k) k (by omega) (Nat.le_refl k) (fun j h1 h2 => absurd h2 (by omega))
-- the model
theorem m_isBlank {μ : MemT} {m i : Nat} (hm : m ≤ 600) (hi : i < 2000) (hF : μ.2.2.1 15 = nI m) : sp_X9_isBlank (nI i) μ (fun r μ' => μ' = μ ∧ ((r = 0 ∧ i < m ∧ inW (μ.1 72) i = true) ∨ (r = 1 ∧ ¬ (i < m ∧ inW (μ.1 72) i = true)))) := by
  unfold sp_X9_isBlank t_X9_isBlank_0
  rw [hF, cI (by omega)]
  refine ⟨fun h => absurd h (nI_pos (by omega)), fun _ => ⟨fun h => ⟨rfl, Or.inr ⟨rfl, fun z => ?_⟩⟩, fun h => ?_⟩⟩
  · rw [nI_leI (by omega) (by omega)] at h
    omega
  · have hi' : i < m := by
      rcases Nat.lt_or_ge i m with q | q
      · exact q
      · exact absurd (by rw [nI_leI (by omega) (by omega)]; exact q) h
    have ii : vp_in (nI i) 600 := inI (by omega) (by decide)
    exact ⟨ii, fun h2 => ⟨rfl, Or.inr ⟨rfl, fun z => (inW_t.mp z.2).2 h2⟩⟩, fun h2 => ⟨ii, fun h3 => ⟨rfl, Or.inl ⟨rfl, hi', inW_t.mpr ⟨h3, h2⟩⟩⟩, fun h3 => ⟨rfl, Or.inr ⟨rfl, fun z => (inW_t.mp z.2).1 h3⟩⟩⟩⟩
theorem m_isBlankP {μ : MemT} {m i : Nat} (hm : m ≤ 600) (hi : i < 600) (hF : μ.2.2.1 15 = nI m) : sp_X9_isBlank (nI i - 1) μ (fun r μ' => μ' = μ ∧ ((r = 0 ∧ 0 < i ∧ i - 1 < m ∧ inW (μ.1 72) (i - 1) = true) ∨ (r = 1 ∧ ¬ (0 < i ∧ i - 1 < m ∧ inW (μ.1 72) (i - 1) = true)))) := by
  by_cases e : i = 0
  · subst e
    unfold sp_X9_isBlank t_X9_isBlank_0
    exact ⟨fun _ => ⟨rfl, Or.inr ⟨rfl, fun z => absurd z.1 (by omega)⟩⟩, fun h => absurd (by decide) h⟩
  · have ei : nI i - (1 : Int32) = nI (i - 1) := by
      have : i = (i - 1) + 1 := by omega
      rw [this, nIp, Nat.add_sub_cancel]
    rw [ei]
    have k := m_isBlank (μ := μ) (i := i - 1) hm (by omega) hF
    unfold sp_X9_isBlank t_X9_isBlank_0 at k ⊢
    have w : ∀ r μ', (μ' = μ ∧ ((r = 0 ∧ i - 1 < m ∧ inW (μ.1 72) (i - 1) = true) ∨ (r = 1 ∧ ¬ (i - 1 < m ∧ inW (μ.1 72) (i - 1) = true)))) → (μ' = μ ∧ ((r = (0 : Int32) ∧ 0 < i ∧ i - 1 < m ∧ inW (μ.1 72) (i - 1) = true) ∨ (r = 1 ∧ ¬ (0 < i ∧ i - 1 < m ∧ inW (μ.1 72) (i - 1) = true)))) := fun r μ' q => ⟨q.1, q.2.elim (fun u => Or.inl ⟨u.1, by omega, u.2⟩) (fun u => Or.inr ⟨u.1, fun v => u.2 v.2⟩)⟩
    exact ⟨fun h => w _ _ (k.1 h), fun h => ⟨fun h2 => w _ _ ((k.2 h).1 h2), fun h2 => ⟨((k.2 h).2 h2).1, fun h3 => w _ _ (((k.2 h).2 h2).2.1 h3), fun h3 => ⟨(((k.2 h).2 h2).2.2 h3).1, fun h4 => w _ _ ((((k.2 h).2 h2).2.2 h3).2.1 h4), fun h4 => w _ _ ((((k.2 h).2 h2).2.2 h3).2.2 h4)⟩⟩⟩⟩
