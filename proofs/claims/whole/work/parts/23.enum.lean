/-! Sorted enumerations. -/
def Enm (S : Nat → Prop) (bf : Nat → Nat → Prop) (r : Nat → Nat) (P : Nat) : Prop := (∀ p, p < P → S (r p)) ∧ (∀ s, S s → ∃ p, p < P ∧ r p = s) ∧ ∀ p q, p < q → q < P → bf (r p) (r q)
def insF (r : Nat → Nat) (a s : Nat) : Nat → Nat := fun p => if p < a then r p else if p = a then s else r (p - 1)
theorem Enm.ins {S S' : Nat → Prop} {bf : Nat → Nat → Prop} {r : Nat → Nat} {P a s : Nat} (h : Enm S bf r P) (ha : a ≤ P) (hS : ∀ t, S' t ↔ (S t ∨ t = s)) (h1 : ∀ q, q < a → bf (r q) s) (h2 : ∀ q, a ≤ q → q < P → bf s (r q)) : Enm S' bf (insF r a s) (P + 1) := by
  refine ⟨fun p hp => ?_, fun t ht => ?_, fun p q hpq hq => ?_⟩
  · unfold insF
    split
    · exact (hS _).mpr (Or.inl (h.1 _ (by omega)))
    · split
      · exact (hS _).mpr (Or.inr rfl)
      · exact (hS _).mpr (Or.inl (h.1 _ (by omega)))
  · rcases (hS t).mp ht with ht | rfl
    · obtain ⟨p, hp, e⟩ := h.2.1 t ht
      by_cases q : p < a
      · exact ⟨p, by omega, by unfold insF; rw [if_pos q]; exact e⟩
      · exact ⟨p + 1, by omega, by unfold insF; rw [if_neg (by omega), if_neg (by omega)]; exact e⟩
    · exact ⟨a, by omega, by unfold insF; rw [if_neg (by omega), if_pos rfl]⟩
  · unfold insF
    by_cases c1 : p < a
    · rw [if_pos c1]
      by_cases c2 : q < a
      · rw [if_pos c2]; exact h.2.2 p q hpq (by omega)
      · rw [if_neg c2]
        by_cases c3 : q = a
        · rw [if_pos c3]; exact h1 p c1
        · rw [if_neg c3]; exact h.2.2 p (q - 1) (by omega) (by omega)
    · rw [if_neg c1, if_neg (show ¬ q < a by omega)]
      by_cases c3 : p = a
      · rw [if_pos c3, if_neg (by omega)]; exact h2 (q - 1) (by omega) (by omega)
      · rw [if_neg c3, if_neg (by omega)]; exact h.2.2 (p - 1) (q - 1) (by omega) (by omega)
theorem Enm.inj {S : Nat → Prop} {bf : Nat → Nat → Prop} {r : Nat → Nat} {P : Nat} (hir : ∀ a, ¬ bf a a) (h : Enm S bf r P) {p q : Nat} (hp : p < P) (hq : q < P) (e : r p = r q) : p = q := by
  rcases Nat.lt_trichotomy p q with c | c | c
  · have := h.2.2 p q c hq
    rw [e] at this
    exact absurd this (hir _)
  · exact c
  · have := h.2.2 q p c hp
    rw [e] at this
    exact absurd this (hir _)
theorem Enm.oneA {S : Nat → Prop} {bf : Nat → Nat → Prop} {r r' : Nat → Nat} {P P' : Nat} (hir : ∀ a, ¬ bf a a) (has : ∀ a b, bf a b → ¬ bf b a) (h : Enm S bf r P) (h' : Enm S bf r' P') : ∀ p, p < P → p < P' ∧ r' p = r p := by
  intro p
  induction p using Nat.strongRecOn with
  | ind p ih =>
    intro hp
    obtain ⟨k, hk, ek⟩ := h'.2.1 (r p) (h.1 p hp)
    rcases Nat.lt_trichotomy k p with c | c | c
    · have e1 := (ih k c (by omega)).2
      have := h.inj hir (by omega : k < P) hp (e1.symm.trans ek)
      omega
    · subst c
      exact ⟨hk, ek⟩
    · obtain ⟨t, ht, et⟩ := h.2.1 (r' p) (h'.1 p (by omega))
      rcases Nat.lt_trichotomy t p with c2 | c2 | c2
      · have e1 := (ih t c2 (by omega)).2
        have := h'.inj hir (by omega : t < P') (by omega : p < P') (e1.trans et)
        omega
      · subst c2
        exact ⟨by omega, et.symm⟩
      · have b1 := h.2.2 p t c2 ht
        have b2 := h'.2.2 p k c hk
        rw [et] at b1
        rw [ek] at b2
        exact absurd b2 (has _ _ b1)
theorem Enm.one {S : Nat → Prop} {bf : Nat → Nat → Prop} {r r' : Nat → Nat} {P P' : Nat} (hir : ∀ a, ¬ bf a a) (has : ∀ a b, bf a b → ¬ bf b a) (h : Enm S bf r P) (h' : Enm S bf r' P') : P = P' ∧ ∀ p, p < P → r' p = r p := by
  refine ⟨?_, fun p hp => (h.oneA hir has h' p hp).2⟩
  rcases Nat.lt_trichotomy P P' with c | c | c
  · exact absurd (h'.oneA hir has h P c).1 (by omega)
  · exact c
  · exact absurd (h.oneA hir has h' P' c).1 (by omega)
theorem pigN : ∀ (n P : Nat) (f : Nat → Nat), (∀ i, i < P → f i < n) → (∀ i j, i < P → j < P → f i = f j → i = j) → P ≤ n := by
  intro n
  induction n with
  | zero =>
    intro P f h1 _
    rcases Nat.eq_zero_or_pos P with c | c
    · omega
    · exact absurd (h1 0 c) (by omega)
  | succ n ih =>
    intro P f h1 h2
    by_cases c : ∃ k, k < P ∧ f k = n
    · obtain ⟨k, hk, ek⟩ := c
      have := ih (P - 1) (fun i => if i < k then f i else f (i + 1)) (fun i hi => by
        have q1 : ∀ j, j < P → j ≠ k → f j < n := fun j hj hne => by
          have := h1 j hj
          rcases Nat.lt_or_ge (f j) n with c1 | c1
          · exact c1
          · exact absurd (h2 j k hj hk (by omega)) hne
        show (if i < k then f i else f (i + 1)) < n
        split
        · exact q1 i (by omega) (by omega)
        · exact q1 (i + 1) (by omega) (by omega)) (fun i j hi hj e => by
        have e : (if i < k then f i else f (i + 1)) = (if j < k then f j else f (j + 1)) := e
        by_cases c1 : i < k <;> by_cases c2 : j < k
        · rw [if_pos c1, if_pos c2] at e; exact h2 i j (by omega) (by omega) e
        · rw [if_pos c1, if_neg c2] at e; have := h2 i (j + 1) (by omega) (by omega) e; omega
        · rw [if_neg c1, if_pos c2] at e; have := h2 (i + 1) j (by omega) (by omega) e; omega
        · rw [if_neg c1, if_neg c2] at e; have := h2 (i + 1) (j + 1) (by omega) (by omega) e; omega)
      omega
    · have := ih P f (fun i hi => by
        have := h1 i hi
        rcases Nat.lt_or_ge (f i) n with c1 | c1
        · exact c1
        · exact absurd ⟨i, hi, by omega⟩ c) h2
      omega
theorem Enm.len {S : Nat → Prop} {bf : Nat → Nat → Prop} {r : Nat → Nat} {P n : Nat} (hir : ∀ a, ¬ bf a a) (h : Enm S bf r P) (hn : ∀ s, S s → s < n) : P ≤ n := pigN n P r (fun i hi => hn _ (h.1 i hi)) (fun i j hi hj e => h.inj hir hi hj e)
theorem Enm.full {S : Nat → Prop} {bf : Nat → Nat → Prop} {r : Nat → Nat} {P n : Nat} (hir : ∀ a, ¬ bf a a) (h : Enm S bf r P) (hn : ∀ s, S s → s < n) (hP : n ≤ P) : ∀ s, s < n → S s := by
  intro t ht
  by_cases c : S t
  · exact c
  · have hne : ∀ i, i < P → r i ≠ t := fun i hi e => c (e ▸ h.1 i hi)
    have := pigN (n - 1) P (fun i => if r i < t then r i else r i - 1) (fun i hi => by
      have h1 := hn _ (h.1 i hi)
      have h2 := hne i hi
      show (if r i < t then r i else r i - 1) < n - 1
      split <;> omega) (fun i j hi hj e => by
      have e : (if r i < t then r i else r i - 1) = (if r j < t then r j else r j - 1) := e
      have h1 := hne i hi
      have h2 := hne j hj
      refine h.inj hir hi hj ?_
      split at e <;> split at e <;> omega)
    omega
/-- where a new one belongs -/
theorem Enm.spot {S : Nat → Prop} {bf : Nat → Nat → Prop} {r : Nat → Nat} {P : Nat} (htr : ∀ a b c, bf a b → bf b c → bf a c) (h : Enm S bf r P) (s : Nat) (htot : ∀ t, S t → bf t s ∨ bf s t) : ∃ a, a ≤ P ∧ (∀ q, q < a → bf (r q) s) ∧ ∀ q, a ≤ q → q < P → bf s (r q) := by
  have key : ∀ k, k ≤ P → ∃ a, a ≤ k ∧ (∀ q, q < a → bf (r q) s) ∧ ∀ q, a ≤ q → q < k → bf s (r q) := by
    intro k
    induction k with
    | zero => exact fun _ => ⟨0, by omega, fun q hq => absurd hq (by omega), fun q h1 h2 => absurd h2 (by omega)⟩
    | succ k ih =>
      intro hk
      obtain ⟨a, h1, h2, h3⟩ := ih (by omega)
      rcases htot (r k) (h.1 k (by omega)) with c | c
      · refine ⟨k + 1, by omega, fun q hq => ?_, fun q hq1 hq2 => absurd hq2 (by omega)⟩
        by_cases e : q = k
        · rw [e]; exact c
        · exact htr _ _ _ (h.2.2 q k (by omega) (by omega)) c
      · refine ⟨a, by omega, h2, fun q hq1 hq2 => ?_⟩
        by_cases e : q = k
        · rw [e]; exact c
        · exact h3 q hq1 (by omega)
  exact key P (Nat.le_refl P)
theorem Enm.ex {S : Nat → Prop} {bf : Nat → Nat → Prop} (htr : ∀ a b c, bf a b → bf b c → bf a c) (htot : ∀ a b, a ≠ b → bf a b ∨ bf b a) (n : Nat) (hn : ∀ s, S s → s < n) : ∃ r P, Enm S bf r P := by
  have key : ∀ m, ∃ r P, Enm (fun s => S s ∧ s < m) bf r P := by
    intro m
    induction m with
    | zero => exact ⟨fun _ => 0, 0, fun p hp => absurd hp (by omega), fun s hs => absurd hs.2 (by omega), fun p q h1 h2 => absurd h2 (by omega)⟩
    | succ m ih =>
      obtain ⟨r, P, h⟩ := ih
      by_cases c : S m
      · obtain ⟨a, h1, h2, h3⟩ := h.spot htr m (fun t ht => htot t m (by omega))
        exact ⟨_, _, h.ins h1 (fun t => ⟨fun q => by
          by_cases e : t = m
          · exact Or.inr e
          · exact Or.inl ⟨q.1, by omega⟩, fun q => by
          rcases q with q | q
          · exact ⟨q.1, by omega⟩
          · subst q; exact ⟨c, by omega⟩⟩) h2 h3⟩
      · refine ⟨r, P, fun p hp => ⟨(h.1 p hp).1, by have := (h.1 p hp).2; omega⟩, fun s hs => h.2.1 s ⟨hs.1, ?_⟩, h.2.2⟩
        rcases Nat.lt_or_ge s m with q | q
        · exact q
        · have : s = m := by omega
          exact absurd (this ▸ hs.1) c
  obtain ⟨r, P, h⟩ := key n
  exact ⟨r, P, fun p hp => (h.1 p hp).1, fun s hs => h.2.1 s ⟨hs, hn s hs⟩, h.2.2⟩
/-- an array on its way: below a the row r, above it the row moved up by one -/
def ShA (f : Nat → Int32) (r : Nat → Nat) (P a : Nat) : Prop := (∀ p, p < a → f p = nI (r p)) ∧ ∀ p, a < p → p ≤ P → f p = nI (r (p - 1))
theorem ShA.start {f : Nat → Int32} {r : Nat → Nat} {P : Nat} (h : ∀ p, p < P → f p = nI (r p)) : ShA f r P P := ⟨h, fun p h1 h2 => absurd h2 (by omega)⟩
theorem ShA.step {f : Nat → Int32} {r : Nat → Nat} {P a : Nat} (h : ShA f r P (a + 1)) : ShA (upd f (a + 1) (f a)) r P a := by
  refine ⟨fun p hp => ?_, fun p h1 h2 => ?_⟩
  · rw [udN _ _ (by omega)]; exact h.1 p (by omega)
  · by_cases e : p = a + 1
    · subst e
      rw [udE]
      exact h.1 a (by omega)
    · rw [udN _ _ e]; exact h.2 p (by omega) h2
theorem ShA.fin {f : Nat → Int32} {r : Nat → Nat} {P a : Nat} (h : ShA f r P a) (s : Nat) : ∀ p, p ≤ P → upd f a (nI s) p = nI (insF r a s p) := by
  intro p hp
  unfold insF
  rcases Nat.lt_trichotomy p a with c | c | c
  · rw [udN _ _ (by omega), if_pos c]; exact h.1 p c
  · subst c
    rw [udE, if_neg (by omega), if_pos rfl]
  · rw [udN _ _ (by omega), if_neg (by omega), if_neg (by omega)]; exact h.2 p c hp
