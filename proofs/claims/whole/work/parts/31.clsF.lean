/-! The class: parting. -/
theorem cut_of {m : Nat → Prop} {S E : Nat → Int} {o : Nat → Nat} {N p : Nat} {lam w : Int} (he : Enm (fun q => q < N) (kBf S) o N) (hE : ∀ q, q < N → S q ≤ E q) (hl : 0 < lam) (hp : p < N) (hg : Gpo m S E o p w) (hw : lam ≤ w) (hmax : ∀ p' w', p' < N → Gpo m S E o p' w' → w' ≤ w) (hfst : ∀ p' w', p' < p → Gpo m S E o p' w' → w' < w) : CtA2 m S E N lam (S (o p)) ∧ ∀ k, k < N → m (o k) → (k < p ↔ S (o k) < S (o p)) := by
  obtain ⟨hm, f, hf, hwf⟩ := hg
  have fst : ∀ k, k < p → m (o k) → S (o k) ≠ S (o p) := fun k hk hmk e => by
    have := hf.2 k hk hmk
    have := hE (o k) (he.1 k (by omega))
    omega
  refine ⟨⟨o p, w, ⟨he.1 p hp, hm, f, (far_mxo he hp fst f).mpr hf, hwf⟩, rfl, hw, fun q' w' h' => ?_⟩, fun k hk hmk => ⟨fun z => ?_, fun z => ?_⟩⟩
  · obtain ⟨q1, q2, f', hf', hw'⟩ := h'
    obtain ⟨i, hi, e⟩ := he.2.1 q' q1
    subst e
    obtain ⟨p0, c1, c2, c3, c4⟩ := first_of (S := S) hi q2
    have g0 : Gpo m S E o p0 w' := ⟨c2, f', (far_mxo he (by omega) c4 f').mp (by rw [c3]; exact hf'), by rw [c3]; exact hw'⟩
    have d1 := hmax p0 w' (by omega) g0
    rcases Int.lt_or_le w' w with d2 | d2
    · exact Or.inl d2
    · refine Or.inr ⟨by omega, ?_⟩
      have : ¬ p0 < p := fun z => by have := hfst p0 w' z g0; omega
      rcases Nat.lt_or_ge p p0 with d3 | d3
      · have := he.2.2 p p0 d3 (by omega)
        unfold kBf at this
        omega
      · have : p0 = p := by omega
        rw [← c3, this]
        exact Int.le_refl _
  · have := he.2.2 k p z hp
    have := fst k z hmk
    unfold kBf at *
    omega
  · rcases Nat.lt_trichotomy k p with c | c | c
    · exact c
    · subst c; omega
    · have := he.2.2 p k c hk
      unfold kBf at this
      omega
theorem nocut_of {m : Nat → Prop} {S E : Nat → Int} {o : Nat → Nat} {N : Nat} {lam : Int} (he : Enm (fun q => q < N) (kBf S) o N) (h : ∀ p' w', p' < N → Gpo m S E o p' w' → w' < lam) : NoCt m S E N lam := by
  intro q w hq
  obtain ⟨q1, q2, f, hf, hw⟩ := hq
  obtain ⟨i, hi, e⟩ := he.2.1 q q1
  subst e
  obtain ⟨p0, c1, c2, c3, c4⟩ := first_of (S := S) hi q2
  exact h p0 w (by omega) ⟨c2, f, (far_mxo he (by omega) c4 f).mp (by rw [c3]; exact hf), by rw [c3]; exact hw⟩
theorem Mxo.step {m : Nat → Prop} {E : Nat → Int} {o : Nat → Nat} {p : Nat} {f : Int} (h : Mxo m E o p f) (hm : m (o p)) : Mxo m E o (p + 1) (mxZ f (E (o p))) := by
  obtain ⟨⟨k, k1, k2, k3⟩, k4⟩ := h
  unfold mxZ
  split
  · rename_i c
    refine ⟨⟨p, by omega, hm, rfl⟩, fun t t1 t2 => ?_⟩
    by_cases e : t = p
    · rw [e]; exact Int.le_refl _
    · have := k4 t (by omega) t2; omega
  · rename_i c
    refine ⟨⟨k, by omega, k2, k3⟩, fun t t1 t2 => ?_⟩
    by_cases e : t = p
    · rw [e]; omega
    · exact k4 t (by omega) t2
theorem Mxo.skip {m : Nat → Prop} {E : Nat → Int} {o : Nat → Nat} {p : Nat} {f : Int} (hm : ¬ m (o p)) : Mxo m E o (p + 1) f ↔ Mxo m E o p f := by
  constructor
  · rintro ⟨⟨k, k1, k2, k3⟩, k4⟩
    have : k ≠ p := fun e => hm (e ▸ k2)
    exact ⟨⟨k, by omega, k2, k3⟩, fun t t1 t2 => k4 t (by omega) t2⟩
  · rintro ⟨⟨k, k1, k2, k3⟩, k4⟩
    refine ⟨⟨k, by omega, k2, k3⟩, fun t t1 t2 => ?_⟩
    have : t ≠ p := fun e => hm (e ▸ t2)
    exact k4 t (by omega) t2
set_option maxHeartbeats 4000000 in
theorem hs_along {μ : MemT} {a1 a2 a3 N j : Nat} {o : Nat → Nat} {lam : Int} {x5 : Int64} (h1 : mln a1 = 200) (h2 : mln a2 = 200) (h3 : mln a3 = 200) (hne : a1 ≠ 36) (hN : N ≤ 200) (hj : j < 300)
    (he : Enm (fun q => q < N) (kBf (fun q => (μ.2.1 a2 q).toInt)) o N) (ho : ∀ i, i < N → μ.1 a1 i = nI (o i)) (hE : ∀ q, q < N → (μ.2.1 a2 q).toInt ≤ (μ.2.1 a3 q).toInt) (hb : ∀ q, q < N → (-3000000 ≤ (μ.2.1 a2 q).toInt ∧ (μ.2.1 a2 q).toInt ≤ 3000000) ∧ (-3000000 ≤ (μ.2.1 a3 q).toInt ∧ (μ.2.1 a3 q).toInt ≤ 3000000)) (hx : x5.toInt = lam) (hl : 0 < lam) (hl2 : lam ≤ 10000) :
    sp_X0_isPartedAlong a1 a2 a3 (nI N) x5 (nI j) μ (fun r μ' => (r = 1 ∧ ∃ c, CtA2 (fun q => μ.1 36 q = nI j) (fun q => (μ.2.1 a2 q).toInt) (fun q => (μ.2.1 a3 q).toInt) N lam c ∧ Fr [36] [] [] false μ μ' ∧ ∀ q, q < N → μ'.1 36 q = if μ.1 36 q = nI j ∧ (μ.2.1 a2 q).toInt < c then nI (j + 1) else μ.1 36 q) ∨ (r = 0 ∧ NoCt (fun q => μ.1 36 q = nI j) (fun q => (μ.2.1 a2 q).toInt) (fun q => (μ.2.1 a3 q).toInt) N lam ∧ μ' = μ)) := by
  have on : ∀ i, i < N → o i < N := fun i hi => he.1 i hi
  have t1L : (1 : Int64).toInt = 1 := by decide
  intro K hK
  have key : ∀ q i (x8 : Int32) (x9 x11 : Int64) (x13 : Int32), q + i = N →
      ((x13 = 1 ∧ ∀ k, k < i → ¬ μ.1 36 (o k) = nI j) ∨ (x13 = 0 ∧ Mxo (fun q => μ.1 36 q = nI j) (fun q => (μ.2.1 a3 q).toInt) o i x11.toInt)) →
      ((x8 = -1 ∧ x9.toInt = lam - 1 ∧ ∀ p w, p < i → Gpo (fun q => μ.1 36 q = nI j) (fun q => (μ.2.1 a2 q).toInt) (fun q => (μ.2.1 a3 q).toInt) o p w → w < lam) ∨ ∃ p, p < i ∧ x8 = nI p ∧ Gpo (fun q => μ.1 36 q = nI j) (fun q => (μ.2.1 a2 q).toInt) (fun q => (μ.2.1 a3 q).toInt) o p x9.toInt ∧ lam ≤ x9.toInt ∧ (∀ p' w, p' < i → Gpo (fun q => μ.1 36 q = nI j) (fun q => (μ.2.1 a2 q).toInt) (fun q => (μ.2.1 a3 q).toInt) o p' w → w ≤ x9.toInt) ∧ ∀ p' w, p' < p → Gpo (fun q => μ.1 36 q = nI j) (fun q => (μ.2.1 a2 q).toInt) (fun q => (μ.2.1 a3 q).toInt) o p' w → w < x9.toInt) →
      K (nI N) x5 (nI j) x8 x9 x11 x13 (nI i) μ := by
    intro q
    induction q with
    | zero =>
      intro i x8 x9 x11 x13 hi hr hw
      have e : i = N := by omega
      subst e
      apply hK
      unfold t_X0_isPartedAlong_18
      refine ⟨fun _ => ?_, fun h => absurd (by rw [nI_leI (by omega) (by omega)]; omega) h⟩
      rcases hw with ⟨w1, w2, w3⟩ | ⟨p, w1, w2, w3, w4, w5, w6⟩
      · rw [w1]
        exact ⟨_, hs_raise0, fun μ2 h2 => ⟨fun _ => Or.inr ⟨rfl, nocut_of he w3, h2⟩, fun h => absurd (by decide) h⟩⟩
      · rw [w2]
        obtain ⟨c1, c2⟩ := cut_of he hE hl w1 w3 w4 w5 w6
        refine ⟨_, hs_raise (N := i) h1 hne hN (by omega) (fun t ht => by have := on t ht; omega) (fun p q hp hq e => he.inj kBf.ir hp hq e) ho, fun μ2 h2 => ⟨fun h => absurd h (nI_pos (by omega)), fun _ => Or.inl ⟨rfl, _, c1, h2.1, fun t ht => ?_⟩⟩⟩
        obtain ⟨y, hy, e⟩ := he.2.1 t ht
        subst e
        rw [h2.2 y hy]
        by_cases cc : μ.1 36 (o y) = nI j
        · have := c2 y hy cc
          by_cases d : y < p
          · rw [if_pos ⟨d, cc⟩, if_pos ⟨cc, this.mp d⟩]
          · rw [if_neg (fun z => d z.1), if_neg (fun z => d (this.mpr z.2))]
        · rw [if_neg (fun z => cc z.2), if_neg (fun z => cc z.1)]
    | succ q ih =>
      intro i x8 x9 x11 x13 hi hr hw
      have oi := on i (by omega)
      obtain ⟨⟨bs1, bs2⟩, be1, be2⟩ := hb (o i) oi
      have io : vp_in (nI (o i)) 200 := inI (by omega) (by decide)
      -- the end of the turn
      have fin : ∀ (x8' : Int32) (x9' : Int64), μ.1 36 (o i) = nI j →
          ((x8' = -1 ∧ x9'.toInt = lam - 1 ∧ ∀ p w, p < i + 1 → Gpo (fun q => μ.1 36 q = nI j) (fun q => (μ.2.1 a2 q).toInt) (fun q => (μ.2.1 a3 q).toInt) o p w → w < lam) ∨ ∃ p, p < i + 1 ∧ x8' = nI p ∧ Gpo (fun q => μ.1 36 q = nI j) (fun q => (μ.2.1 a2 q).toInt) (fun q => (μ.2.1 a3 q).toInt) o p x9'.toInt ∧ lam ≤ x9'.toInt ∧ (∀ p' w, p' < i + 1 → Gpo (fun q => μ.1 36 q = nI j) (fun q => (μ.2.1 a2 q).toInt) (fun q => (μ.2.1 a3 q).toInt) o p' w → w ≤ x9'.toInt) ∧ ∀ p' w, p' < p → Gpo (fun q => μ.1 36 q = nI j) (fun q => (μ.2.1 a2 q).toInt) (fun q => (μ.2.1 a3 q).toInt) o p' w → w < x9'.toInt) →
          t_X0_isPartedAlong_74 K (fun r μ' => (r = 1 ∧ ∃ c, CtA2 (fun q => μ.1 36 q = nI j) (fun q => (μ.2.1 a2 q).toInt) (fun q => (μ.2.1 a3 q).toInt) N lam c ∧ Fr [36] [] [] false μ μ' ∧ ∀ q, q < N → μ'.1 36 q = if μ.1 36 q = nI j ∧ (μ.2.1 a2 q).toInt < c then nI (j + 1) else μ.1 36 q) ∨ (r = 0 ∧ NoCt (fun q => μ.1 36 q = nI j) (fun q => (μ.2.1 a2 q).toInt) (fun q => (μ.2.1 a3 q).toInt) N lam ∧ μ' = μ)) a1 a2 a3 (nI N) x5 (nI j) x8' x9' x11 x13 (nI i) (nI (o i)) μ := by
        intro x8' x9' hm hw'
        unfold t_X0_isPartedAlong_74
        rw [h3, cI (by omega : o i < 2147483648), nI_1]
        refine ⟨fun h => ⟨io, fun z2 e2 => ih (i + 1) x8' x9' z2 0 (by omega) (Or.inr ⟨rfl, ?_⟩) hw'⟩, fun h => ⟨io, ih (i + 1) x8' x9' _ 0 (by omega) (Or.inr ⟨rfl, ?_⟩) hw'⟩⟩
        · rcases hr with ⟨r1, -⟩ | ⟨-, r2⟩
          · rw [h] at r1; exact absurd r1 (by decide)
          · have e3 : z2.toInt = mxZ x11.toInt (μ.2.1 a3 (o i)).toInt := by
              rw [e2, ite64, mxZ]
              by_cases c : μ.2.1 a3 (o i) < x11
              · rw [if_pos c]; rw [lt64] at c; rw [if_neg (by omega)]
              · rw [if_neg c]; rw [lt64] at c; split <;> omega
            rw [e3]
            exact r2.step hm
        · rcases hr with ⟨-, r2⟩ | ⟨r1, -⟩
          · exact ⟨⟨i, by omega, hm, rfl⟩, fun t t1 t2 => by
              by_cases e : t = i
              · rw [e]; exact Int.le_refl _
              · exact absurd t2 (r2 t (by omega))⟩
          · exact absurd r1 h
      apply hK
      unfold t_X0_isPartedAlong_18
      rw [nI_leI (by omega) (by omega), cI (by omega : i < 2147483648), ho i (by omega), cI (by omega : o i < 2147483648), h1, h2]
      refine ⟨fun h => by omega, fun _ => ⟨inI (by omega) (by decide), io, fun hm => ?_, fun hm => ⟨fun h13 => fin x8 x9 hm ?_, fun h13 => ⟨io, fun h5 => fin x8 x9 hm ?_, fun h5 => ⟨io, fun z9 e9 => fin (nI i) z9 hm ?_⟩⟩⟩⟩⟩
      · rw [nI_1]
        have ng : ∀ w, ¬ Gpo (fun q => μ.1 36 q = nI j) (fun q => (μ.2.1 a2 q).toInt) (fun q => (μ.2.1 a3 q).toInt) o i w := fun w hw => hm hw.1
        refine ih (i + 1) x8 x9 x11 x13 (by omega) ?_ ?_
        · rcases hr with ⟨r1, r2⟩ | ⟨r1, r2⟩
          · refine Or.inl ⟨r1, fun k hk => ?_⟩
            by_cases e : k = i
            · rw [e]; exact hm
            · exact r2 k (by omega)
          · exact Or.inr ⟨r1, (Mxo.skip hm).mpr r2⟩
        · rcases hw with ⟨w1, w2, w3⟩ | ⟨p, w1, w2, w3, w4, w5, w6⟩
          · refine Or.inl ⟨w1, w2, fun p w hp hg => ?_⟩
            by_cases e : p = i
            · rw [e] at hg; exact absurd hg (ng w)
            · exact w3 p w (by omega) hg
          · refine Or.inr ⟨p, by omega, w2, w3, w4, fun p' w hp hg => ?_, w6⟩
            by_cases e : p' = i
            · rw [e] at hg; exact absurd hg (ng w)
            · exact w5 p' w (by omega) hg
      · -- the first member: no gap before it
        have r2 : ∀ k, k < i → ¬ μ.1 36 (o k) = nI j := by
          rcases hr with ⟨-, r2⟩ | ⟨r1, -⟩
          · exact r2
          · exact absurd r1 h13
        have ng : ∀ w, ¬ Gpo (fun q => μ.1 36 q = nI j) (fun q => (μ.2.1 a2 q).toInt) (fun q => (μ.2.1 a3 q).toInt) o i w := by
          rintro w ⟨-, f, ⟨⟨k, k1, k2, -⟩, -⟩, -⟩
          exact r2 k k1 k2
        rcases hw with ⟨w1, w2, w3⟩ | ⟨p, w1, w2, w3, w4, w5, w6⟩
        · refine Or.inl ⟨w1, w2, fun p w hp hg => ?_⟩
          by_cases e : p = i
          · rw [e] at hg; exact absurd hg (ng w)
          · exact w3 p w (by omega) hg
        · exact absurd w3.1 (r2 p w1)
      all_goals
        have r2 : Mxo (fun q => μ.1 36 q = nI j) (fun q => (μ.2.1 a3 q).toInt) o i x11.toInt := by
          rcases hr with ⟨r1, -⟩ | ⟨-, r2⟩
          · rw [h13] at r1; exact absurd r1 (by decide)
          · exact r2
        have br : -3000000 ≤ x11.toInt ∧ x11.toInt ≤ 3000000 := by
          obtain ⟨⟨k, k1, -, k3⟩, -⟩ := r2
          have := (hb (o k) (on k (by omega))).2
          have k3 : (μ.2.1 a3 (o k)).toInt = x11.toInt := k3
          omega
        have eg : (μ.2.1 a2 (o i) - x11).toInt = (μ.2.1 a2 (o i)).toInt - x11.toInt := fb_subL (by omega) (by omega)
        have gi : Gpo (fun q => μ.1 36 q = nI j) (fun q => (μ.2.1 a2 q).toInt) (fun q => (μ.2.1 a3 q).toInt) o i ((μ.2.1 a2 (o i)).toInt - x11.toInt) := ⟨hm, _, r2, rfl⟩
        have g1 : ∀ w, Gpo (fun q => μ.1 36 q = nI j) (fun q => (μ.2.1 a2 q).toInt) (fun q => (μ.2.1 a3 q).toInt) o i w → w = (μ.2.1 a2 (o i)).toInt - x11.toInt := by
          rintro w ⟨-, f, hf, hwf⟩
          rw [hwf, hf.one r2]
        rw [le64, eg] at h5
      · rcases hw with ⟨w1, w2, w3⟩ | ⟨p, w1, w2, w3, w4, w5, w6⟩
        · refine Or.inl ⟨w1, w2, fun p w hp hg => ?_⟩
          by_cases e : p = i
          · rw [e] at hg; have := g1 w hg; omega
          · exact w3 p w (by omega) hg
        · refine Or.inr ⟨p, by omega, w2, w3, w4, fun p' w hp hg => ?_, w6⟩
          by_cases e : p' = i
          · rw [e] at hg; have := g1 w hg; omega
          · exact w5 p' w (by omega) hg
      · have ez : z9.toInt = (μ.2.1 a2 (o i)).toInt - x11.toInt := by rw [e9, eg]
        refine Or.inr ⟨i, by omega, rfl, by rw [ez]; exact gi, ?_, fun p' w hp hg => ?_, fun p' w hp hg => ?_⟩
        · rcases hw with ⟨w1, w2, w3⟩ | ⟨p, w1, w2, w3, w4, w5, w6⟩ <;> omega
        · by_cases e : p' = i
          · rw [e] at hg; have := g1 w hg; omega
          · rcases hw with ⟨w1, w2, w3⟩ | ⟨p, w1, w2, w3, w4, w5, w6⟩
            · have := w3 p' w (by omega) hg; omega
            · have := w5 p' w (by omega) hg; omega
        · rcases hw with ⟨w1, w2, w3⟩ | ⟨p, w1, w2, w3, w4, w5, w6⟩
          · have := w3 p' w (by omega) hg; omega
          · have := w5 p' w (by omega) hg; omega
  unfold t_X0_isPartedAlong_0
  exact key N 0 (-1) _ _ 1 (by omega) (Or.inl ⟨rfl, fun k hk => absurd hk (by omega)⟩) (Or.inl ⟨rfl, by rw [fb_subL (by rw [hx, t1L]; omega) (by rw [hx, t1L]; omega), hx, t1L], fun p w hp => absurd hp (by omega)⟩)
