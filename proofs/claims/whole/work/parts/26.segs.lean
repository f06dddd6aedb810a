/-! The class's lines, whole; what segments are. -/
set_option maxHeartbeats 2000000 in
theorem hs_gather {g : PgT} {μ : MemT} (hg : PgOk g) (hC : HasC μ g) (hA : ∀ s, s < pN g → AatC μ g s) : sp_X1_gather μ (fun μ' => Fr [24, 25, 26] [] [2, 3] false μ μ' ∧ ∃ c la r P, LnC μ' g c la r P ∧ (∀ s, Lv g (μ.1 23) s → la s < c) ∧ ∀ p, p < P → μ'.1 25 (r p) = nI p) := by
  have hn := hg.1
  intro K12 K49 h12 h49
  -- the last loop: spots
  have key2 : ∀ q i μ1 c la r P, q + i = P → P ≤ 200 → Fr [24, 25, 26] [] [2, 3] false μ μ1 → LnC μ1 g c la r P → (∀ s, Lv g (μ.1 23) s → la s < c) → (∀ p, p < i → μ1.1 25 (r p) = nI p) → K49 (nI i) μ1 := by
    intro q
    induction q with
    | zero =>
      intro i μ1 c la r P hi hP hf hL hall hsp
      have e : i = P := by omega
      subst e
      apply h49
      unfold t_X1_gather_49
      rw [hL.2.2.2.2.2]
      exact ⟨fun _ => ⟨hf, c, la, r, i, hL, hall, hsp⟩, fun h => absurd (by rw [nI_leI (by omega) (by omega)]; omega) h⟩
    | succ q ih =>
      intro i μ1 c la r P hi hP hf hL hall hsp
      have hr := hL.2.2.1.1 i (by omega)
      have hrn := hr.1.1
      apply h49
      unfold t_X1_gather_49
      rw [hL.2.2.2.2.2]
      refine ⟨fun h => ?_, fun _ => ?_⟩
      · exfalso
        rw [nI_leI (by omega) (by omega)] at h
        omega
      rw [cI (by omega), hL.2.2.2.1 i (by omega)]
      refine ⟨inI (by omega) (by decide), inI (by omega) (by decide), fun μ3 e3 => ?_⟩
      rw [nI_1]
      have f3 : Fr [25] [] [] false μ1 μ3 := by rw [e3]; exact Fr.wI _ _ _ (by decide)
      refine ih (i + 1) μ3 c la r P (by omega) hP (hf.tr (f3.mono (by decide) (by decide) (by decide) (fun h => h))) ?_ hall (fun p hp => ?_)
      · obtain ⟨a1, a2, a3, a4, a5, a6⟩ := hL
        unfold LnC
        rw [f3.1 23 (by decide), f3.1 24 (by decide), f3.1 26 (by decide), f3.2.2.1 2 (by decide), f3.2.2.1 3 (by decide)]
        exact ⟨a1, a2, a3, a4, a5, a6⟩
      · rw [e3, mI_1, upE, cI (by omega)]
        by_cases e : p = i
        · subst e
          rw [udE]
        · rw [udN _ _ (fun z => e (hL.2.2.1.inj gBf.ir (by omega) (by omega) z))]
          exact hsp p (by omega)
  -- the first loop: no lines yet
  have key1 : ∀ q i μ1, q + i = pN g → Fr [26] [] [2, 3] false μ μ1 → μ1.2.2.1 2 = 0 → μ1.2.2.1 3 = 0 → (∀ s, s < i → μ1.1 26 s = -1) → K12 (nI i) μ1 := by
    intro q
    induction q with
    | zero =>
      intro i μ1 hi hf hF2 hF3 hl
      have e : i = pN g := by omega
      subst e
      have hC1 : HasC μ1 g := hC.fr hf (by decide) (by decide) (by decide)
      have hA1 : ∀ s, s < pN g → AatC μ1 g s := fun s hs => by
        have := hA s hs
        unfold AatC at this ⊢
        rw [hf.1 21 (by decide), hf.1 22 (by decide), hf.2.1 19 (by decide), hf.2.1 20 (by decide)]
        exact this
      have hL0 : LnC μ1 g 0 (fun _ => 0) (fun _ => 0) 0 := ⟨⟨fun s _ => Nat.le_refl 0, fun j hj => absurd hj (by omega)⟩, fun s hs => Or.inr ⟨fun z => absurd z.2 (by omega), hl s hs⟩, ⟨fun p hp => absurd hp (by omega), fun s hs => absurd hs.2 (by omega), fun p q h1 h2 => absurd h2 (by omega)⟩, fun p hp => absurd hp (by omega), hF2, hF3⟩
      apply h12
      unfold t_X1_gather_12
      rw [hC1.1]
      refine ⟨fun _ => ⟨_, hs_gatherKind hg hC1 hA1 hL0 (Nat.le_refl 0) false (fun z => by cases z), fun μ2 h2 => ?_⟩, fun h => absurd (by rw [nI_leI (by omega) (by omega)]; omega) h⟩
      obtain ⟨f2, c2, la2, r2, P2, b1, hL2, b2⟩ := h2
      have d2 : μ2.1 23 = μ1.1 23 := f2.1 23 (by decide)
      have hC2 : HasC μ2 g := hC1.fr f2 (by decide) (by decide) (by decide)
      have hA2 : ∀ s, s < pN g → AatC μ2 g s := fun s hs => by
        have := hA1 s hs
        unfold AatC at this ⊢
        rw [f2.1 21 (by decide), f2.1 22 (by decide), f2.2.1 19 (by decide), f2.2.1 20 (by decide)]
        exact this
      refine ⟨_, hs_gatherKind hg hC2 hA2 hL2 b1 true (fun _ s hs hl => ?_), fun μ5 h5 => ?_⟩
      · rw [d2] at hs
        have := (b2 s hs hl).1
        cases hq : pT g s with
        | true => rfl
        | false => exact absurd hq this
      obtain ⟨f5, c5, la5, r5, P5, b5, hL5, b6⟩ := h5
      have d5 : μ5.1 23 = μ2.1 23 := f5.1 23 (by decide)
      refine key2 P5 0 μ5 c5 la5 r5 P5 (by omega) ?_ ?_ hL5 (fun s hs => ?_) (fun p hp => absurd hp (by omega))
      · have := hL5.2.2.1.len gBf.ir (fun s hs => hs.1.1)
        omega
      · exact (hf.mono (by decide) (by decide) (by decide) (fun h => h)).tr ((f2.tr f5).mono (by decide) (by decide) (by decide) (fun h => h))
      · have e1 : μ.1 23 = μ1.1 23 := (hf.1 23 (by decide)).symm
        rw [e1, ← d2] at hs
        have y := hL5.1.1 s (by rw [d5]; exact hs)
        rcases Nat.lt_or_ge (la5 s) c5 with z | z
        · exact z
        · have := b6 s hs (by omega)
          exact absurd (this.2 rfl) this.1
    | succ q ih =>
      intro i μ1 hi hf hF2 hF3 hl
      have hC1 : HasC μ1 g := hC.fr hf (by decide) (by decide) (by decide)
      apply h12
      unfold t_X1_gather_12
      rw [hC1.1]
      refine ⟨fun h => ?_, fun _ => ⟨inI (by omega) (by decide), fun μ8 e8 => ?_⟩⟩
      · exfalso
        rw [nI_leI (by omega) (by omega)] at h
        omega
      rw [nI_1]
      refine ih (i + 1) μ8 (by omega) (hf.tr (by rw [e8]; exact Fr.wI _ _ _ (by decide))) (by rw [e8, mI_2]; exact hF2) (by rw [e8, mI_2]; exact hF3) (fun s hs => ?_)
      rw [e8, mI_1, upE, cI (by omega)]
      by_cases e : s = i
      · subst e
        rw [udE]
      · rw [udN _ _ e]
        exact hl s (by omega)
  unfold t_X1_gather_0
  intro μ1 e1 μ2 e2
  refine key1 (pN g) 0 μ2 (by omega) ?_ ?_ ?_ (fun s hs => absurd hs (by omega))
  · rw [e2, e1]
    exact (Fr.wF μ _ (by decide)).tr (Fr.wF _ _ (by decide))
  · rw [e2, mF_221, upN _ _ (by decide), e1, mF_221, upE]
  · rw [e2, mF_221, upE]
-- what segments are, by the row r: lines la
def gGp (g : PgT) (s t : Nat) : Int := gU g t - (gU g s + pW g s)
/-- at the place p of the row a segment begins -/
def sgN (g : PgT) (la r : Nat → Nat) (p : Nat) : Bool := p == 0 || (!(la (r (p - 1)) == la (r p)) || decide (3 * pZ g (r (p - 1)) ≤ gGp g (r (p - 1)) (r p)))
def sgF (g : PgT) (la r : Nat → Nat) : Nat → Nat
  | 0 => 0
  | p + 1 => if sgN g la r (p + 1) = true then sgF g la r p + 1 else sgF g la r p
def sgC (g : PgT) (la r : Nat → Nat) : Nat → Nat
  | 0 => 0
  | p + 1 => sgF g la r p + 1
theorem sgF_le (g : PgT) (la r : Nat → Nat) : ∀ p, sgF g la r p ≤ p
  | 0 => Nat.le_refl 0
  | p + 1 => by
    have := sgF_le g la r p
    unfold sgF
    split <;> omega
theorem sgC_le (g : PgT) (la r : Nat → Nat) (p : Nat) : sgC g la r p ≤ p := by
  cases p with
  | zero => exact Nat.le_refl 0
  | succ p =>
    have := sgF_le g la r p
    show sgF g la r p + 1 ≤ p + 1
    omega
theorem sg_new {g : PgT} {la r : Nat → Nat} {p : Nat} (h : sgN g la r p = true) : sgF g la r p = sgC g la r p ∧ sgC g la r (p + 1) = sgC g la r p + 1 := by
  cases p with
  | zero => exact ⟨rfl, rfl⟩
  | succ p =>
    have e : sgF g la r (p + 1) = sgF g la r p + 1 := by
      show (if sgN g la r (p + 1) = true then sgF g la r p + 1 else sgF g la r p) = _
      rw [if_pos h]
    exact ⟨e, congrArg (· + 1) e⟩
theorem sg_old {g : PgT} {la r : Nat → Nat} {p : Nat} (h : ¬ sgN g la r p = true) : 0 < p ∧ sgF g la r p + 1 = sgC g la r p ∧ sgC g la r (p + 1) = sgC g la r p := by
  cases p with
  | zero => exact absurd (by simp [sgN]) h
  | succ p =>
    have e : sgF g la r (p + 1) = sgF g la r p := by
      show (if sgN g la r (p + 1) = true then sgF g la r p + 1 else sgF g la r p) = _
      rw [if_neg h]
    exact ⟨by omega, congrArg (· + 1) e, congrArg (· + 1) e⟩
theorem sgN_at {g : PgT} {la r : Nat → Nat} {p : Nat} (hp : 0 < p) : sgN g la r p = true ↔ (¬ la (r (p - 1)) = la (r p) ∨ 3 * pZ g (r (p - 1)) ≤ gGp g (r (p - 1)) (r p)) := by
  unfold sgN
  simp
  omega
def upZ (f : Nat → Int) (k : Nat) (x : Int) : Nat → Int := fun j => if j = k then x else f j
def upB (f : Nat → Bool) (k : Nat) (x : Bool) : Nat → Bool := fun j => if j = k then x else f j
theorem uzE (f : Nat → Int) (k : Nat) (x : Int) : upZ f k x k = x := by simp [upZ]
theorem uzN (f : Nat → Int) {k j : Nat} (x : Int) (h : j ≠ k) : upZ f k x j = f j := by simp [upZ, h]
theorem ubE (f : Nat → Bool) (k : Nat) (x : Bool) : upB f k x k = x := by simp [upB]
theorem ubN (f : Nat → Bool) {k j : Nat} (x : Bool) (h : j ≠ k) : upB f k x j = f j := by simp [upB, h]
def mxZ (a b : Int) : Int := if a < b then b else a
def mnZ (a b : Int) : Int := if b < a then b else a
/-- left, right, top, bottom, greatest size of the segments, when p signs of the row are seen; whether they are turned -/
def agF (g : PgT) (la r : Nat → Nat) : Nat → (Nat → Int) × (Nat → Int) × (Nat → Int) × (Nat → Int) × (Nat → Int) × (Nat → Bool)
  | 0 => (fun _ => 0, fun _ => 0, fun _ => 0, fun _ => 0, fun _ => 0, fun _ => false)
  | p + 1 =>
    if sgN g la r p = true then (upZ (agF g la r p).1 (sgF g la r p) (gU g (r p)), upZ (agF g la r p).2.1 (sgF g la r p) (gU g (r p) + pW g (r p)), upZ (agF g la r p).2.2.1 (sgF g la r p) (gV g (r p) + pZ g (r p)), upZ (agF g la r p).2.2.2.1 (sgF g la r p) (gV g (r p)), upZ (agF g la r p).2.2.2.2.1 (sgF g la r p) (pZ g (r p)), upB (agF g la r p).2.2.2.2.2 (sgF g la r p) (pT g (r p)))
    else ((agF g la r p).1, upZ (agF g la r p).2.1 (sgF g la r p) (mxZ ((agF g la r p).2.1 (sgF g la r p)) (gU g (r p) + pW g (r p))), upZ (agF g la r p).2.2.1 (sgF g la r p) (mxZ ((agF g la r p).2.2.1 (sgF g la r p)) (gV g (r p) + pZ g (r p))), upZ (agF g la r p).2.2.2.1 (sgF g la r p) (mnZ ((agF g la r p).2.2.2.1 (sgF g la r p)) (gV g (r p))), upZ (agF g la r p).2.2.2.2.1 (sgF g la r p) (mxZ ((agF g la r p).2.2.2.2.1 (sgF g la r p)) (pZ g (r p))), (agF g la r p).2.2.2.2.2)
/-- bounds of a segment -/
def agB (a : (Nat → Int) × (Nat → Int) × (Nat → Int) × (Nat → Int) × (Nat → Int) × (Nat → Bool)) (q : Nat) : Prop := (-1000000 ≤ a.1 q ∧ a.1 q ≤ 1000000) ∧ (a.1 q ≤ a.2.1 q ∧ a.2.1 q ≤ 2000000) ∧ (a.2.2.2.1 q < a.2.2.1 q ∧ a.2.2.1 q ≤ 1001000) ∧ -1000000 ≤ a.2.2.2.1 q ∧ 1 ≤ a.2.2.2.2.1 q ∧ a.2.2.2.2.1 q ≤ 1000
theorem ag_new {g : PgT} {la r : Nat → Nat} {p : Nat} (h : sgN g la r p = true) : agF g la r (p + 1) = (upZ (agF g la r p).1 (sgF g la r p) (gU g (r p)), upZ (agF g la r p).2.1 (sgF g la r p) (gU g (r p) + pW g (r p)), upZ (agF g la r p).2.2.1 (sgF g la r p) (gV g (r p) + pZ g (r p)), upZ (agF g la r p).2.2.2.1 (sgF g la r p) (gV g (r p)), upZ (agF g la r p).2.2.2.2.1 (sgF g la r p) (pZ g (r p)), upB (agF g la r p).2.2.2.2.2 (sgF g la r p) (pT g (r p))) := by
  rw [agF, if_pos h]
theorem ag_old {g : PgT} {la r : Nat → Nat} {p : Nat} (h : ¬ sgN g la r p = true) : agF g la r (p + 1) = ((agF g la r p).1, upZ (agF g la r p).2.1 (sgF g la r p) (mxZ ((agF g la r p).2.1 (sgF g la r p)) (gU g (r p) + pW g (r p))), upZ (agF g la r p).2.2.1 (sgF g la r p) (mxZ ((agF g la r p).2.2.1 (sgF g la r p)) (gV g (r p) + pZ g (r p))), upZ (agF g la r p).2.2.2.1 (sgF g la r p) (mnZ ((agF g la r p).2.2.2.1 (sgF g la r p)) (gV g (r p))), upZ (agF g la r p).2.2.2.2.1 (sgF g la r p) (mxZ ((agF g la r p).2.2.2.2.1 (sgF g la r p)) (pZ g (r p))), (agF g la r p).2.2.2.2.2) := by
  rw [agF, if_neg h]
theorem ag_bd {g : PgT} {la r : Nat → Nat} (hg : PgOk g) : ∀ p, (∀ i, i < p → r i < pN g) → ∀ q, q < sgC g la r p → agB (agF g la r p) q := by
  intro p
  induction p with
  | zero => exact fun _ q hq => absurd hq (by simp [sgC])
  | succ p ih =>
    intro hr q hq
    have ih := ih (fun i hi => hr i (by omega))
    have hp := hr p (by omega)
    have bu := gU_bd hg hp
    have bv := gV_bd hg hp
    obtain ⟨-, -, -, bw, bz, -⟩ := hg.2 (r p) hp
    unfold agB
    by_cases h : sgN g la r p = true
    · obtain ⟨e1, e2⟩ := sg_new h
      rw [ag_new h]
      by_cases e : q = sgF g la r p
      · subst e
        simp only [uzE]
        omega
      · simp only [uzN _ _ e]
        exact ih q (by omega)
    · obtain ⟨-, e1, e2⟩ := sg_old h
      rw [ag_old h]
      by_cases e : q = sgF g la r p
      · subst e
        have := ih (sgF g la r p) (by omega)
        unfold agB at this
        simp only [uzE, mxZ, mnZ]
        split <;> split <;> split <;> split <;> omega
      · simp only [uzN _ _ e]
        exact ih q (by omega)
