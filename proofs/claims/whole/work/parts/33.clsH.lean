/-! The class: blocks, the loop over piles. -/
def XOf (μ : MemT) (x : SgT) : Prop := ∀ q, q < x.1 → x.2.1 q = (μ.2.1 30 q).toInt ∧ x.2.2.1 q = (μ.2.1 31 q).toInt ∧ x.2.2.2.1 q = (μ.2.1 32 q).toInt ∧ x.2.2.2.2.1 q = (μ.2.1 33 q).toInt ∧ x.2.2.2.2.2 q = (μ.1 34 q).toInt
def Sur (al : Nat → Nat) (N k : Nat) : Prop := ∀ v, v < k → ∃ q, q < N ∧ al q = v
theorem Sur.le {al : Nat → Nat} {N k : Nat} (h : Sur al N k) : k ≤ N := by
  have hex : ∀ v, ∃ q, v < k → (q < N ∧ al q = v) := fun v => by
    by_cases c : v < k
    · obtain ⟨q, h1, h2⟩ := h v c
      exact ⟨q, fun _ => ⟨h1, h2⟩⟩
    · exact ⟨0, fun z => absurd z c⟩
  refine pigN N k (fun v => Classical.choose (hex v)) (fun v hv => (Classical.choose_spec (hex v) hv).1) (fun i j hi hj e => ?_)
  have e : Classical.choose (hex i) = Classical.choose (hex j) := e
  have a := (Classical.choose_spec (hex i) hi).2
  have b := (Classical.choose_spec (hex j) hj).2
  rw [e] at a
  omega
def BkC (μ : MemT) (N : Nat) (tn : Nat → Bool) (t : Bool) (al : Nat → Nat) (b p1 : Nat) : Prop := μ.2.2.1 5 = nI b ∧ ∀ q, q < N → (tn q = t ∧ ((μ.1 36 q = -1 ∧ al q < b ∧ μ.1 35 q = nI (al q)) ∨ ∃ j, j < p1 ∧ μ.1 36 q = nI j ∧ al q + j + 1 = b + p1)) ∨ (tn q ≠ t ∧ μ.1 36 q = -1 ∧ ((t = false ∧ al q = b + p1) ∨ (t = true ∧ al q < b ∧ μ.1 35 q = nI (al q))))
theorem BkC.top {μ : MemT} {N : Nat} {tn : Nat → Bool} {t : Bool} {al : Nat → Nat} {b p : Nat} (h : BkC μ N tn t al b (p + 1)) (hp : p < 1000) {q : Nat} (hq : q < N) : μ.1 36 q = nI p ↔ al q = b := by
  rcases h.2 q hq with ⟨-, ⟨a1, a2, -⟩ | ⟨j, a1, a2, a3⟩⟩ | ⟨-, a1, ⟨-, a2⟩ | ⟨-, a2, -⟩⟩
  · rw [a1]
    exact ⟨fun z => absurd z.symm (nI_ne_m1 (by omega)), fun z => by omega⟩
  · rw [a2, nI_eq (by omega) (by omega)]
    omega
  · rw [a1]
    exact ⟨fun z => absurd z.symm (nI_ne_m1 (by omega)), fun z => by omega⟩
  · rw [a1]
    exact ⟨fun z => absurd z.symm (nI_ne_m1 (by omega)), fun z => by omega⟩
/-- one parting, in the piles and in the groups -/
theorem BkC.part {μ μ' : MemT} {N : Nat} {tn : Nat → Bool} {t : Bool} {al : Nat → Nat} {b p : Nat} {S : Nat → Int} {c : Int} (h : BkC μ N tn t al b (p + 1)) (hp : p < 1000) (hS : Sur al N (b + (p + 1))) (hf : Fr [36] [] [] false μ μ') (hup : ∀ q, q < N → μ'.1 36 q = if μ.1 36 q = nI p ∧ S q < c then nI (p + 1) else μ.1 36 q) (h2 : (∃ q, q < N ∧ al q = b ∧ S q < c) ∧ ∃ q, q < N ∧ al q = b ∧ c ≤ S q) : BkC μ' N tn t (mvA al b S c) b (p + 2) ∧ Sur (mvA al b S c) N (b + (p + 2)) := by
  have f35 : μ'.1 35 = μ.1 35 := hf.1 35 (by decide)
  refine ⟨⟨by rw [hf.2.2.1 5 (by decide)]; exact h.1, fun q hq => ?_⟩, fun v hv => ?_⟩
  · have top := h.top hp hq
    rw [f35, hup q hq]
    unfold mvA
    rcases h.2 q hq with ⟨a0, ⟨a1, a2, a3⟩ | ⟨j, a1, a2, a3⟩⟩ | ⟨a0, a1, ⟨a2, a3⟩ | ⟨a2, a3, a4⟩⟩
    · refine Or.inl ⟨a0, Or.inl ⟨?_, ?_, ?_⟩⟩
      · rw [if_neg (fun z => by have := top.mp z.1; omega)]; exact a1
      · rw [if_neg (by omega)]; exact a2
      · rw [if_neg (by omega)]; exact a3
    · refine Or.inl ⟨a0, Or.inr ?_⟩
      by_cases e : al q = b
      · have hj : j = p := by omega
        by_cases cs : S q < c
        · refine ⟨p + 1, by omega, by rw [if_pos ⟨top.mpr e, cs⟩], ?_⟩
          rw [if_neg (by omega)]
          omega
        · refine ⟨p, by omega, by rw [if_neg (fun z => cs z.2), a2, hj], ?_⟩
          rw [if_pos (by omega)]
          omega
      · refine ⟨j, by omega, by rw [if_neg (fun z => e (top.mp z.1))]; exact a2, ?_⟩
        rw [if_pos (by omega)]
        omega
    · refine Or.inr ⟨a0, ?_, Or.inl ⟨a2, ?_⟩⟩
      · rw [if_neg (fun z => by have := top.mp z.1; omega)]; exact a1
      · rw [if_pos (by omega)]; omega
    · refine Or.inr ⟨a0, ?_, Or.inr ⟨a2, ?_, ?_⟩⟩
      · rw [if_neg (fun z => by have := top.mp z.1; omega)]; exact a1
      · rw [if_neg (by omega)]; exact a3
      · rw [if_neg (by omega)]; exact a4
  · obtain ⟨⟨q1, b1, b2, b3⟩, q2, c1, c2, c3⟩ := h2
    rcases Nat.lt_trichotomy v b with d | d | d
    · obtain ⟨q, e1, e2⟩ := hS v (by omega)
      exact ⟨q, e1, by unfold mvA; rw [if_neg (by omega)]; exact e2⟩
    · exact ⟨q1, b1, by unfold mvA; rw [if_neg (by omega)]; omega⟩
    · by_cases e : v = b + 1
      · exact ⟨q2, c1, by unfold mvA; rw [if_pos (by omega)]; omega⟩
      · obtain ⟨q, e1, e2⟩ := hS (v - 1) (by omega)
        exact ⟨q, e1, by unfold mvA; rw [if_pos (by omega)]; omega⟩
def pxI (p1 : Nat) : Int32 := if p1 = 0 then -1 else nI (p1 - 1)
theorem px0 : pxI 0 = -1 := rfl
theorem pxS (p : Nat) : pxI (p + 1) = nI p := by simp [pxI]
theorem px_dn (p : Nat) : nI p + (-1) = pxI p := by
  cases p with
  | zero => decide
  | succ p => rw [pxS]; exact pk_m1 p
set_option maxHeartbeats 4000000 in
theorem hs_arrangeKind {μ : MemT} {x : SgT} {tn : Nat → Bool} {al : Nat → Nat} {b : Nat} (t : Bool) (hO : OrC μ x.1) (hX : XOf μ x) (htn : ∀ q, q < x.1 → μ.1 29 q = b01 (tn q)) (hF5 : μ.2.2.1 5 = nI b) (hS : Sur al x.1 b) (hk : ∀ q, q < x.1 → tn q = t → al q = b)
    (ho : ∀ q, q < x.1 → tn q ≠ t → (t = false ∧ ((∃ k, k < x.1 ∧ tn k = t) → al q = b + 1) ∧ ((∀ k, k < x.1 → tn k ≠ t) → al q = b)) ∨ (t = true ∧ al q < b ∧ μ.1 35 q = nI (al q))) :
    sp_X0_arrangeKind (b01 t) μ (fun μ' => Fr [35, 36] [] [5] false μ μ' ∧ ∃ n al' b', BRch x n al b al' b' ∧ Sur al' x.1 b' ∧ BkC μ' x.1 tn t al' b' 0) := by
  have hN := hO.1
  intro K hK
  have key : ∀ q i μ1 n al1 b1 p1, q + i = 2 * x.1 → Fr [35, 36] [] [5] false μ μ1 → BRch x n al b al1 b1 → BkC μ1 x.1 tn t al1 b1 p1 → Sur al1 x.1 (b1 + p1) → (p1 = 0 ∨ i + 1 + 2 * b = p1 + 2 * b1) → K (b01 t) (pxI p1) (nI i) μ1 := by
    intro q
    induction q with
    | zero =>
      intro i μ1 n al1 b1 p1 hi hf hR hB hS1 hi2
      have hle := hS1.le
      have hp0 : p1 = 0 := by omega
      subst hp0
      have hO1 : OrC μ1 x.1 := hO.fr hf (by decide) (by decide)
      apply hK
      unfold t_X0_arrangeKind_10
      have e2 : (2 : Int32) * nI x.1 = nI (2 * x.1) := by rw [lit32 2, pk_mul]
      rw [hO1.2.1, e2]
      exact ⟨fun _ => ⟨hf, n, al1, b1, hR, hS1, hB⟩, fun h => absurd (by rw [nI_leI (by omega) (by omega)]; omega) h⟩
    | succ q ih =>
      intro i μ1 n al1 b1 p1 hi hf hR hB hS1 hi2
      have hle := hS1.le
      have hO1 : OrC μ1 x.1 := hO.fr hf (by decide) (by decide)
      apply hK
      unfold t_X0_arrangeKind_10
      have e2 : (2 : Int32) * nI x.1 = nI (2 * x.1) := by rw [lit32 2, pk_mul]
      rw [hO1.2.1, e2, nI_leI (by omega) (by omega)]
      refine ⟨fun h => by omega, fun _ => ?_⟩
      cases p1 with
      | zero =>
        rw [px0]
        exact ⟨fun _ => ⟨hf, n, al1, b1, hR, hS1, hB⟩, fun h => absurd (by decide) h⟩
      | succ p =>
        rw [pxS]
        have hp : p < 1000 := by omega
        have top : ∀ q, q < x.1 → (μ1.1 36 q = nI p ↔ al1 q = b1) := fun q hq => hB.top hp hq
        have X1 : XOf μ1 x := fun q hq => by
          have := hX q hq
          rw [hf.2.1 30 (by decide), hf.2.1 31 (by decide), hf.2.1 32 (by decide), hf.2.1 33 (by decide), hf.1 34 (by decide)]
          exact this
        have hex : ∃ q, q < x.1 ∧ μ1.1 36 q = nI p := by
          obtain ⟨q, q1, q2⟩ := hS1 b1 (by omega)
          exact ⟨q, q1, (top q q1).mpr q2⟩
        refine ⟨fun h => absurd h (nI_pos (by omega)), fun _ => ⟨_, hs_isParted hO1 (by omega) hex, fun r4 μ2 h4 => ?_⟩⟩
        obtain ⟨z, hz, h4⟩ := h4
        have hz' : Mst (fun q => al1 q = b1) x.2.2.2.2.2 x.1 z := by
          obtain ⟨⟨k, k1, k2, k3⟩, k4⟩ := hz
          refine ⟨⟨k, k1, (top k k1).mp k2, by rw [(X1 k k1).2.2.2.2]; exact k3⟩, fun t t1 t2 => ?_⟩
          rw [(X1 t t1).2.2.2.2]
          exact k4 t t1 ((top t t1).mpr t2)
        have e30 : ∀ k, k < x.1 → x.2.1 k = (μ1.2.1 30 k).toInt := fun k hk => (X1 k hk).1
        have e31 : ∀ k, k < x.1 → x.2.2.1 k = (μ1.2.1 31 k).toInt := fun k hk => (X1 k hk).2.1
        have e32 : ∀ k, k < x.1 → x.2.2.2.1 k = (μ1.2.1 32 k).toInt := fun k hk => (X1 k hk).2.2.1
        have e33 : ∀ k, k < x.1 → x.2.2.2.2.1 k = (μ1.2.1 33 k).toInt := fun k hk => (X1 k hk).2.2.2.1
        rcases h4 with ⟨r1, c, c1, f2, u2⟩ | ⟨r1, n0, c, c1, f2, u2⟩ | ⟨r1, n0, n1, e2⟩
        · rw [r1]
          refine ⟨fun h => absurd h (by decide), fun _ => ?_⟩
          have c1' := c1.cg top e30 e31
          obtain ⟨B2, S2⟩ := hB.part (S := x.2.1) (c := c) hp hS1 f2 (fun q hq => by rw [u2 q hq, e30 q hq]) ⟨c1'.two.1, c1'.two.2⟩
          rw [nI_1, nI_1, ← pxS (p + 1)]
          exact ih (i + 1) μ2 (n + 1) _ b1 (p + 2) (by omega) (hf.tr (f2.mono (by decide) (by decide) (by decide) (fun h => h))) (hR.snoc ⟨z, hz', Or.inl ⟨c, c1', rfl, rfl⟩⟩) B2 S2 (Or.inr (by omega))
        · rw [r1]
          refine ⟨fun h => absurd h (by decide), fun _ => ?_⟩
          have c1' := c1.cg top e32 e33
          obtain ⟨B2, S2⟩ := hB.part (S := x.2.2.2.1) (c := c) hp hS1 f2 (fun q hq => by rw [u2 q hq, e32 q hq]) ⟨c1'.two.1, c1'.two.2⟩
          rw [nI_1, nI_1, ← pxS (p + 1)]
          exact ih (i + 1) μ2 (n + 1) _ b1 (p + 2) (by omega) (hf.tr (f2.mono (by decide) (by decide) (by decide) (fun h => h))) (hR.snoc ⟨z, hz', Or.inr (Or.inl ⟨n0.cg top e30 e31, c, c1', rfl, rfl⟩)⟩) B2 S2 (Or.inr (by omega))
        · subst e2
          rw [r1]
          refine ⟨fun _ => ⟨_, hs_close hN hO1.2.1 hB.1, fun μ6 h6 => ?_⟩, fun h => absurd rfl h⟩
          obtain ⟨f6, g6, u6⟩ := h6
          rw [px_dn, nI_1]
          refine ih (i + 1) μ6 (n + 1) al1 (b1 + 1) p (by omega) (hf.tr f6) (hR.snoc ⟨z, hz', Or.inr (Or.inr ⟨n0.cg top e30 e31, n1.cg top e32 e33, rfl, rfl⟩)⟩) ⟨g6, fun q hq => ?_⟩ (fun v hv => hS1 v (by omega)) (by omega)
          obtain ⟨v1, v2⟩ := u6 q hq
          have tq := top q hq
          rcases hB.2 q hq with ⟨a0, ⟨a1, a2, a3⟩ | ⟨j, a1, a2, a3⟩⟩ | ⟨a0, a1, ⟨a2, a3⟩ | ⟨a2, a3, a4⟩⟩
          · obtain ⟨w1, w2⟩ := v2 (fun z => by have := tq.mp z; omega)
            exact Or.inl ⟨a0, Or.inl ⟨w1.trans a1, by omega, w2.trans a3⟩⟩
          · by_cases e : al1 q = b1
            · obtain ⟨w1, w2⟩ := v1 (tq.mpr e)
              exact Or.inl ⟨a0, Or.inl ⟨w1, by omega, by rw [w2, e]⟩⟩
            · obtain ⟨w1, w2⟩ := v2 (fun z => e (tq.mp z))
              exact Or.inl ⟨a0, Or.inr ⟨j, by omega, w1.trans a2, by omega⟩⟩
          · obtain ⟨w1, w2⟩ := v2 (fun z => by have := tq.mp z; omega)
            exact Or.inr ⟨a0, w1.trans a1, Or.inl ⟨a2, by omega⟩⟩
          · obtain ⟨w1, w2⟩ := v2 (fun z => by have := tq.mp z; omega)
            exact Or.inr ⟨a0, w1.trans a1, Or.inr ⟨a2, by omega, w2.trans a4⟩⟩
  unfold t_X0_arrangeKind_0
  refine ⟨_, hs_pileUp hN hO.2.1 htn t, fun r4 μ2 h4 => ?_⟩
  obtain ⟨f2, u2, h4⟩ := h4
  have f35 : μ2.1 35 = μ.1 35 := f2.1 35 (by decide)
  have F2 : μ2.2.2.1 5 = nI b := by rw [f2.2.2.1 5 (by decide)]; exact hF5
  have ff : Fr [35, 36] [] [5] false μ μ2 := f2.mono (by decide) (by decide) (by decide) (fun h => h)
  rcases h4 with ⟨r1, k, k1, k2⟩ | ⟨r1, r2⟩
  · rw [r1]
    refine key (2 * x.1) 0 μ2 0 al b 1 (by omega) ff ⟨rfl, rfl⟩ ⟨F2, fun q hq => ?_⟩ (fun v hv => ?_) (Or.inr (by omega))
    · rw [u2 q hq, f35]
      by_cases e : tn q = t
      · rw [if_pos e]
        exact Or.inl ⟨e, Or.inr ⟨0, by omega, rfl, by rw [hk q hq e]⟩⟩
      · rw [if_neg e]
        refine Or.inr ⟨e, rfl, ?_⟩
        rcases ho q hq e with ⟨o1, o2, -⟩ | o1
        · exact Or.inl ⟨o1, o2 ⟨k, k1, k2⟩⟩
        · exact Or.inr o1
    · rcases Nat.lt_or_ge v b with d | d
      · exact hS v d
      · exact ⟨k, k1, by rw [hk k k1 k2]; omega⟩
  · rw [r1]
    refine key (2 * x.1) 0 μ2 0 al b 0 (by omega) ff ⟨rfl, rfl⟩ ⟨F2, fun q hq => ?_⟩ hS (Or.inl rfl)
    rw [u2 q hq, f35, if_neg (r2 q hq)]
    refine Or.inr ⟨r2 q hq, rfl, ?_⟩
    rcases ho q hq (r2 q hq) with ⟨o1, -, o2⟩ | o1
    · exact Or.inl ⟨o1, o2 r2⟩
    · exact Or.inr o1
theorem iniA_any {N : Nat} {tn : Nat → Bool} : ((List.range N).any (fun k => !(tn k))) = true ↔ ∃ k, k < N ∧ tn k = false := by
  simp [List.any_eq_true]
theorem BRch.app {x : SgT} : ∀ {n n' : Nat} {al al' al2 : Nat → Nat} {b b' b2 : Nat}, BRch x n al b al' b' → BRch x n' al' b' al2 b2 → BRch x (n + n') al b al2 b2
  | 0, n', al, al', al2, b, b', b2, h, h2 => by
    obtain ⟨rfl, rfl⟩ := h
    rw [Nat.zero_add]
    exact h2
  | n + 1, n', al, al', al2, b, b', b2, h, h2 => by
    obtain ⟨al1, b1, h1, h3⟩ := h
    rw [Nat.add_right_comm]
    exact ⟨al1, b1, h1, BRch.app h3 h2⟩
set_option maxHeartbeats 4000000 in
theorem hs_arrange {μ : MemT} {x : SgT} {tn : Nat → Bool} (hN : x.1 ≤ 200) (hF : μ.2.2.1 4 = nI x.1) (hX : XOf μ x) (htn : ∀ q, q < x.1 → μ.1 29 q = b01 (tn q))
    (hb : ∀ q, q < x.1 → (x.2.1 q ≤ x.2.2.1 q ∧ x.2.2.2.1 q ≤ x.2.2.2.2.1 q) ∧ ((-3000000 ≤ x.2.1 q ∧ x.2.1 q ≤ 3000000) ∧ (-3000000 ≤ x.2.2.1 q ∧ x.2.2.1 q ≤ 3000000)) ∧ ((-3000000 ≤ x.2.2.2.1 q ∧ x.2.2.2.1 q ≤ 3000000) ∧ (-3000000 ≤ x.2.2.2.2.1 q ∧ x.2.2.2.2.1 q ≤ 3000000)) ∧ 1 ≤ x.2.2.2.2.2 q ∧ x.2.2.2.2.2 q ≤ 1000) :
    sp_X0_arrange μ (fun μ' => Fr [35, 36, 37, 38] [] [5] false μ μ' ∧ ∃ n al b, BRch x n (iniA x.1 tn) 0 al b ∧ Sur al x.1 b ∧ ∀ q, q < x.1 → al q < b ∧ μ'.1 35 q = nI (al q)) := by
  unfold sp_X0_arrange t_X0_arrange_0
  intro μ1 e1
  have f1 : Fr [35, 36, 37, 38] [] [5] false μ μ1 := by rw [e1]; exact Fr.wF _ _ (by decide)
  rw [f1.2.2.1 4 (by decide), hF]
  refine ⟨_, hs_sort (μ := μ1) (a1 := 37) (a2 := 30) (N := x.1) (by decide) (by decide) hN, fun μ3 h3 => ?_⟩
  obtain ⟨f3, o3, E3, O3⟩ := h3
  have f3' : Fr [35, 36, 37, 38] [] [5] false μ μ3 := f1.tr (f3.mono (by decide) (by decide) (by decide) (fun h => h))
  rw [f3'.2.2.1 4 (by decide), hF]
  refine ⟨_, hs_sort (μ := μ3) (a1 := 38) (a2 := 32) (N := x.1) (by decide) (by decide) hN, fun μ6 h6 => ?_⟩
  obtain ⟨f6, o6, E6, O6⟩ := h6
  have f6' : Fr [35, 36, 37, 38] [] [5] false μ μ6 := f3'.tr (f6.mono (by decide) (by decide) (by decide) (fun h => h))
  have X6 : XOf μ6 x := fun q hq => by
    have := hX q hq
    rw [f6'.2.1 30 (by decide), f6'.2.1 31 (by decide), f6'.2.1 32 (by decide), f6'.2.1 33 (by decide), f6'.1 34 (by decide)]
    exact this
  have hO6 : OrC μ6 x.1 := by
    refine ⟨hN, by rw [f6'.2.2.1 4 (by decide)]; exact hF, ⟨o3, ?_, fun i hi => ?_⟩, ⟨o6, ?_, O6⟩, fun q hq => ?_⟩
    · rw [f6.2.1 30 (by decide), f3.2.1 30 (by decide)]; exact E3
    · rw [f6.1 37 (by decide)]; exact O3 i hi
    · rw [f6.2.1 32 (by decide)]; exact E6
    · obtain ⟨x1, x2, x3, x4, x5⟩ := X6 q hq
      rw [← x1, ← x2, ← x3, ← x4, ← x5]
      exact hb q hq
  have t6 : ∀ q, q < x.1 → μ6.1 29 q = b01 (tn q) := fun q hq => by rw [f6'.1 29 (by decide)]; exact htn q hq
  have F6 : μ6.2.2.1 5 = nI 0 := by rw [f6.2.2.1 5 (by decide), f3.2.2.1 5 (by decide), e1, mF_221, upE]; rfl
  refine ⟨_, hs_arrangeKind (al := iniA x.1 tn) (b := 0) false hO6 X6 t6 F6 (fun v hv => absurd hv (by omega)) (fun q hq e => ?_) (fun q hq e => Or.inl ⟨rfl, fun h => ?_, fun h => ?_⟩), fun μ9 h9 => ?_⟩
  · unfold iniA
    rw [if_neg (fun z => by rw [e] at z; exact absurd z.1 (by decide))]
  · unfold iniA
    rw [if_pos ⟨by cases hq2 : tn q with | true => rfl | false => exact absurd hq2 e, iniA_any.mpr h⟩]
  · unfold iniA
    rw [if_neg (fun z => by obtain ⟨k, k1, k2⟩ := iniA_any.mp z.2; exact h k k1 k2)]
  obtain ⟨f9, n9, al9, b9, R9, S9, B9⟩ := h9
  have hO9 : OrC μ9 x.1 := hO6.fr f9 (by decide) (by decide)
  have X9 : XOf μ9 x := fun q hq => by
    have := X6 q hq
    rw [f9.2.1 30 (by decide), f9.2.1 31 (by decide), f9.2.1 32 (by decide), f9.2.1 33 (by decide), f9.1 34 (by decide)]
    exact this
  have t9 : ∀ q, q < x.1 → μ9.1 29 q = b01 (tn q) := fun q hq => by rw [f9.1 29 (by decide)]; exact t6 q hq
  refine ⟨_, hs_arrangeKind (al := al9) (b := b9) true hO9 X9 t9 B9.1 S9 (fun q hq e => ?_) (fun q hq e => Or.inr ⟨rfl, ?_⟩), fun μ12 h12 => ?_⟩
  · rcases B9.2 q hq with ⟨a0, -⟩ | ⟨-, -, ⟨-, a2⟩ | ⟨a2, -⟩⟩
    · rw [e] at a0; cases a0
    · omega
    · cases a2
  · rcases B9.2 q hq with ⟨a0, ⟨-, a2, a3⟩ | ⟨j, a1, -⟩⟩ | ⟨a0, -, -⟩
    · exact ⟨a2, a3⟩
    · omega
    · cases hq2 : tn q with
      | true => exact absurd hq2 e
      | false => exact absurd hq2 a0
  obtain ⟨f12, n12, al12, b12, R12, S12, B12⟩ := h12
  refine ⟨f6'.tr ((f9.tr f12).mono (by decide) (by decide) (by decide) (fun h => h)), n9 + n12, al12, b12, R9.app R12, S12, fun q hq => ?_⟩
  rcases B12.2 q hq with ⟨-, ⟨-, a2, a3⟩ | ⟨j, a1, -⟩⟩ | ⟨-, -, ⟨a1, -⟩ | ⟨-, a2, a3⟩⟩
  · exact ⟨a2, a3⟩
  · omega
  · cases a1
  · exact ⟨a2, a3⟩
