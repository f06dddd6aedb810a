/-! Letters in an area. -/
def inB (g : PgT) (a b a2 b2 : Int64) (o : Int32) : Prop := 0 ≤ o.toInt ∧ (a.toInt ≤ pX g o.toInt.toNat ∧ pX g o.toInt.toNat ≤ a2.toInt) ∧ (b.toInt ≤ pY g o.toInt.toNat ∧ pY g o.toInt.toNat ≤ b2.toInt)
def inBb (g : PgT) (a b a2 b2 : Int64) (o : Int32) : Bool := decide (0 ≤ o.toInt ∧ (a.toInt ≤ pX g o.toInt.toNat ∧ pX g o.toInt.toNat ≤ a2.toInt) ∧ (b.toInt ≤ pY g o.toInt.toNat ∧ pY g o.toInt.toNat ≤ b2.toInt))
theorem inBb_iff {g : PgT} {a b a2 b2 : Int64} {o : Int32} : inBb g a b a2 b2 o = true ↔ inB g a b a2 b2 o := by
  unfold inBb inB
  exact decide_eq_true_iff
def arF (S : Nat → Int32) (g : PgT) (a b a2 b2 : Int64) : Nat → Nat
  | 0 => 0
  | i + 1 => arF S g a b a2 b2 i + if inBb g a b a2 b2 (S i) = true then 1 else 0
theorem arF_cg {S S' : Nat → Int32} {g : PgT} {a b a2 b2 : Int64} : ∀ n, (∀ i, i < n → S i = S' i) → arF S g a b a2 b2 n = arF S' g a b a2 b2 n
  | 0, _ => rfl
  | n + 1, h => by
    show arF S g a b a2 b2 n + _ = arF S' g a b a2 b2 n + _
    rw [arF_cg n (fun i hi => h i (by omega)), h n (by omega)]
theorem c_between {μ : MemT} (v lo hi : Int64) : sp_X8_isBetween v lo hi μ (fun r μ' => μ' = μ ∧ ((r = 1 ∧ lo.toInt ≤ v.toInt ∧ v.toInt ≤ hi.toInt) ∨ (r = 0 ∧ ¬ (lo.toInt ≤ v.toInt ∧ v.toInt ≤ hi.toInt)))) := by
  unfold sp_X8_isBetween t_X8_isBetween_0
  rw [lt64, lt64]
  exact ⟨fun h => ⟨rfl, Or.inr ⟨rfl, by omega⟩⟩, fun h => ⟨fun h2 => ⟨rfl, Or.inr ⟨rfl, by omega⟩⟩, fun h2 => ⟨rfl, Or.inl ⟨rfl, by omega⟩⟩⟩⟩
theorem pick01 {r : Int32} {p : Prop} (hh : (r = 1 ∧ p) ∨ (r = 0 ∧ ¬ p)) : (r = 0 → ¬ p) ∧ (¬ r = 0 → p) := by
  rcases hh with ⟨u, v⟩ | ⟨u, v⟩
  · exact ⟨fun e => by rw [e] at u; exact absurd u (by decide), fun _ => v⟩
  · exact ⟨fun _ => v, fun e => absurd u e⟩
set_option maxHeartbeats 1000000 in
theorem c_area {μ : MemT} {g : PgT} (h : RR μ g) (a b a2 b2 : Int64) : sp_X8_area a b a2 b2 μ (fun r μ' => RR μ' g ∧ ¬ μ'.2.2.1 0 = 0 ∧ ∃ m, m ≤ 600 ∧ μ'.2.2.1 6 = nI m ∧ r = nI (arF (μ'.1 40) g a b a2 b2 m)) := by
  have hn := h.1.1
  intro K hK
  unfold t_X8_area_0
  refine ⟨_, c_refresh h, fun μ2 q => ?_⟩
  obtain ⟨-, n2, R2⟩ := q
  obtain ⟨m, m1, m2, B⟩ := tlen R2.1 (R2.2.2.2.2.2.1 n2)
  have key : ∀ q i, q + i = m → K a b a2 b2 (nI (arF (μ2.1 40) g a b a2 b2 i)) (nI i) μ2 := by
    intro q
    induction q with
    | zero =>
      intro i hi
      have e : i = m := by omega
      subst e
      apply hK
      unfold t_X8_area_10
      rw [m2]
      exact ⟨fun _ => ⟨R2, n2, i, m1, m2, rfl⟩, fun z => absurd (by rw [nI_leI (by omega) (by omega)]; omega) z⟩
    | succ q ih =>
      intro i hi
      have ii : vp_in (nI i) 600 := inI (by omega) (by decide)
      have step : arF (μ2.1 40) g a b a2 b2 (i + 1) = arF (μ2.1 40) g a b a2 b2 i + if inBb g a b a2 b2 (μ2.1 40 i) = true then 1 else 0 := rfl
      have skip : ¬ inB g a b a2 b2 (μ2.1 40 i) → K a b a2 b2 (nI (arF (μ2.1 40) g a b a2 b2 i)) (nI i + 1) μ2 := fun z => by
        have := ih (i + 1) (by omega)
        rw [step, if_neg (fun u => z (inBb_iff.mp u)), Nat.add_zero] at this
        rw [nI_1]
        exact this
      apply hK
      unfold t_X8_area_10
      rw [m2, cI (by omega)]
      refine ⟨fun z => ?_, fun _ => ⟨ii, fun z => skip (fun y => ?_), fun z => ?_⟩⟩
      · exfalso
        rw [nI_leI (by omega) (by omega)] at z
        omega
      · rw [lt32, t_0] at z
        have := y.1
        omega
      rcases B i (by omega) with e | ⟨s, s1, e⟩
      · rw [e] at z; exact absurd (by decide) z
      have xs := (R2.2.2.1.2.1 s s1).2.1
      have ys := (R2.2.2.1.2.1 s s1).2.2.1
      have es : (μ2.1 40 i).toInt.toNat = s := by rw [e, tI (by omega)]; omega
      have hb : inB g a b a2 b2 (μ2.1 40 i) ↔ (a.toInt ≤ pX g s ∧ pX g s ≤ a2.toInt) ∧ (b.toInt ≤ pY g s ∧ pY g s ≤ b2.toInt) := by
        unfold inB
        rw [es, e, tI (by omega)]
        omega
      have cs : (μ2.1 40 i).toNatClampNeg = s := by rw [e]; exact cI (by omega)
      have is : vp_in (μ2.1 40 i) 200 := by rw [e]; exact inI (by omega) (by decide)
      rw [cs]
      refine ⟨is, _, c_between _ _ _, fun r6 μ4 h4 => ?_⟩
      obtain ⟨rfl, h4⟩ := h4
      rw [xs] at h4
      refine ⟨fun z1 => skip (fun y => (pick01 h4).1 z1 (hb.mp y).1), fun z1 => ⟨is, _, c_between _ _ _, fun r11 μ9 h9 => ?_⟩⟩
      obtain ⟨rfl, h9⟩ := h9
      rw [ys] at h9
      refine ⟨fun z2 => skip (fun y => (pick01 h9).1 z2 (hb.mp y).2), fun z2 => ?_⟩
      have := ih (i + 1) (by omega)
      rw [step, if_pos (inBb_iff.mpr (hb.mpr ⟨(pick01 h4).2 z1, (pick01 h9).2 z2⟩))] at this
      rw [nI_1, nI_1]
      exact this
  exact key m 0 (by omega)
set_option maxHeartbeats 1000000 in
theorem m_area {μ : MemT} {g : PgT} (h : RR μ g) (a b a2 b2 : Int64) : sp_X9_area a b a2 b2 μ (fun r μ' => RR μ' g ∧ Fr lkI lkL [9, 11, 12, 13, 14, 15] true μ μ' ∧ DvM μ' g ∧ ∃ m, m ≤ 600 ∧ μ'.2.2.1 15 = nI m ∧ r = nI (arF (μ'.1 73) g a b a2 b2 m)) := by
  have hn := h.1.1
  intro K hK
  unfold t_X9_area_0
  intro μ1 e1
  have f1 : Fr [] [76] [9] true μ μ1 := by rw [e1]; exact Fr.wF _ _ (by decide)
  have R1 := h.o f1
  refine ⟨_, m_look R1, fun μ2 q => ?_⟩
  have R2 := R1.look q
  have F2 : Fr lkI lkL [9, 11, 12, 13, 14, 15] true μ μ2 := (show Fr lkI lkL [9, 11, 12, 13, 14, 15] true μ μ1 by rw [e1]; exact Fr.wF _ _ (by decide)).tr (q.1.mono (by decide) (by decide) (by decide) (fun h => h))
  obtain ⟨m, m1, m2, B⟩ := tlenM R2.1 q.2.2
  have z32 : ∀ x : Int32, x + 0 = x := fun x => by simp
  have key : ∀ q i, q + i = m → K a b a2 b2 (nI (arF (μ2.1 73) g a b a2 b2 i)) (nI i) μ2 := by
    intro q'
    induction q' with
    | zero =>
      intro i hi
      have e : i = m := by omega
      subst e
      apply hK
      unfold t_X9_area_15
      rw [m2]
      exact ⟨fun _ => ⟨R2, F2, q.2.2, i, m1, m2, rfl⟩, fun z => absurd (by rw [nI_leI (by omega) (by omega)]; omega) z⟩
    | succ q' ih =>
      intro i hi
      have ii : vp_in (nI i) 600 := inI (by omega) (by decide)
      have step : arF (μ2.1 73) g a b a2 b2 (i + 1) = arF (μ2.1 73) g a b a2 b2 i + if inBb g a b a2 b2 (μ2.1 73 i) = true then 1 else 0 := rfl
      have skip : ¬ inB g a b a2 b2 (μ2.1 73 i) → K a b a2 b2 (nI (arF (μ2.1 73) g a b a2 b2 i) + 0) (nI i + 1) μ2 := fun z => by
        have := ih (i + 1) (by omega)
        rw [step, if_neg (fun u => z (inBb_iff.mp u)), Nat.add_zero] at this
        rw [nI_1, z32]
        exact this
      apply hK
      unfold t_X9_area_15
      rw [m2, cI (by omega)]
      refine ⟨fun z => ?_, fun _ => ⟨ii, fun z => skip (fun y => ?_), fun z => ?_⟩⟩
      · exfalso
        rw [nI_leI (by omega) (by omega)] at z
        omega
      · have := y.1
        rw [z, t_m1] at this
        omega
      rcases B i (by omega) with e | ⟨s, s1, e⟩
      · exact absurd e z
      have xs := (R2.2.2.2.1.2.1 s s1).2.1
      have ys := (R2.2.2.2.1.2.1 s s1).2.2.1
      have es : (μ2.1 73 i).toInt.toNat = s := by rw [e, tI (by omega)]; omega
      have hb : inB g a b a2 b2 (μ2.1 73 i) ↔ (a.toInt ≤ pX g s ∧ pX g s ≤ a2.toInt) ∧ (b.toInt ≤ pY g s ∧ pY g s ≤ b2.toInt) := by
        unfold inB
        rw [es, e, tI (by omega)]
        omega
      have cs : (μ2.1 73 i).toNatClampNeg = s := by rw [e]; exact cI (by omega)
      have is : vp_in (μ2.1 73 i) 200 := by rw [e]; exact inI (by omega) (by decide)
      rw [cs]
      refine ⟨is, _, m_isIn _ _ _, fun r6 μ4 h4 => ?_⟩
      obtain ⟨rfl, h4⟩ := h4
      rw [xs] at h4
      refine ⟨fun z1 => skip (fun y => (pick01 h4).1 z1 (hb.mp y).1), fun z1 => ⟨is, _, m_isIn _ _ _, fun r11 μ9 h9 => ?_⟩⟩
      obtain ⟨rfl, h9⟩ := h9
      rw [ys] at h9
      refine ⟨fun z2 => skip (fun y => (pick01 h9).1 z2 (hb.mp y).2), fun z2 => ?_⟩
      have := ih (i + 1) (by omega)
      rw [step, if_pos (inBb_iff.mpr (hb.mpr ⟨(pick01 h4).2 z1, (pick01 h9).2 z2⟩))] at this
      rw [nI_1, nI_1]
      exact this
  exact key m 0 (by omega)
theorem k_area {μ : MemT} {g : PgT} (h : RR μ g) {xs : Nat → Int32} {L : Nat} {x4 : Int32} (hv : ∀ k, k < 9 → vp_in (x4 + nI k) L) : tw_1237 KR xs L x4 μ := by
  unfold tw_1237
  generalize (((xs (x4 + (1 : Int32)).toNatClampNeg).toInt64 <<< ((32 : Int32).toInt64 &&& 63)) ||| ((xs (x4 + (2 : Int32)).toNatClampNeg).toInt64 &&& (4294967295 : Int64))) = a
  generalize (((xs (x4 + (3 : Int32)).toNatClampNeg).toInt64 <<< ((32 : Int32).toInt64 &&& 63)) ||| ((xs (x4 + (4 : Int32)).toNatClampNeg).toInt64 &&& (4294967295 : Int64))) = b
  generalize (((xs (x4 + (5 : Int32)).toNatClampNeg).toInt64 <<< ((32 : Int32).toInt64 &&& 63)) ||| ((xs (x4 + (6 : Int32)).toNatClampNeg).toInt64 &&& (4294967295 : Int64))) = a2
  generalize (((xs (x4 + (7 : Int32)).toNatClampNeg).toInt64 <<< ((32 : Int32).toInt64 &&& 63)) ||| ((xs (x4 + (8 : Int32)).toNatClampNeg).toInt64 &&& (4294967295 : Int64))) = b2
  refine ⟨hv 1 (by decide), hv 2 (by decide), hv 3 (by decide), hv 4 (by decide), hv 5 (by decide), hv 6 (by decide), hv 7 (by decide), hv 8 (by decide), _, c_area h a b a2 b2, fun r12 μ10 h10 => ?_⟩
  obtain ⟨R10, n10, m, m1, m2, e12⟩ := h10
  refine ⟨hv 1 (by decide), hv 2 (by decide), hv 3 (by decide), hv 4 (by decide), hv 5 (by decide), hv 6 (by decide), hv 7 (by decide), hv 8 (by decide), _, m_area R10 a b a2 b2, fun r24 μ22 h22 => ?_⟩
  obtain ⟨R22, F22, D22, m', m1', m2', e24⟩ := h22
  have n22 : ¬ μ22.2.2.1 0 = 0 := by rw [F22.2.2.1 0 (by decide)]; exact n10
  obtain ⟨-, k, k1, k2, k3, B⟩ := both R22.1 (R22.2.2.2.2.2.1 n22) D22
  rw [F22.2.2.1 6 (by decide), m2] at k2
  rw [m2'] at k3
  have em : m = k := nI_inj (by omega) (by omega) k2
  have em' : m' = k := nI_inj (by omega) (by omega) k3
  have e : r12 = r24 := by
    rw [e12, e24, em, em', ← F22.1 40 (by decide), arF_cg k (fun i hi => (B i hi).2)]
  exact ⟨fun _ => ⟨g, R22⟩, fun z => z e⟩
