/-! The model: a line cut whole. -/
abbrev AgT : Type := (Nat → Int) × (Nat → Int) × (Nat → Int) × (Nat → Int) × (Nat → Int) × (Nat → Bool)
def RwM (μ : MemT) (a : AgT) (n : Nat) : Prop := ∀ q, q < n → (μ.2.1 65 q).toInt = a.1 q ∧ (μ.2.1 66 q).toInt = a.2.1 q ∧ (μ.2.1 67 q).toInt = a.2.2.1 q ∧ (μ.2.1 68 q).toInt = a.2.2.2.1 q ∧ (μ.1 69 q).toInt = a.2.2.2.2.1 q ∧ μ.1 70 q = b01 (a.2.2.2.2.2 q)
def SgM (μ : MemT) (g : PgT) (la r : Nat → Nat) (P i : Nat) : Prop := μ.2.2.1 12 = nI (sgC g la r i) ∧ RwM μ (agF g la r i) (sgC g la r i) ∧ (∀ p, p < i → μ.1 60 (r p) = nI (sgF g la r p) ∧ μ.1 61 (r p) = (if p + 1 < P ∧ sgN g la r (p + 1) = false then nI (r (p + 1)) else -1) ∧ μ.1 62 (r p) = b01 (decide (p + 1 < P) && spF g la r p)) ∧ ∀ s, s < pN g → (∀ p, p < i → r p ≠ s) → μ.1 60 s = -1 ∧ μ.1 61 s = -1 ∧ μ.1 62 s = 0
theorem upZ_id (f : Nat → Int) {k : Nat} {x : Int} (h : x = f k) : upZ f k x = f := by
  funext j
  unfold upZ
  split
  · rename_i e; rw [e]; exact h
  · rfl
theorem mxZ_id (a : Int) : mxZ a a = a := by unfold mxZ; split <;> rfl
theorem mnZ_id (a : Int) : mnZ a a = a := by unfold mnZ; split <;> rfl
def agW (a : AgT) (g : PgT) (s k : Nat) : AgT := (a.1, upZ a.2.1 k (mxZ (a.2.1 k) (gU g s + pW g s)), upZ a.2.2.1 k (mxZ (a.2.2.1 k) (gV g s + pZ g s)), upZ a.2.2.2.1 k (mnZ (a.2.2.2.1 k) (gV g s)), upZ a.2.2.2.2.1 k (mxZ (a.2.2.2.2.1 k) (pZ g s)), a.2.2.2.2.2)
theorem RwM.wid {μ μ2 : MemT} {a : AgT} {g : PgT} {s k : Nat} (h : RwM μ a (k + 1)) (hf : Fr [60, 69] [66, 67, 68] [] false μ μ2) (h1 : ∃ z : Int32, z.toInt = mxZ (μ.1 69 k).toInt (pZ g s) ∧ μ2.1 69 = upd (μ.1 69) k z) (h2 : ∃ a : Int64, a.toInt = mxZ (μ.2.1 66 k).toInt (gU g s + pW g s) ∧ μ2.2.1 66 = vp_updL (μ.2.1 66) k a) (h3 : ∃ a : Int64, a.toInt = mxZ (μ.2.1 67 k).toInt (gV g s + pZ g s) ∧ μ2.2.1 67 = vp_updL (μ.2.1 67) k a) (h4 : ∃ a : Int64, a.toInt = mnZ (μ.2.1 68 k).toInt (gV g s) ∧ μ2.2.1 68 = vp_updL (μ.2.1 68) k a) : RwM μ2 (agW a g s k) (k + 1) := by
  obtain ⟨z1, p1, e1⟩ := h1
  obtain ⟨z2, p2, e2⟩ := h2
  obtain ⟨z3, p3, e3⟩ := h3
  obtain ⟨z4, p4, e4⟩ := h4
  intro q hq
  rw [e1, e2, e3, e4, hf.2.1 65 (by decide), hf.1 70 (by decide)]
  obtain ⟨k1, k2, k3, k4, k5, k6⟩ := h k (by omega)
  obtain ⟨c1, c2, c3, c4, c5, c6⟩ := h q hq
  unfold agW
  by_cases e : q = k
  · rw [e] at c1 c6 ⊢
    rw [udE, ulE, ulE, ulE]
    simp only [uzE]
    rw [p1, p2, p3, p4, k2, k3, k4, k5]
    exact ⟨c1, rfl, rfl, rfl, rfl, c6⟩
  · rw [udN _ _ e, ulN _ _ e, ulN _ _ e, ulN _ _ e]
    simp only [uzN _ _ e]
    exact ⟨c1, c2, c3, c4, c5, c6⟩
theorem Enm.mono {S : Nat → Prop} {g : PgT} {la r : Nat → Nat} {P : Nat} (En : Enm S (gBf g la) r P) {p q : Nat} (h : p ≤ q) (hq : q < P) : la (r p) ≤ la (r q) := by
  by_cases e : p = q
  · rw [e]; exact Nat.le_refl _
  · have := En.2.2 p q (by omega) hq
    unfold gBf at this
    omega
set_option maxHeartbeats 4000000 in
theorem hm_cutLine {g : PgT} {μ : MemT} {d : Nat → Int32} {la r : Nat → Nat} {P i0 j : Nat} (hA : MtA μ g) (En : Enm (Lv g d) (gBf g la) r P) (hL : LnAr (pN g) (Lv g d) (j + 1) la (μ.1 59)) (hj : j < 200) (hS : SgM μ g la r P i0) (hi0 : i0 ≤ P) (h1 : ∀ q, q < i0 → la (r q) < j) (h2 : ∀ q, i0 ≤ q → q < P → j ≤ la (r q)) :
    sp_X9_cutLine (nI j) μ (fun μ' => Fr [60, 61, 62, 63, 64, 69, 70] [65, 66, 67, 68] [12] false μ μ' ∧ ∃ i', i' ≤ P ∧ SgM μ' g la r P i' ∧ (∀ q, q < i' → la (r q) < j + 1) ∧ ∀ q, i' ≤ q → q < P → j + 1 ≤ la (r q)) := by
  have hn := hA.1.1
  have hP : P ≤ pN g := En.len gBf.ir (fun s hs => hs.1)
  have inj : ∀ i j, i < P → j < P → r i = r j → i = j := fun i j hi hj e => En.inj gBf.ir hi hj e
  have rn : ∀ q, q < P → r q < pN g := fun q hq => (En.1 q hq).1
  have l59 : ∀ s, s < pN g → (μ.1 59 s = nI j ↔ (Lv g d s ∧ la s = j)) := fun s hs => by
    rcases hL s hs with ⟨a, b, c⟩ | ⟨a, b⟩
    · rw [c, nI_eqI (by omega) (by omega)]
      exact ⟨fun z => ⟨a, z⟩, fun z => z.2⟩
    · rw [b]
      exact ⟨fun z => absurd z.symm (nI_ne_m1 (by omega)), fun z => absurd ⟨z.1, by omega⟩ a⟩
  -- the first one behind
  have beh : ∀ i (x : Int32), (∀ q, i ≤ q → q < P → j ≤ la (r q)) → ((x = -1 ∧ ∀ s, s < pN g → ¬ (∃ q, i ≤ q ∧ q < P ∧ r q = s ∧ la s = j)) ∨ ∃ h, h < pN g ∧ x = nI h ∧ (∃ q, i ≤ q ∧ q < P ∧ r q = h ∧ la h = j) ∧ ∀ s, s < pN g → (∃ q, i ≤ q ∧ q < P ∧ r q = s ∧ la s = j) → gU g h < gU g s ∨ (gU g h = gU g s ∧ h ≤ s)) → ((i < P ∧ la (r i) = j) ∧ x = nI (r i)) ∨ (¬ (i < P ∧ la (r i) = j) ∧ x = -1) := by
    intro i x hg2 hx
    rcases hx with ⟨x1, x2⟩ | ⟨h, x1, x2, ⟨q, q1, q2, q3, q4⟩, x4⟩
    · exact Or.inr ⟨fun z => x2 (r i) (rn i z.1) ⟨i, Nat.le_refl i, z.1, rfl, z.2⟩, x1⟩
    · have hiP : i < P := by omega
      have m1 := En.mono q1 q2
      rw [q3, q4] at m1
      have m2 := hg2 i (Nat.le_refl i) hiP
      have e : la (r i) = j := by omega
      refine Or.inl ⟨⟨hiP, e⟩, ?_⟩
      rw [x2]
      by_cases c : q = i
      · rw [← q3, c]
      · have b1 := x4 (r i) (rn i hiP) ⟨i, Nat.le_refl i, hiP, rfl, e⟩
        have b2 := En.2.2 i q (by omega) q2
        unfold gBf at b2
        rw [q3, q4] at b2
        omega
  intro K9 hK
  have key : ∀ m i μ1 (x2 x3 : Int32), m + i = P → Fr [60, 61, 62, 63, 64, 69, 70] [65, 66, 67, 68] [12] false μ μ1 → SgM μ1 g la r P i → (∀ q, q < i → la (r q) ≤ j) → (∀ q, i ≤ q → q < P → j ≤ la (r q)) → (((i < P ∧ la (r i) = j) ∧ x2 = nI (r i) ∧ x3 = b01 (sgN g la r i)) ∨ (¬ (i < P ∧ la (r i) = j) ∧ x2 = -1)) → K9 (nI j) x2 x3 μ1 := by
    intro m
    induction m with
    | zero =>
      intro i μ1 x2 x3 hm hf hS1 hb1 hb2 hx
      have e : i = P := by omega
      rcases hx with ⟨z, -⟩ | ⟨-, z⟩
      · omega
      subst z
      apply hK
      unfold t_X9_cutLine_9
      exact ⟨fun _ => ⟨hf, i, by omega, hS1, fun q hq => by have := hb1 q hq; omega, fun q h3 h4 => absurd h4 (by omega)⟩, fun z => absurd rfl z⟩
    | succ m ih =>
      intro i μ1 x2 x3 hm hf hS1 hb1 hb2 hx
      rcases hx with ⟨⟨hiP, hla⟩, z, z3⟩ | ⟨hx, z⟩
      · subst z
        subst z3
        have hA1 : MtA μ1 g := hA.fr hf (by decide) (by decide) (by decide)
        have sn := rn i hiP
        have cs : (nI (r i)).toNatClampNeg = r i := cI (by omega)
        have is : vp_in (nI (r i)) 200 := inI (by omega) (by decide)
        have hsl := sgF_le g la r i
        -- behind the widening
        have after : ∀ μb k (x3 : Int32) (a0 : AgT), k = sgF g la r i → sgC g la r (i + 1) = k + 1 → Fr [60, 61, 62, 63, 64, 69, 70] [65, 66, 67, 68] [12] false μ μb → μb.1 60 = μ1.1 60 → μb.1 61 = μ1.1 61 → μb.1 62 = μ1.1 62 → μb.2.2.1 12 = nI (k + 1) → RwM μb a0 (k + 1) → agF g la r (i + 1) = agW a0 g (r i) k → t_X9_cutLine_161 K9 (fun μ' => Fr [60, 61, 62, 63, 64, 69, 70] [65, 66, 67, 68] [12] false μ μ' ∧ ∃ i', i' ≤ P ∧ SgM μ' g la r P i' ∧ (∀ q, q < i' → la (r q) < j + 1) ∧ ∀ q, i' ≤ q → q < P → j + 1 ≤ la (r q)) (nI j) (nI (r i)) x3 μb := by
          intro μb k x3 a0 hk hk1 hfb b60 b61 b62 hFb hRb hag
          have hAb : MtA μb g := hA.fr hfb (by decide) (by decide) (by decide)
          refine hm_cutB hAb (nI j) x3 sn (k := k) (by omega) hFb (fun μ2 f2 w60 w69 w66 w67 w68 => ?_)
          have hR2 : RwM μ2 (agF g la r (i + 1)) (k + 1) := by rw [hag]; exact hRb.wid f2 w69 w66 w67 w68
          have hf2 : Fr [60, 61, 62, 63, 64, 69, 70] [65, 66, 67, 68] [12] false μ μ2 := hfb.tr (f2.mono (by decide) (by decide) (by decide) (fun h => h))
          have hA2 : MtA μ2 g := hA.fr hf2 (by decide) (by decide) (by decide)
          have b2' : ∀ q, i + 1 ≤ q → q < P → j ≤ la (r q) := fun q h3 h4 => hb2 q (by omega) h4
          -- the step
          have stp : ∀ (x5 : Int32) (y0 : Int64), (-4000000 ≤ y0.toInt ∧ y0.toInt ≤ 4000000) → ((((i + 1 < P ∧ la (r (i + 1)) = j) ∧ x5 = nI (r (i + 1))) ∧ y0.toInt = gGp g (r i) (r (i + 1))) ∨ ((¬ (i + 1 < P ∧ la (r (i + 1)) = j) ∧ x5 = -1) ∧ y0.toInt = 0)) → t_X9_cutLine_405 K9 (fun μ' => Fr [60, 61, 62, 63, 64, 69, 70] [65, 66, 67, 68] [12] false μ μ' ∧ ∃ i', i' ≤ P ∧ SgM μ' g la r P i' ∧ (∀ q, q < i' → la (r q) < j + 1) ∧ ∀ q, i' ≤ q → q < P → j + 1 ≤ la (r q)) (nI j) (nI (r i)) x3 (nI k) x5 y0 μ2 := by
            intro x5 y0 hy hx5
            have bz := (hA.1.2 (r i) sn).2.2.2.2.1
            refine hm_cutC hA2 sn _ _ _ _ _ hy (fun μ' f' e61 e62 => ?_)
            refine ih (i + 1) μ' x5 _ (by omega) (hf2.tr (f'.mono (by decide) (by decide) (by decide) (fun h => h))) ?_ (fun q hq => ?_) b2' ?_
            · -- the segments
              have v61 : (if 3 * pZ g (r i) ≤ y0.toInt then (-1 : Int32) else x5) = (if i + 1 < P ∧ sgN g la r (i + 1) = false then nI (r (i + 1)) else -1) ∧ (!(decide (3 * pZ g (r i) ≤ y0.toInt)) && decide (0 < y0.toInt ∧ 0 < pW g (r i) ∧ pW g (r i) ≤ 4 * y0.toInt)) = (decide (i + 1 < P) && spF g la r i) := by
                have hsg := sgN_at (g := g) (la := la) (r := r) (p := i + 1) (by omega)
                rw [Nat.add_sub_cancel] at hsg
                rcases hx5 with ⟨⟨⟨c1, c2⟩, c3⟩, c4⟩ | ⟨⟨c1, c2⟩, c3⟩
                · have hlq : la (r i) = la (r (i + 1)) := hla.trans c2.symm
                  by_cases c5 : 3 * pZ g (r i) ≤ y0.toInt
                  · have s1 : sgN g la r (i + 1) = true := hsg.mpr (Or.inr (by rw [← c4]; exact c5))
                    rw [if_pos c5, if_neg (fun z => by rw [s1] at z; exact absurd z.2 (by decide)), decide_eq_true c5]
                    unfold spF
                    rw [s1, decide_eq_true c1]
                    exact ⟨rfl, rfl⟩
                  · have s1 : sgN g la r (i + 1) = false := by
                      cases cc : sgN g la r (i + 1) with
                      | false => rfl
                      | true =>
                        rcases hsg.mp cc with a | a
                        · exact absurd hlq a
                        · rw [← c4] at a; exact absurd a c5
                    rw [if_neg c5, if_pos ⟨c1, s1⟩, decide_eq_false c5, c3]
                    unfold spF gSp
                    rw [s1, decide_eq_true c1, c4]
                    exact ⟨rfl, rfl⟩
                · have s1 : ¬ (i + 1 < P ∧ sgN g la r (i + 1) = false) := fun z => by
                    have : sgN g la r (i + 1) = true := hsg.mpr (Or.inl (fun y => c1 ⟨z.1, by rw [← y]; exact hla⟩))
                    rw [this] at z
                    exact absurd z.2 (by decide)
                  rw [if_neg (by omega), if_neg s1, c2, decide_eq_false (show ¬ (0 < y0.toInt ∧ 0 < pW g (r i) ∧ pW g (r i) ≤ 4 * y0.toInt) by omega)]
                  refine ⟨rfl, ?_⟩
                  rw [Bool.and_false]
                  by_cases c5 : i + 1 < P
                  · have : sgN g la r (i + 1) = true := by
                      cases cc : sgN g la r (i + 1) with
                      | true => rfl
                      | false => exact absurd ⟨c5, cc⟩ s1
                    unfold spF
                    rw [this]
                    simp
                  · rw [decide_eq_false c5]
                    rfl
              rw [v61.1] at e61
              rw [v61.2] at e62
              have q60 : μ'.1 60 = upd (μ1.1 60) (r i) (nI k) := by rw [f'.1 60 (by decide), w60, b60]
              have q61 : μ'.1 61 = upd (μ1.1 61) (r i) (if i + 1 < P ∧ sgN g la r (i + 1) = false then nI (r (i + 1)) else -1) := by rw [e61, f2.1 61 (by decide), b61]
              have q62 : μ'.1 62 = upd (μ1.1 62) (r i) (b01 (decide (i + 1 < P) && spF g la r i)) := by rw [e62, f2.1 62 (by decide), b62]
              refine ⟨?_, ?_, fun p hp => ?_, fun s hs hne => ?_⟩
              · rw [f'.2.2.1 12 (by decide), f2.2.2.1 12 (by decide), hFb, hk1]
              · rw [hk1]
                intro q hq
                rw [f'.1 69 (by decide), f'.1 70 (by decide), f'.2.1 65 (by decide), f'.2.1 66 (by decide), f'.2.1 67 (by decide), f'.2.1 68 (by decide)]
                exact hR2 q hq
              · rw [q60, q61, q62]
                by_cases e : p = i
                · rw [e, udE, udE, udE, hk]; exact ⟨rfl, rfl, rfl⟩
                · have ne : r p ≠ r i := fun z => e (inj p i (by omega) hiP z)
                  rw [udN _ _ ne, udN _ _ ne, udN _ _ ne]
                  exact hS1.2.2.1 p (by omega)
              · have ne : s ≠ r i := fun z => hne i (by omega) z.symm
                rw [q60, q61, q62, udN _ _ ne, udN _ _ ne, udN _ _ ne]
                exact hS1.2.2.2 s hs (fun p hp => hne p (by omega))
            · by_cases e : q = i
              · rw [e]; omega
              · exact hb1 q (by omega)
            · have hsg := sgN_at (g := g) (la := la) (r := r) (p := i + 1) (by omega)
              rw [Nat.add_sub_cancel] at hsg
              rcases hx5 with ⟨⟨⟨c1, c2⟩, c3⟩, c4⟩ | ⟨⟨c1, c2⟩, c3⟩
              · refine Or.inl ⟨⟨c1, c2⟩, c3, ?_⟩
                have hlq : la (r i) = la (r (i + 1)) := hla.trans c2.symm
                by_cases c5 : 3 * pZ g (r i) ≤ y0.toInt
                · rw [decide_eq_true c5, hsg.mpr (Or.inr (by rw [← c4]; exact c5))]
                · rw [decide_eq_false c5]
                  cases cc : sgN g la r (i + 1) with
                  | false => rfl
                  | true =>
                    rcases hsg.mp cc with a | a
                    · exact absurd hlq a
                    · rw [← c4] at a; exact absurd a c5
              · exact Or.inr ⟨c1, c2⟩
          refine ⟨_, hm_behind hA2 (Q := fun s => ∃ q, i + 1 ≤ q ∧ q < P ∧ r q = s ∧ la s = j) (Or.inr ⟨r i, sn, rfl⟩) (fun s hs => ?_), fun r6 μ4 h6 => ?_⟩
          · rw [hf2.1 59 (by decide), l59 s hs]
            refine ⟨fun ⟨q, q1, q2, q3, q4⟩ => ⟨⟨q3 ▸ En.1 q q2, q4⟩, Or.inr ⟨r i, sn, rfl, ?_⟩⟩, fun ⟨⟨z1, z2⟩, z3⟩ => ?_⟩
            · have := En.2.2 i q (by omega) q2
              unfold gBf at this
              rw [q3, q4] at this
              omega
            · obtain ⟨q, q1, q2⟩ := En.2.1 s z1
              refine ⟨q, ?_, q1, q2, z2⟩
              rcases z3 with z3 | ⟨t, t1, t2, t3⟩
              · exact absurd z3 (nI_ne_m1 (by omega))
              · have := nI_inj (by omega) (by omega) t2
                subst this
                rcases Nat.lt_trichotomy q i with c | c | c
                · have := En.2.2 q i c hiP
                  unfold gBf at this
                  rw [q2] at this
                  omega
                · rw [← q2, c] at t3
                  omega
                · omega
          · obtain ⟨rfl, h6⟩ := h6
            have h7 := beh (i + 1) r6 b2' h6
            refine ⟨fun hne => ?_, fun he => ?_⟩
            · rcases h7 with ⟨c1, c2⟩ | ⟨-, c2⟩
              · subst c2
                have sn' := rn (i + 1) c1.1
                have bu := gU_bd hA.1 sn
                have bu' := gU_bd hA.1 sn'
                have bw := (hA.1.2 (r i) sn).2.2.2.1
                have u1 := (hA2.2.2 (r i) sn).1
                have u2 := (hA2.2.2 (r (i + 1)) sn').1
                have w1 := (hA2.2.1.2.1 (r i) sn).2.2.2.1
                have ey : ((μ4.2.1 54 (r (i + 1)) - μ4.2.1 54 (r i)) - μ4.2.1 48 (r i)).toInt = gGp g (r i) (r (i + 1)) := by
                  have s1 : (μ4.2.1 54 (r (i + 1)) - μ4.2.1 54 (r i)).toInt = gU g (r (i + 1)) - gU g (r i) := by rw [fb_subL (by rw [u1, u2]; omega) (by rw [u1, u2]; omega), u1, u2]
                  rw [fb_subL (by rw [s1, w1]; omega) (by rw [s1, w1]; omega), s1, w1]
                  unfold gGp
                  omega
                refine ⟨inI (by omega) (by decide), is, is, ?_⟩
                rw [cs, cI (by omega : r (i + 1) < 2147483648)]
                exact stp _ _ (by rw [ey]; unfold gGp; omega) (Or.inl ⟨⟨c1, rfl⟩, ey⟩)
              · exact absurd c2 hne
            · rcases h7 with ⟨c1, c2⟩ | ⟨c1, c2⟩
              · rw [he] at c2
                exact absurd c2.symm (nI_ne_m1 (by have := rn (i + 1) c1.1; omega))
              · exact stp r6 0 (by decide) (Or.inr ⟨⟨c1, c2⟩, by decide⟩)
        apply hK
        by_cases hN : sgN g la r i = true
        · obtain ⟨g1, g2⟩ := sg_new hN
          have hcl := sgC_le g la r i
          rw [hN]
          refine hm_cutA (k := sgC g la r i) hA1 _ _ sn (fun _ => ⟨by omega, hS1.1⟩) (fun z => absurd z (by decide)) (fun _ μ' f' F' w65 w66 w67 w68 w69 w70 => ?_)
          refine after μ' (sgC g la r i) _ (agF g la r (i + 1)) g1.symm g2 (hf.tr (f'.mono (by decide) (by decide) (by decide) (fun h => h))) (f'.1 60 (by decide)) (f'.1 61 (by decide)) (f'.1 62 (by decide)) F' (fun q hq => ?_) ?_
          · obtain ⟨z1, p1, e1⟩ := w65
            obtain ⟨z2, p2, e2⟩ := w66
            obtain ⟨z3, p3, e3⟩ := w67
            obtain ⟨z4, p4, e4⟩ := w68
            obtain ⟨z5, p5, e5⟩ := w69
            rw [ag_new hN, e1, e2, e3, e4, e5, w70, g1]
            by_cases e : q = sgC g la r i
            · rw [e, ulE, ulE, ulE, ulE, udE, udE]
              simp only [uzE, ubE]
              exact ⟨p1, p2, p3, p4, p5, trivial⟩
            · rw [ulN _ _ e, ulN _ _ e, ulN _ _ e, ulN _ _ e, udN _ _ e, udN _ _ e]
              simp only [uzN _ _ e, ubN _ _ e]
              exact hS1.2.1 q (by omega)
          · rw [ag_new hN, g1]
            unfold agW
            simp only [uzE, mxZ_id, mnZ_id]
            rw [upZ_id _ (uzE _ _ _).symm, upZ_id _ (uzE _ _ _).symm, upZ_id _ (uzE _ _ _).symm, upZ_id _ (uzE _ _ _).symm]
        · obtain ⟨g0, g1, g2⟩ := sg_old hN
          have hNf : sgN g la r i = false := by
            cases cc : sgN g la r i with
            | false => rfl
            | true => exact absurd cc hN
          rw [hNf]
          refine hm_cutA (k := 0) hA1 _ _ sn (fun z => absurd rfl z) (fun _ => ?_) (fun z => absurd rfl z)
          refine after μ1 (sgF g la r i) _ (agF g la r i) rfl (by omega) hf rfl rfl rfl (by rw [hS1.1, g1]) (by rw [g1]; exact hS1.2.1) ?_
          rw [ag_old hN]
          rfl
      · subst z
        apply hK
        unfold t_X9_cutLine_9
        refine ⟨fun _ => ⟨hf, i, by omega, hS1, fun q hq => by have := hb1 q hq; omega, fun q h3 h4 => ?_⟩, fun z => absurd rfl z⟩
        have a1 := hb2 i (Nat.le_refl i) (by omega)
        have a2 := En.mono h3 h4
        have a3 : la (r i) ≠ j := fun z => hx ⟨by omega, z⟩
        omega
  unfold t_X9_cutLine_0
  refine ⟨_, hm_behind hA (Q := fun s => ∃ q, i0 ≤ q ∧ q < P ∧ r q = s ∧ la s = j) (Or.inl rfl) (fun s hs => ?_), fun r4 μ2 h4 => ?_⟩
  · rw [l59 s hs]
    refine ⟨fun ⟨q, q1, q2, q3, q4⟩ => ⟨⟨q3 ▸ En.1 q q2, q4⟩, Or.inl rfl⟩, fun ⟨⟨z1, z2⟩, _⟩ => ?_⟩
    obtain ⟨q, q1, q2⟩ := En.2.1 s z1
    refine ⟨q, ?_, q1, q2, z2⟩
    rcases Nat.lt_or_ge q i0 with c | c
    · have := h1 q c
      rw [q2] at this
      omega
    · exact c
  · obtain ⟨rfl, h4⟩ := h4
    refine key (P - i0) i0 μ2 r4 1 (by omega) (Fr.rf μ2) hS (fun q hq => by have := h1 q hq; omega) h2 ?_
    rcases beh i0 r4 h2 h4 with ⟨c1, c2⟩ | ⟨c1, c2⟩
    · refine Or.inl ⟨c1, c2, ?_⟩
      have : sgN g la r i0 = true := by
        by_cases e : i0 = 0
        · rw [e]; simp [sgN]
        · refine (sgN_at (by omega)).mpr (Or.inl (fun z => ?_))
          have := h1 (i0 - 1) (by omega)
          omega
      rw [this]
      rfl
    · exact Or.inr ⟨c1, c2⟩
