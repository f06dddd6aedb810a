/-! The model: groups. -/
theorem hm_hasGapE {μ : MemT} {x : SgT} {al : Nat → Nat} {b : Nat} (h : RwX μ x) (hal : ∀ q, q < x.1 → μ.1 70 q = nI (al q) ∧ al q < 1000) (hb : b < 1000) (t y) (no : ∀ q, q < x.1 → al q ≠ b) : sp_X9_hasGap (nI b) t y μ (fun v μ' => μ' = μ ∧ v = 0) := by
  have hN := h.1
  intro K hK
  have key : ∀ m i (best : Int64), m + i = x.1 → K (nI b) t y best 0 (nI i) μ := by
    intro m
    induction m with
    | zero =>
      intro i best hi
      have e : i = x.1 := by omega
      subst e
      apply hK
      unfold t_X9_hasGap_11
      rw [h.2.1]
      exact ⟨fun _ => ⟨Or.inl rfl, rfl, rfl⟩, fun z => absurd (by rw [nI_leI (by omega) (by omega)]; omega) z⟩
    | succ m ih =>
      intro i best hi
      apply hK
      unfold t_X9_hasGap_11
      rw [h.2.1, cI (by omega), (hal i (by omega)).1, nI_eqI (by have := (hal i (by omega)).2; omega) (by omega), nI_1]
      refine ⟨fun z => ?_, fun _ => ⟨inI (by omega) (by decide), fun _ => ih (i + 1) best (by omega), fun z => absurd z (no i (by omega))⟩⟩
      exfalso
      rw [nI_leI (by omega) (by omega)] at z
      omega
  exact key x.1 0 _ (by omega)
theorem mvA_sur {al : Nat → Nat} {N b G : Nat} {S E : Nat → Int} {lam c : Int} (hS : Sur al N G) (hb : b < G) (hc : CtA2 (fun q => al q = b) S E N lam c) : Sur (mvA al b S c) N (G + 1) := by
  obtain ⟨⟨q1, a1, a2, a3⟩, q2, b1, b2, b3⟩ := hc.two
  intro v hv
  rcases Nat.lt_trichotomy v b with k | k | k
  · obtain ⟨q, q3, q4⟩ := hS v (by omega)
    exact ⟨q, q3, by unfold mvA; rw [if_neg (by omega)]; exact q4⟩
  · have a2 : al q1 = b := a2
    exact ⟨q1, a1, by unfold mvA; rw [if_neg (by omega)]; omega⟩
  · by_cases e : v = b + 1
    · have b2 : al q2 = b := b2
      exact ⟨q2, b1, by unfold mvA; rw [if_pos (Or.inr ⟨b2, b3⟩)]; omega⟩
    · obtain ⟨q, q3, q4⟩ := hS (v - 1) (by omega)
      exact ⟨q, q3, by unfold mvA; rw [if_pos (Or.inl (by omega))]; omega⟩
set_option maxHeartbeats 4000000 in
theorem hm_findGroups {μ : MemT} {x : SgT} {tn : Nat → Bool} (h : RwX μ x) (h70 : ∀ q, q < x.1 → μ.1 70 q = b01 (tn q)) : sp_X9_findGroups μ (fun μ' => Fr [70] [] [13] true μ μ' ∧ ∃ n al b, BRch x n (iniA x.1 tn) 0 al b ∧ ∀ q, q < x.1 → al q < b ∧ al q < 200 ∧ μ'.1 70 q = nI (al q)) := by
  have hN := h.1
  intro K7 K23 K147 h7 h23 h147
  generalize hPp : (fun μ' => Fr [70] [] [13] true μ μ' ∧ ∃ n al b, BRch x n (iniA x.1 tn) 0 al b ∧ ∀ q, q < x.1 → al q < b ∧ al q < 200 ∧ μ'.1 70 q = nI (al q)) = Pp at h7 h23 h147 ⊢
  -- moving the numbers
  have mv : ∀ (x1 : Int32) (x2 : Int64) (x4 x5 x6 : Int32) (al f : Nat → Nat) μ0, RwX μ0 x → (∀ q, q < x.1 → μ0.1 70 q = nI (al q)) → (∀ i μ1, i < x.1 → Fr [70] [] [] false μ0 μ1 → μ1.1 70 i = nI (al i) → (∀ μ2, Fr [70] [] [] false μ1 μ2 → μ2.1 70 i = nI (f i) → (∀ q, q ≠ i → μ2.1 70 q = μ1.1 70 q) → K147 x1 x2 x4 x5 x6 (nI (i + 1)) μ2) → t_X9_findGroups_147 K7 K23 K147 Pp x1 x2 x4 x5 x6 (nI i) μ1) → (∀ μ1, Fr [70] [] [] false μ0 μ1 → (∀ q, q < x.1 → μ1.1 70 q = nI (f q)) → t_X9_findGroups_147 K7 K23 K147 Pp x1 x2 x4 x5 x6 (nI x.1) μ1) → K147 x1 x2 x4 x5 x6 0 μ0 := by
    intro x1 x2 x4 x5 x6 al f μ0 hR0 ha0 step fin
    have key : ∀ m i μ1, m + i = x.1 → Fr [70] [] [] false μ0 μ1 → (∀ q, q < i → μ1.1 70 q = nI (f q)) → (∀ q, i ≤ q → q < x.1 → μ1.1 70 q = nI (al q)) → K147 x1 x2 x4 x5 x6 (nI i) μ1 := by
      intro m
      induction m with
      | zero =>
        intro i μ1 hi hf h1 h2
        have e : i = x.1 := by omega
        subst e
        exact h147 _ _ _ _ _ _ _ (fin μ1 hf h1)
      | succ m ih =>
        intro i μ1 hi hf h1 h2
        refine h147 _ _ _ _ _ _ _ (step i μ1 (by omega) hf (h2 i (Nat.le_refl i) (by omega)) (fun μ2 f2 e1 e2 => ih (i + 1) μ2 (by omega) (hf.tr f2) (fun q hq => ?_) (fun q hq1 hq2 => ?_)))
        · by_cases e : q = i
          · rw [e]; exact e1
          · rw [e2 q e]; exact h1 q (by omega)
        · rw [e2 q (by omega)]; exact h2 q (by omega) hq2
    exact key x.1 0 μ0 (by omega) (Fr.rf μ0) (fun q hq => absurd hq (by omega)) (fun q _ hq => ha0 q hq)
  -- the greatest size
  have gr : ∀ b (al : Nat → Nat) μ0, b < 1000 → RwX μ0 x → (∀ q, q < x.1 → μ0.1 70 q = nI (al q) ∧ al q < 1000) → (∀ (x2 : Int64) (x4 : Int32), ((x4 = 0 ∧ x2 = 0 ∧ ∀ q, q < x.1 → al q ≠ b) ∨ (x4 = 1 ∧ Mst (fun q => al q = b) x.2.2.2.2.2 x.1 x2.toInt)) → t_X9_findGroups_23 K7 K23 K147 Pp (nI b) x2 x4 (nI x.1) μ0) → K23 (nI b) 0 0 0 μ0 := by
    intro b al μ0 hb hR0 ha0 fin
    have key : ∀ m i (x2 : Int64) (x4 : Int32), m + i = x.1 → ((x4 = 0 ∧ x2 = 0 ∧ ∀ q, q < i → al q ≠ b) ∨ (x4 = 1 ∧ (∃ q, q < i ∧ al q = b ∧ x.2.2.2.2.2 q = x2.toInt) ∧ ∀ q, q < i → al q = b → x.2.2.2.2.2 q ≤ x2.toInt)) → K23 (nI b) x2 x4 (nI i) μ0 := by
      intro m
      induction m with
      | zero =>
        intro i x2 x4 hi hx
        have e : i = x.1 := by omega
        subst e
        exact h23 _ _ _ _ _ (fin x2 x4 hx)
      | succ m ih =>
        intro i x2 x4 hi hx
        have hi1 : i < x.1 := by omega
        have ii : vp_in (nI i) 200 := inI (by omega) (by decide)
        have ci : (nI i).toNatClampNeg = i := cI (by omega)
        obtain ⟨⟨-, -, -, -, z5⟩, -, -, bz⟩ := hR0.2.2 i hi1
        have ez : ((μ0.1 69 i).toInt64).toInt = x.2.2.2.2.2 i := (tL64 _).trans z5
        apply h23
        unfold t_X9_findGroups_23
        rw [hR0.2.1, ci, (ha0 i hi1).1, nI_eqI (by have := (ha0 i hi1).2; omega) (by omega)]
        refine ⟨fun z => ?_, fun _ => ⟨ii, fun hne => ?_, fun he => ?_⟩⟩
        · exfalso
          rw [nI_leI (by omega) (by omega)] at z
          omega
        · have next : ∀ y : Int32, y = x4 → t_X9_findGroups_65 K7 K23 K147 Pp (nI b) x2 x4 (nI i) 0 y μ0 := fun y hy => by
            subst hy
            unfold t_X9_findGroups_65
            refine ⟨fun _ => ?_, fun z => absurd rfl z⟩
            rw [nI_1]
            refine ih (i + 1) x2 _ (by omega) ?_
            rcases hx with ⟨a, c, d⟩ | ⟨a, ⟨q, q1, q2, q3⟩, d⟩
            · refine Or.inl ⟨a, c, fun q hq => ?_⟩
              by_cases e : q = i
              · rw [e]; exact hne
              · exact d q (by omega)
            · refine Or.inr ⟨a, ⟨q, by omega, q2, q3⟩, fun q hq hc => ?_⟩
              by_cases e : q = i
              · rw [e] at hc; exact absurd hc hne
              · exact d q (by omega) hc
          unfold t_X9_findGroups_48 t_X9_findGroups_60
          refine ⟨fun h0 => next 1 ?_, fun h0 => ⟨fun _ => next 0 h0.symm, fun z => absurd rfl z⟩⟩
          rcases hx with ⟨a, -⟩ | ⟨a, -⟩
          · exact absurd a h0
          · exact a.symm
        · have next : t_X9_findGroups_60 K7 K23 K147 Pp (nI b) x2 x4 (nI i) 1 μ0 := by
            unfold t_X9_findGroups_60 t_X9_findGroups_65
            rw [ci, le64, ez, nI_1]
            refine ⟨fun z => absurd z (by decide), fun _ => ⟨ii, fun h1 => ?_, fun h1 => ⟨ii, ?_⟩⟩⟩
            · refine ih (i + 1) x2 1 (by omega) (Or.inr ⟨rfl, ?_, ?_⟩)
              · rcases hx with ⟨a, c, d⟩ | ⟨a, ⟨q, q1, q2, q3⟩, d⟩
                · rw [c] at h1
                  have h1 : x.2.2.2.2.2 i ≤ 0 := h1
                  omega
                · exact ⟨q, by omega, q2, q3⟩
              · intro q hq hc
                by_cases e : q = i
                · rw [e]; exact h1
                · rcases hx with ⟨a, c, d⟩ | ⟨a, -, d⟩
                  · exact absurd hc (d q (by omega))
                  · exact d q (by omega) hc
            · refine ih (i + 1) _ 1 (by omega) (Or.inr ⟨rfl, ⟨i, by omega, he, ez.symm⟩, fun q hq hc => ?_⟩)
              rw [ez]
              by_cases e : q = i
              · rw [e]; exact Int.le_refl _
              · rcases hx with ⟨a, c, d⟩ | ⟨a, -, d⟩
                · exact absurd hc (d q (by omega))
                · have := d q (by omega) hc
                  omega
          unfold t_X9_findGroups_48
          exact ⟨fun _ => next, fun _ => ⟨fun z => absurd z (by decide), fun _ => next⟩⟩
    exact key x.1 0 0 0 (by omega) (Or.inl ⟨rfl, rfl, fun q hq => absurd hq (by omega)⟩)
  -- a number that no segment bears
  have none : ∀ b G (al : Nat → Nat) μ0, b < 1000 → b ≤ G → G < 1000 → RwX μ0 x → μ0.2.2.1 13 = nI (G + 1) → (∀ q, q < x.1 → μ0.1 70 q = nI (al q) ∧ al q < 1000) → (∀ q, q < x.1 → al q ≠ b) → (∀ μ2, Fr [70] [] [13] true μ0 μ2 → μ2.2.2.1 13 = nI G → (∀ q, q < x.1 → μ2.1 70 q = nI (if b < al q then al q - 1 else al q)) → K7 (nI b) μ2) → K7 (nI b) μ0 := by
    intro b G al μ0 hb hbG hG hR0 hF0 ha0 hno go
    apply h7
    unfold t_X9_findGroups_7
    rw [hF0]
    refine ⟨fun z => ?_, fun _ => gr b al μ0 hb hR0 ha0 (fun x2 x4 hx => ?_)⟩
    · exfalso
      rw [nI_leI (by omega) (by omega)] at z
      omega
    rcases hx with ⟨rfl, rfl, -⟩ | ⟨-, ⟨⟨q, q1, q2, -⟩, -⟩⟩
    · unfold t_X9_findGroups_23
      rw [hR0.2.1]
      refine ⟨fun _ => ⟨_, hm_hasGapE hR0 ha0 hb _ _ hno, fun r4 μ2 h2 => ?_⟩, fun z => absurd (by rw [nI_leI (by omega) (by omega)]; omega) z⟩
      obtain ⟨rfl, rfl⟩ := h2
      refine ⟨fun _ => mv (nI b) 0 0 0 0 al (fun q => if b < al q then al q - 1 else al q) μ2 hR0 (fun q hq => (ha0 q hq).1) (fun i μ1 hi f1 e1 nx => ?_) (fun μ1 f1 e1 => ?_), fun z => absurd rfl z⟩
      · have hR1 : RwX μ1 x := hR0.fr f1 (by decide) (by decide) (by decide)
        have ii : vp_in (nI i) 200 := inI (by omega) (by decide)
        have ci : (nI i).toNatClampNeg = i := cI (by omega)
        have ba := (ha0 i hi).2
        unfold t_X9_findGroups_147
        rw [hR1.2.1]
        refine ⟨fun z => ?_, fun _ => ⟨fun _ => ?_, fun z => absurd rfl z⟩⟩
        · exfalso
          rw [nI_leI (by omega) (by omega)] at z
          omega
        unfold t_X9_findGroups_221
        rw [ci, e1, nI_leI (by omega) (by omega), nI_1]
        refine ⟨fun z => absurd rfl z, fun _ => ⟨ii, fun h5 => nx μ1 (Fr.rf μ1) ?_ (fun _ _ => rfl), fun h5 => ⟨ii, ii, fun μ4 e4 => nx μ4 ?_ ?_ (fun q hq => ?_)⟩⟩⟩
        · rw [if_neg (by omega)]; exact e1
        · rw [e4]; exact Fr.wI _ _ _ (by decide)
        · rw [e4, mI_1, upE, ci, udE, if_pos (by omega)]
          have : al i = (al i - 1) + 1 := by omega
          rw [this, nIp, Nat.add_sub_cancel]
        · rw [e4, mI_1, upE, ci, udN _ _ hq]
      · have hR1 : RwX μ1 x := hR0.fr f1 (by decide) (by decide) (by decide)
        unfold t_X9_findGroups_147
        rw [hR1.2.1, f1.2.2.1 13 (by decide), hF0, nIp]
        refine ⟨fun _ => ⟨fun _ => ⟨fun _ => ?_, fun z => absurd rfl z⟩, fun z => absurd rfl z⟩, fun z => absurd (by rw [nI_leI (by omega) (by omega)]; omega) z⟩
        unfold t_X9_findGroups_287
        intro μ5 e5
        refine ⟨fun _ => go μ5 ?_ ?_ (fun q hq => ?_), fun z => absurd rfl z⟩
        · exact (f1.mono (by decide) (by decide) (by decide) (fun h => by cases h)).tr (by rw [e5]; exact Fr.wF _ _ (by decide))
        · rw [e5, mF_221, upE]
        · rw [e5, mF_1]; exact e1 q hq
    · exact absurd q2 (hno q q1)
  -- the way
  have main : ∀ k G' G b n (al : Nat → Nat) μ1, k + G' + b = 2 * x.1 → Fr [70] [] [13] true μ μ1 → BRch x n (iniA x.1 tn) 0 al b → (∀ q, q < x.1 → μ1.1 70 q = nI (al q) ∧ al q < G') → Sur al x.1 G' → b ≤ G' → μ1.2.2.1 13 = nI G → (G = G' ∨ G = G' + 1) → K7 (nI b) μ1 := by
    intro k
    induction k with
    | zero =>
      intro G' G b n al μ1 hk hf hB ha hS hbG hF hG
      have hle := hS.le
      have exit : ∀ μ2, Fr [70] [] [13] true μ μ2 → μ2.2.2.1 13 = nI G' → (∀ q, q < x.1 → μ2.1 70 q = nI (al q)) → K7 (nI b) μ2 := fun μ2 f2 F2 a2 => by
        apply h7
        unfold t_X9_findGroups_7
        rw [F2, ← hPp]
        refine ⟨fun _ => ⟨f2, n, al, b, hB, fun q hq => ⟨by have := (ha q hq).2; omega, by have := (ha q hq).2; omega, a2 q hq⟩⟩, fun z => absurd (by rw [nI_leI (by omega) (by omega)]; omega) z⟩
      rcases hG with rfl | rfl
      · exact exit μ1 hf hF (fun q hq => (ha q hq).1)
      · refine none b G' al μ1 (by omega) hbG (by omega) (h.fr hf (by decide) (by decide) (by decide)) hF (fun q hq => ⟨(ha q hq).1, by have := (ha q hq).2; omega⟩) (fun q hq => by have := (ha q hq).2; omega) (fun μ2 f2 F2 a2 => exit μ2 (hf.tr f2) F2 (fun q hq => ?_))
        rw [a2 q hq, if_neg (by have := (ha q hq).2; omega)]
    | succ k ih =>
      intro G' G b n al μ1 hk hf hB ha hS hbG hF hG
      have hle := hS.le
      by_cases hbe : b = G'
      · have exit : ∀ μ2, Fr [70] [] [13] true μ μ2 → μ2.2.2.1 13 = nI G' → (∀ q, q < x.1 → μ2.1 70 q = nI (al q)) → K7 (nI b) μ2 := fun μ2 f2 F2 a2 => by
          apply h7
          unfold t_X9_findGroups_7
          rw [F2, ← hPp]
          refine ⟨fun _ => ⟨f2, n, al, b, hB, fun q hq => ⟨by have := (ha q hq).2; omega, by have := (ha q hq).2; omega, a2 q hq⟩⟩, fun z => absurd (by rw [nI_leI (by omega) (by omega)]; omega) z⟩
        rcases hG with rfl | rfl
        · exact exit μ1 hf hF (fun q hq => (ha q hq).1)
        · refine none b G' al μ1 (by omega) hbG (by omega) (h.fr hf (by decide) (by decide) (by decide)) hF (fun q hq => ⟨(ha q hq).1, by have := (ha q hq).2; omega⟩) (fun q hq => by have := (ha q hq).2; omega) (fun μ2 f2 F2 a2 => exit μ2 (hf.tr f2) F2 (fun q hq => ?_))
          rw [a2 q hq, if_neg (by have := (ha q hq).2; omega)]
      · have hb' : b < G' := by omega
        have hR1 : RwX μ1 x := h.fr hf (by decide) (by decide) (by decide)
        have ha1 : ∀ q, q < x.1 → μ1.1 70 q = nI (al q) ∧ al q < 1000 := fun q hq => ⟨(ha q hq).1, by have := (ha q hq).2; omega⟩
        -- parted
        have part : ∀ (t : Bool) (x2 : Int64) (x5 : Int32) (lam c : Int) μ2, (t = false ↔ ¬ x5 = 0) → Fr [] [] [] true μ1 μ2 → CtA2 (fun q => al q = b) (xS x t) (xE x t) x.1 lam c → μ2.2.2.2.toInt = c → BStp x al b (mvA al b (xS x t) c) b → K147 (nI b) x2 1 x5 1 0 μ2 := by
          intro t x2 x5 lam c μ2 ht f2 hC hc hstep
          have hR2 : RwX μ2 x := hR1.fr f2 (by decide) (by decide) (by decide)
          refine mv (nI b) x2 1 x5 1 al (mvA al b (xS x t) c) μ2 hR2 (fun q hq => by rw [f2.1 70 (by decide)]; exact (ha q hq).1) (fun i μ3 hi f3 e3 nx => ?_) (fun μ3 f3 e3 => ?_)
          · have hR3 : RwX μ3 x := hR2.fr f3 (by decide) (by decide) (by decide)
            have ii : vp_in (nI i) 200 := inI (by omega) (by decide)
            have ci : (nI i).toNatClampNeg = i := cI (by omega)
            have ba := (ha1 i hi).2
            have g3 : μ3.2.2.2.toInt = c := by rw [f3.2.2.2 rfl]; exact hc
            have up : (b < al i ∨ (al i = b ∧ c ≤ xS x t i)) → t_X9_findGroups_207 K7 K23 K147 Pp (nI b) x2 1 x5 1 (nI i) μ3 := fun hz => by
              unfold t_X9_findGroups_207
              rw [ci, e3, nI_1, nI_1]
              refine ⟨ii, ii, fun μ4 e4 => nx μ4 (by rw [e4]; exact Fr.wI _ _ _ (by decide)) ?_ (fun q hq => ?_)⟩
              · rw [e4, mI_1, upE, ci, udE]; unfold mvA; rw [if_pos hz]
              · rw [e4, mI_1, upE, ci, udN _ _ hq]
            have stay : ¬ (b < al i ∨ (al i = b ∧ c ≤ xS x t i)) → t_X9_findGroups_221 K7 K23 K147 Pp (nI b) x2 1 x5 1 (nI i) μ3 := fun hz => by
              unfold t_X9_findGroups_221
              rw [nI_1]
              refine ⟨fun _ => nx μ3 (Fr.rf μ3) ?_ (fun _ _ => rfl), fun z => absurd z (by decide)⟩
              unfold mvA; rw [if_neg hz]; exact e3
            have ask : al i = b → ∀ (y : Int32), y = b01 t → t_X9_findGroups_196 K7 K23 K147 Pp (nI b) x2 1 x5 1 (nI i) (nI i) y μ3 := fun he y hy => by
              subst hy
              unfold t_X9_findGroups_196
              refine ⟨_, hm_start hR3 t hi, fun v μ4 h4 => ?_⟩
              obtain ⟨rfl, hv⟩ := h4
              rw [lt64, hv, g3]
              exact ⟨fun h5 => stay (fun z => by omega), fun h5 => up (Or.inr ⟨he, by omega⟩)⟩
            unfold t_X9_findGroups_147
            rw [hR3.2.1, ci, e3, lt32, tI (by omega), tI (by omega), nI_eqI (by omega) (by omega)]
            refine ⟨fun z => ?_, fun _ => ⟨fun z => absurd z (by decide), fun _ => ⟨ii, fun h5 => up (Or.inl (by omega)), fun h5 => ⟨ii, fun h6 => stay (fun z => by omega), fun h6 => ⟨fun h7' => ask h6 0 ?_, fun h7' => ask h6 1 ?_⟩⟩⟩⟩⟩
            · exfalso
              rw [nI_leI (by omega) (by omega)] at z
              omega
            · rw [ht.mpr h7']; rfl
            · cases t
              · exact absurd h7' (ht.mp rfl)
              · rfl
          · have hR3 : RwX μ3 x := hR2.fr f3 (by decide) (by decide) (by decide)
            unfold t_X9_findGroups_147
            rw [hR3.2.1, f3.2.2.1 13 (by decide), f2.2.2.1 13 (by decide), hF, nI_1]
            refine ⟨fun _ => ⟨fun z => absurd z (by decide), fun _ => ?_⟩, fun z => absurd (by rw [nI_leI (by omega) (by omega)]; omega) z⟩
            unfold t_X9_findGroups_287
            intro μ5 e5
            have sur' := mvA_sur hS hb' hC
            have sl := sur'.le
            refine ⟨fun z => absurd z (by decide), fun _ => ⟨fun _ => ih (G' + 1) (G + 1) b (n + 1) (mvA al b (xS x t) c) μ5 (by omega) ?_ (hB.snoc hstep) (fun q hq => ⟨?_, ?_⟩) sur' (by omega) ?_ (by omega), fun z => absurd z (by decide)⟩⟩
            · exact hf.tr ((f2.mono (by decide) (by decide) (by decide) (fun h => h)).tr ((f3.mono (by decide) (by decide) (by decide) (fun h => by cases h)).tr (by rw [e5]; exact Fr.wF _ _ (by decide))))
            · rw [e5, mF_1]; exact e3 q hq
            · have := (ha q hq).2
              unfold mvA
              split <;> omega
            · rw [e5, mF_221, upE]
        apply h7
        unfold t_X9_findGroups_7
        rw [hF]
        refine ⟨fun z => ?_, fun _ => gr b al μ1 (by omega) hR1 ha1 (fun x2 x4 hx => ?_)⟩
        · exfalso
          rw [nI_leI (by omega) (by omega)] at z
          omega
        obtain ⟨q0, p0, p1⟩ := hS b hb'
        rcases hx with ⟨-, -, a⟩ | ⟨rfl, hM⟩
        · exact absurd p1 (a q0 p0)
        obtain ⟨qz, z1, z2, z3⟩ := hM.1
        have bz := (hR1.2.2 qz z1).2.2.2
        have e2 : ((2 : Int64) * x2).toInt = 2 * x2.toInt := by
          have t2 : (2 : Int64).toInt = 2 := by decide
          rw [fb_mulL (by rw [t2]; omega) (by rw [t2]; omega), t2]
        unfold t_X9_findGroups_23
        rw [hR1.2.1]
        refine ⟨fun _ => ⟨_, hm_hasGap hR1 ha1 (by omega) false _ (by rw [e2]; omega), fun r4 μ2 h2 => ?_⟩, fun z => absurd (by rw [nI_leI (by omega) (by omega)]; omega) z⟩
        obtain ⟨f2, h2⟩ := h2
        rw [e2] at h2
        refine ⟨fun z => absurd z (by decide), fun _ => ⟨fun h3 => ?_, fun h3 => ?_⟩⟩
        · rcases h2 with ⟨rfl, hC⟩ | ⟨a, -⟩
          · exact part false x2 1 _ _ μ2 ⟨fun _ => h3, fun _ => rfl⟩ f2 hC rfl ⟨_, hM, Or.inl ⟨_, hC, rfl, rfl⟩⟩
          · exact absurd a h3
        · subst h3
          rcases h2 with ⟨a, -⟩ | ⟨-, hno⟩
          · exact absurd a (by decide)
          have hR2 : RwX μ2 x := hR1.fr f2 (by decide) (by decide) (by decide)
          refine ⟨_, hm_hasGap (al := al) hR2 (fun q hq => by rw [f2.1 70 (by decide)]; exact ha1 q hq) (by omega) true x2 (by omega), fun r8 μ6 h6 => ?_⟩
          obtain ⟨f6, h6⟩ := h6
          refine ⟨fun h8 => ?_, fun h8 => ?_⟩
          · rcases h6 with ⟨a, -⟩ | ⟨-, hno2⟩
            · rw [h8] at a; exact absurd a (by decide)
            have hR6 : RwX μ6 x := hR2.fr f6 (by decide) (by decide) (by decide)
            refine mv (nI b) x2 1 0 0 al al μ6 hR6 (fun q hq => by rw [f6.1 70 (by decide), f2.1 70 (by decide)]; exact (ha q hq).1) (fun i μ3 hi f3 e3 nx => ?_) (fun μ3 f3 e3 => ?_)
            · have hR3 : RwX μ3 x := hR6.fr f3 (by decide) (by decide) (by decide)
              unfold t_X9_findGroups_147
              rw [hR3.2.1]
              refine ⟨fun z => ?_, fun _ => ⟨fun _ => ?_, fun z => absurd rfl z⟩⟩
              · exfalso
                rw [nI_leI (by omega) (by omega)] at z
                omega
              unfold t_X9_findGroups_221
              rw [nI_1]
              exact ⟨fun _ => nx μ3 (Fr.rf μ3) e3 (fun _ _ => rfl), fun z => absurd z (by decide)⟩
            · have hR3 : RwX μ3 x := hR6.fr f3 (by decide) (by decide) (by decide)
              unfold t_X9_findGroups_147
              rw [hR3.2.1, f3.2.2.1 13 (by decide), f6.2.2.1 13 (by decide), f2.2.2.1 13 (by decide), hF]
              refine ⟨fun _ => ⟨fun _ => ⟨fun z => absurd z (by decide), fun _ => ?_⟩, fun z => absurd rfl z⟩, fun z => absurd (by rw [nI_leI (by omega) (by omega)]; omega) z⟩
              unfold t_X9_findGroups_287
              intro μ5 e5
              refine ⟨fun z => absurd z (by decide), fun _ => ⟨fun z => absurd rfl z, fun _ => ?_⟩⟩
              rw [nI_1]
              refine ih G' G (b + 1) (n + 1) al μ5 (by omega) ?_ (hB.snoc ⟨_, hM, Or.inr (Or.inr ⟨hno, hno2, rfl, rfl⟩)⟩) (fun q hq => ⟨?_, (ha q hq).2⟩) hS (by omega) (by rw [e5, mF_221, upE]) hG
              · exact hf.tr (((f2.tr f6).mono (by decide) (by decide) (by decide) (fun h => h)).tr ((f3.mono (by decide) (by decide) (by decide) (fun h => by cases h)).tr (by rw [e5]; exact Fr.wF _ _ (by decide))))
              · rw [e5, mF_1]; exact e3 q hq
          · rcases h6 with ⟨rfl, hC⟩ | ⟨a, -⟩
            · exact part true x2 0 _ _ μ6 ⟨fun z => (by cases z), fun z => absurd rfl z⟩ (f2.tr f6) hC rfl ⟨_, hM, Or.inr (Or.inl ⟨hno, _, hC, rfl, rfl⟩)⟩
            · exact absurd a h8
  unfold t_X9_findGroups_0
  intro μ1 e1
  have f1 : Fr [70] [] [13] true μ μ1 := by rw [e1]; exact Fr.wF _ _ (by decide)
  have F1 : μ1.2.2.1 13 = nI 2 := by rw [e1, mF_221, upE]; rfl
  have R1 : RwX μ1 x := h.fr f1 (by decide) (by decide) (by decide)
  have a1 : ∀ q, q < x.1 → μ1.1 70 q = b01 (tn q) := fun q hq => by rw [e1, mF_1]; exact h70 q hq
  by_cases hU : ∃ k, k < x.1 ∧ tn k = false
  · have ini : ∀ q, iniA x.1 tn q = if tn q = true then 1 else 0 := fun q => by
      unfold iniA
      by_cases c : tn q = true
      · rw [if_pos ⟨c, iniA_any.mpr hU⟩, if_pos c]
      · rw [if_neg (fun z => c z.1), if_neg c]
    obtain ⟨k, k1, k2⟩ := hU
    by_cases hT : ∃ k, k < x.1 ∧ tn k = true
    · obtain ⟨l, l1, l2⟩ := hT
      have hs : Sur (iniA x.1 tn) x.1 2 := fun v hv => by
        rcases Nat.lt_or_ge v 1 with c | c
        · exact ⟨k, k1, by rw [ini, if_neg (by rw [k2]; decide)]; omega⟩
        · exact ⟨l, l1, by rw [ini, if_pos l2]; omega⟩
      have := hs.le
      refine main (2 * x.1 - 2) 2 2 0 0 (iniA x.1 tn) μ1 (by omega) f1 ⟨rfl, rfl⟩ (fun q hq => ?_) hs (by omega) F1 (Or.inl rfl)
      rw [a1 q hq, ini]
      cases tn q
      · exact ⟨rfl, by decide⟩
      · exact ⟨rfl, by decide⟩
    · have hs : Sur (iniA x.1 tn) x.1 1 := fun v hv => ⟨k, k1, by rw [ini, if_neg (by rw [k2]; decide)]; omega⟩
      have := hs.le
      refine main (2 * x.1 - 1) 1 2 0 0 (iniA x.1 tn) μ1 (by omega) f1 ⟨rfl, rfl⟩ (fun q hq => ?_) hs (by omega) F1 (Or.inr rfl)
      rw [a1 q hq, ini]
      cases c : tn q
      · exact ⟨rfl, by decide⟩
      · exact absurd ⟨q, hq, c⟩ hT
  · have ini : ∀ q, iniA x.1 tn q = 0 := fun q => by
      unfold iniA
      rw [if_neg (fun z => hU (iniA_any.mp z.2))]
    have all : ∀ q, q < x.1 → tn q = true := fun q hq => by
      cases c : tn q
      · exact absurd ⟨q, hq, c⟩ hU
      · rfl
    refine none 0 1 (fun _ => 1) μ1 (by omega) (by omega) (by omega) R1 F1 (fun q hq => ⟨by rw [a1 q hq, all q hq]; rfl, by decide⟩) (fun q hq => by decide) (fun μ2 f2 F2 a2 => ?_)
    have a2' : ∀ q, q < x.1 → μ2.1 70 q = nI (iniA x.1 tn q) := fun q hq => by rw [a2 q hq, ini]; rfl
    by_cases hz : x.1 = 0
    · exact main 0 0 1 0 0 (iniA x.1 tn) μ2 (by omega) (f1.tr f2) ⟨rfl, rfl⟩ (fun q hq => absurd hq (by omega)) (fun v hv => absurd hv (by omega)) (by omega) F2 (Or.inr rfl)
    · exact main (2 * x.1 - 1) 1 1 0 0 (iniA x.1 tn) μ2 (by omega) (f1.tr f2) ⟨rfl, rfl⟩ (fun q hq => ⟨a2' q hq, by rw [ini]; omega⟩) (fun v hv => ⟨0, by omega, by rw [ini]; omega⟩) (by omega) F2 (Or.inl rfl)
