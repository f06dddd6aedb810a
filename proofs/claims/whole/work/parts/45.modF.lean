/-! The model: gaps between segments. -/
def xS (x : SgT) (t : Bool) : Nat → Int := if t = true then x.2.2.2.1 else x.2.1
def xE (x : SgT) (t : Bool) : Nat → Int := if t = true then x.2.2.2.2.1 else x.2.2.1
def RwX (μ : MemT) (x : SgT) : Prop := x.1 ≤ 200 ∧ μ.2.2.1 12 = nI x.1 ∧ ∀ q, q < x.1 → ((μ.2.1 65 q).toInt = x.2.1 q ∧ (μ.2.1 66 q).toInt = x.2.2.1 q ∧ (μ.2.1 67 q).toInt = -(x.2.2.2.1 q) ∧ (μ.2.1 68 q).toInt = -(x.2.2.2.2.1 q) ∧ (μ.1 69 q).toInt = x.2.2.2.2.2 q) ∧ ((-3000000 ≤ x.2.1 q ∧ x.2.1 q ≤ 3000000) ∧ (-3000000 ≤ x.2.2.1 q ∧ x.2.2.1 q ≤ 3000000)) ∧ ((-3000000 ≤ x.2.2.2.1 q ∧ x.2.2.2.1 q ≤ 3000000) ∧ (-3000000 ≤ x.2.2.2.2.1 q ∧ x.2.2.2.2.1 q ≤ 3000000)) ∧ 1 ≤ x.2.2.2.2.2 q ∧ x.2.2.2.2.2 q ≤ 1000
theorem RwX.fr {SI SL SF : List Nat} {g' : Bool} {μ μ' : MemT} {x : SgT} (h : RwX μ x) (hf : Fr SI SL SF g' μ μ') (h1 : 69 ∉ SI) (h2 : ∀ k ∈ [65, 66, 67, 68], k ∉ SL) (h3 : 12 ∉ SF) : RwX μ' x := by
  obtain ⟨a, b, c⟩ := h
  refine ⟨a, (hf.2.2.1 12 h3).trans b, ?_⟩
  rw [hf.1 69 h1, hf.2.1 65 (h2 65 (by decide)), hf.2.1 66 (h2 66 (by decide)), hf.2.1 67 (h2 67 (by decide)), hf.2.1 68 (h2 68 (by decide))]
  exact c
theorem xS_bd {μ : MemT} {x : SgT} (h : RwX μ x) (t : Bool) {q : Nat} (hq : q < x.1) : (-3000000 ≤ xS x t q ∧ xS x t q ≤ 3000000) ∧ (-3000000 ≤ xE x t q ∧ xE x t q ≤ 3000000) := by
  obtain ⟨-, h1, h2, -⟩ := h.2.2 q hq
  cases t
  · exact h1
  · exact h2
theorem hm_start {μ : MemT} {x : SgT} (h : RwX μ x) (t : Bool) {q : Nat} (hq : q < x.1) : sp_X9_start (nI q) (b01 t) μ (fun v μ' => μ' = μ ∧ v.toInt = xS x t q) := by
  have hN := h.1
  obtain ⟨⟨h1, h2, h3, h4, h5⟩, b1, b2, b3⟩ := h.2.2 q hq
  have iq : vp_in (nI q) 200 := inI (by omega) (by decide)
  unfold sp_X9_start t_X9_start_0
  rw [cI (by omega)]
  cases t
  · exact ⟨fun _ => ⟨iq, rfl, h1⟩, fun z => absurd rfl z⟩
  · exact ⟨fun z => absurd z (by decide), fun _ => ⟨iq, rfl, by rw [fb_negL (by rw [h3]; omega), h3, Int.neg_neg]; rfl⟩⟩
theorem hm_stop {μ : MemT} {x : SgT} (h : RwX μ x) (t : Bool) {q : Nat} (hq : q < x.1) : sp_X9_stop (nI q) (b01 t) μ (fun v μ' => μ' = μ ∧ v.toInt = xE x t q) := by
  have hN := h.1
  obtain ⟨⟨h1, h2, h3, h4, h5⟩, b1, b2, b3⟩ := h.2.2 q hq
  have iq : vp_in (nI q) 200 := inI (by omega) (by decide)
  unfold sp_X9_stop t_X9_stop_0
  rw [cI (by omega)]
  cases t
  · exact ⟨fun _ => ⟨iq, rfl, h2⟩, fun z => absurd rfl z⟩
  · exact ⟨fun z => absurd z (by decide), fun _ => ⟨iq, rfl, by rw [fb_negL (by rw [h4]; omega), h4, Int.neg_neg]; rfl⟩⟩
set_option maxHeartbeats 1000000 in
theorem hm_gapBefore {μ : MemT} {x : SgT} {al : Nat → Nat} {b : Nat} (h : RwX μ x) (hal : ∀ q, q < x.1 → μ.1 70 q = nI (al q) ∧ al q < 1000) (t : Bool) {q : Nat} (hq : q < x.1) (hb : al q = b) : sp_X9_gapBefore (nI q) (b01 t) μ (fun v μ' => μ' = μ ∧ ((∃ f, Far (fun k => al k = b) (xS x t) (xE x t) x.1 (xS x t q) f ∧ v.toInt = xS x t q - f) ∨ ((∀ k, k < x.1 → al k = b → ¬ xS x t k < xS x t q) ∧ v.toInt = 0))) := by
  have hN := h.1
  have iq : vp_in (nI q) 200 := inI (by omega) (by decide)
  have cq : (nI q).toNatClampNeg = q := cI (by omega)
  have bq := xS_bd h t hq
  intro K hK
  have key : ∀ m i (x3 : Int32) (x4 : Int64), m + i = x.1 → ((x3 = 0 ∧ ∀ k, k < i → al k = b → ¬ xS x t k < xS x t q) ∨ (x3 = 1 ∧ (∃ k, k < i ∧ al k = b ∧ xS x t k < xS x t q ∧ xE x t k = x4.toInt) ∧ ∀ k, k < i → al k = b → xS x t k < xS x t q → xE x t k ≤ x4.toInt)) → K (nI q) (b01 t) x3 x4 (nI i) μ := by
    intro m
    induction m with
    | zero =>
      intro i x3 x4 hi hx
      have e : i = x.1 := by omega
      subst e
      apply hK
      unfold t_X9_gapBefore_8
      rw [h.2.1]
      refine ⟨fun _ => ⟨fun h0 => ?_, fun h0 => ⟨_, hm_start h t hq, fun v μ2 h2 => ?_⟩⟩, fun z => absurd (by rw [nI_leI (by omega) (by omega)]; omega) z⟩
      · rcases hx with ⟨-, a⟩ | ⟨a, -⟩
        · exact ⟨rfl, Or.inr ⟨a, by decide⟩⟩
        · rw [h0] at a; exact absurd a (by decide)
      · obtain ⟨rfl, hv⟩ := h2
        rcases hx with ⟨a, -⟩ | ⟨-, ⟨k, k1, k2, k3, k4⟩, k5⟩
        · exact absurd a h0
        · have bk := xS_bd h t k1
          refine ⟨rfl, Or.inl ⟨x4.toInt, ⟨⟨k, k1, k2, k3, k4⟩, k5⟩, ?_⟩⟩
          rw [fb_subL (by rw [hv]; omega) (by rw [hv]; omega), hv]
    | succ m ih =>
      intro i x3 x4 hi hx
      have hi1 : i < x.1 := by omega
      have ii : vp_in (nI i) 200 := inI (by omega) (by decide)
      have ci : (nI i).toNatClampNeg = i := cI (by omega)
      have skip : (al i = b → ¬ xS x t i < xS x t q) → K (nI q) (b01 t) x3 x4 (nI i + 1) μ := fun hz => by
        rw [nI_1]
        refine ih (i + 1) x3 x4 (by omega) ?_
        rcases hx with ⟨a, c⟩ | ⟨a, ⟨k, k1, k2, k3, k4⟩, k5⟩
        · refine Or.inl ⟨a, fun k hk => ?_⟩
          by_cases e : k = i
          · rw [e]; exact hz
          · exact c k (by omega)
        · refine Or.inr ⟨a, ⟨k, by omega, k2, k3, k4⟩, fun k hk h1 h2 => ?_⟩
          by_cases e : k = i
          · rw [e] at h1 h2; exact absurd h2 (hz h1)
          · exact k5 k (by omega) h1 h2
      apply hK
      unfold t_X9_gapBefore_8
      rw [h.2.1, ci, cq, (hal i hi1).1, (hal q hq).1, nI_eqI (by have := (hal i hi1).2; omega) (by have := (hal q hq).2; omega), hb]
      refine ⟨fun z => ?_, fun _ => ⟨ii, iq, fun h1 => skip (fun z => absurd z h1), fun h1 => ⟨_, hm_start h t hi1, fun v μ2 h2 => ?_⟩⟩⟩
      · exfalso
        rw [nI_leI (by omega) (by omega)] at z
        omega
      obtain ⟨rfl, hv⟩ := h2
      refine ⟨_, hm_start h t hq, fun w μ3 h3 => ?_⟩
      obtain ⟨rfl, hw⟩ := h3
      rw [le64, hv, hw]
      refine ⟨fun h4 => skip (fun _ => by omega), fun h4 => ?_⟩
      have take : (∀ k, k < i → al k = b → xS x t k < xS x t q → xE x t k ≤ xE x t i) → t_X9_gapBefore_67 K (fun v μ' => μ' = μ3 ∧ ((∃ f, Far (fun k => al k = b) (xS x t) (xE x t) x.1 (xS x t q) f ∧ v.toInt = xS x t q - f) ∨ ((∀ k, k < x.1 → al k = b → ¬ xS x t k < xS x t q) ∧ v.toInt = 0))) (nI q) (b01 t) x3 x4 (nI i) μ3 := fun hz => by
        unfold t_X9_gapBefore_67
        refine ⟨_, hm_stop h t hi1, fun y μ4 h5 => ?_⟩
        obtain ⟨rfl, hy⟩ := h5
        rw [nI_1]
        refine ih (i + 1) 1 y (by omega) (Or.inr ⟨rfl, ⟨i, by omega, h1, by omega, hy.symm⟩, fun k hk k1 k2 => ?_⟩)
        rw [hy]
        by_cases e : k = i
        · rw [e]; exact Int.le_refl _
        · exact hz k (by omega) k1 k2
      refine ⟨fun h5 => take ?_, fun h5 => ⟨_, hm_stop h t hi1, fun y μ4 h6 => ?_⟩⟩
      · rcases hx with ⟨-, c⟩ | ⟨a, -⟩
        · exact fun k hk k1 k2 => absurd k2 (c k hk k1)
        · rw [h5] at a; exact absurd a (by decide)
      obtain ⟨rfl, hy⟩ := h6
      rcases hx with ⟨a, -⟩ | ⟨a, ⟨k, k1, k2, k3, k4⟩, k5⟩
      · exact absurd a h5
      rw [le64, hy]
      refine ⟨fun h7 => ?_, fun h7 => take (fun j hj j1 j2 => by have := k5 j hj j1 j2; omega)⟩
      rw [nI_1]
      refine ih (i + 1) 1 x4 (by omega) (Or.inr ⟨rfl, ⟨k, by omega, k2, k3, k4⟩, fun j hj j1 j2 => ?_⟩)
      by_cases e : j = i
      · rw [e]; exact h7
      · exact k5 j (by omega) j1 j2
  unfold t_X9_gapBefore_0
  exact key x.1 0 0 0 (by omega) (Or.inl ⟨rfl, fun k hk => absurd hk (by omega)⟩)
set_option maxHeartbeats 2000000 in
theorem hm_hasGap {μ : MemT} {x : SgT} {al : Nat → Nat} {b : Nat} (h : RwX μ x) (hal : ∀ q, q < x.1 → μ.1 70 q = nI (al q) ∧ al q < 1000) (hb : b < 1000) (t : Bool) (y : Int64) (hy : 1 ≤ y.toInt ∧ y.toInt ≤ 2000) : sp_X9_hasGap (nI b) (b01 t) y μ (fun v μ' => Fr [] [] [] true μ μ' ∧ ((v = 1 ∧ CtA2 (fun k => al k = b) (xS x t) (xE x t) x.1 y.toInt μ'.2.2.2.toInt) ∨ (v = 0 ∧ NoCt (fun k => al k = b) (xS x t) (xE x t) x.1 y.toInt))) := by
  have hN := h.1
  have t1 : (1 : Int64).toInt = 1 := by decide
  intro K hK
  have key : ∀ m i (best : Int64) (x7 : Int32) μ1, m + i = x.1 → Fr [] [] [] true μ μ1 →
      ((x7 = 0 ∧ best.toInt = y.toInt - 1 ∧ ∀ q w, q < i → GpA (fun k => al k = b) (xS x t) (xE x t) x.1 q w → w < y.toInt) ∨ (x7 = 1 ∧ y.toInt ≤ best.toInt ∧ (∃ q, q < i ∧ GpA (fun k => al k = b) (xS x t) (xE x t) x.1 q best.toInt ∧ xS x t q = μ1.2.2.2.toInt) ∧ ∀ q w, q < i → GpA (fun k => al k = b) (xS x t) (xE x t) x.1 q w → w < best.toInt ∨ (w = best.toInt ∧ μ1.2.2.2.toInt ≤ xS x t q))) → K (nI b) (b01 t) y best x7 (nI i) μ1 := by
    intro m
    induction m with
    | zero =>
      intro i best x7 μ1 hi hf hx
      have e : i = x.1 := by omega
      subst e
      apply hK
      unfold t_X9_hasGap_11
      rw [hf.2.2.1 12 (by decide), h.2.1]
      refine ⟨fun _ => ⟨?_, hf, ?_⟩, fun z => absurd (by rw [nI_leI (by omega) (by omega)]; omega) z⟩
      · rcases hx with ⟨a, -⟩ | ⟨a, -⟩
        · exact Or.inl a
        · exact Or.inr a
      · rcases hx with ⟨a, -, c⟩ | ⟨a, c, ⟨q, q1, q2, q3⟩, e⟩
        · exact Or.inr ⟨a, fun q w hw => c q w hw.1 hw⟩
        · exact Or.inl ⟨a, q, best.toInt, q2, q3, c, fun q' w' hw => e q' w' hw.1 hw⟩
    | succ m ih =>
      intro i best x7 μ1 hi hf hx
      have hi1 : i < x.1 := by omega
      have ii : vp_in (nI i) 200 := inI (by omega) (by decide)
      have ci : (nI i).toNatClampNeg = i := cI (by omega)
      have h1 : RwX μ1 x := h.fr hf (by decide) (by decide) (by decide)
      have hal1 : ∀ q, q < x.1 → μ1.1 70 q = nI (al q) ∧ al q < 1000 := fun q hq => by rw [hf.1 70 (by decide)]; exact hal q hq
      have skip : (∀ w, GpA (fun k => al k = b) (xS x t) (xE x t) x.1 i w → (x7 = 0 → w < y.toInt) ∧ (¬ x7 = 0 → w < best.toInt ∨ (w = best.toInt ∧ μ1.2.2.2.toInt ≤ xS x t i))) → K (nI b) (b01 t) y best x7 (nI i + 1) μ1 := fun hz => by
        rw [nI_1]
        refine ih (i + 1) best x7 μ1 (by omega) hf ?_
        rcases hx with ⟨a, c, d⟩ | ⟨a, c, ⟨q, q1, q2, q3⟩, d⟩
        · refine Or.inl ⟨a, c, fun q w hq hw => ?_⟩
          by_cases e : q = i
          · rw [e] at hw; exact (hz w hw).1 a
          · exact d q w (by omega) hw
        · refine Or.inr ⟨a, c, ⟨q, by omega, q2, q3⟩, fun q w hq hw => ?_⟩
          by_cases e : q = i
          · rw [e] at hw ⊢; exact (hz w hw).2 (by rw [a]; decide)
          · exact d q w (by omega) hw
      apply hK
      unfold t_X9_hasGap_11
      rw [hf.2.2.1 12 (by decide), h.2.1, ci, (hal1 i hi1).1, nI_eqI (by have := (hal1 i hi1).2; omega) (by omega)]
      refine ⟨fun z => ?_, fun _ => ⟨ii, fun h2 => skip (fun w hw => absurd hw.2.1 h2), fun h2 => ⟨_, hm_gapBefore h1 hal1 t hi1 h2, fun v μ2 h3 => ?_⟩⟩⟩
      · exfalso
        rw [nI_leI (by omega) (by omega)] at z
        omega
      obtain ⟨rfl, h3⟩ := h3
      have gp : ∀ w, GpA (fun k => al k = b) (xS x t) (xE x t) x.1 i w → w = v.toInt := fun w hw => by
        obtain ⟨-, -, f, hf2, hw2⟩ := hw
        rcases h3 with ⟨f', hf3, hv⟩ | ⟨no, -⟩
        · rw [hw2, hv, hf2.one hf3]
        · obtain ⟨⟨k, k1, k2, k3, -⟩, -⟩ := hf2
          exact absurd k3 (no k k1 k2)
      have gq : y.toInt ≤ v.toInt → GpA (fun k => al k = b) (xS x t) (xE x t) x.1 i v.toInt := fun hz => by
        rcases h3 with ⟨f', hf3, hv⟩ | ⟨-, hv⟩
        · exact ⟨hi1, h2, f', hf3, hv⟩
        · omega
      have stay : (∀ w, GpA (fun k => al k = b) (xS x t) (xE x t) x.1 i w → (x7 = 0 → w < y.toInt) ∧ (¬ x7 = 0 → w < best.toInt ∨ (w = best.toInt ∧ μ2.2.2.2.toInt ≤ xS x t i))) → t_X9_hasGap_80 K (fun v μ' => Fr [] [] [] true μ μ' ∧ ((v = 1 ∧ CtA2 (fun k => al k = b) (xS x t) (xE x t) x.1 y.toInt μ'.2.2.2.toInt) ∨ (v = 0 ∧ NoCt (fun k => al k = b) (xS x t) (xE x t) x.1 y.toInt))) (nI b) (b01 t) y best x7 (nI i) v μ2 := fun hz => by
        unfold t_X9_hasGap_80 t_X9_hasGap_81
        exact ⟨fun _ => skip hz, fun z => absurd rfl z⟩
      have take : y.toInt ≤ v.toInt → (∀ q w, q < i → GpA (fun k => al k = b) (xS x t) (xE x t) x.1 q w → w < v.toInt ∨ (w = v.toInt ∧ xS x t i ≤ xS x t q)) → t_X9_hasGap_76 K (fun v μ' => Fr [] [] [] true μ μ' ∧ ((v = 1 ∧ CtA2 (fun k => al k = b) (xS x t) (xE x t) x.1 y.toInt μ'.2.2.2.toInt) ∨ (v = 0 ∧ NoCt (fun k => al k = b) (xS x t) (xE x t) x.1 y.toInt))) (nI b) (b01 t) y best x7 (nI i) v μ2 := fun hz1 hz2 => by
        unfold t_X9_hasGap_76 t_X9_hasGap_81
        refine ⟨fun z => absurd z (by decide), fun _ => ⟨_, hm_start h1 t hi1, fun s μ3 h4 μ5 e5 => ?_⟩⟩
        obtain ⟨rfl, hs⟩ := h4
        rw [nI_1]
        have g5 : μ5.2.2.2.toInt = xS x t i := by rw [e5, mG_222]; exact hs
        refine ih (i + 1) v 1 μ5 (by omega) (hf.tr (by rw [e5]; exact Fr.wG _ _)) (Or.inr ⟨rfl, hz1, ⟨i, by omega, gq hz1, g5.symm⟩, fun q w hq hw => ?_⟩)
        rw [g5]
        by_cases e : q = i
        · rw [e] at hw ⊢
          exact Or.inr ⟨gp w hw, Int.le_refl _⟩
        · exact hz2 q w (by omega) hw
      rw [lt64]
      refine ⟨fun h4 => take ?_ ?_, fun h4 => ⟨fun h5 => stay (fun w hw => ⟨fun _ => ?_, fun z => absurd h5 z⟩), fun h5 => ⟨fun h6 => stay (fun w hw => ⟨fun z => absurd z h5, fun _ => ?_⟩), fun h6 => ⟨_, hm_start h1 t hi1, fun s μ3 h7 => ?_⟩⟩⟩⟩
      · rcases hx with ⟨a, c, d⟩ | ⟨a, c, d, e⟩
        · omega
        · omega
      · intro q w hq hw
        rcases hx with ⟨a, c, d⟩ | ⟨a, c, d, e⟩
        · have := d q w hq hw
          exact Or.inl (by omega)
        · have := e q w hq hw
          exact Or.inl (by omega)
      · have := gp w hw
        rcases hx with ⟨a, c, d⟩ | ⟨a, c, d, e⟩
        · omega
        · rw [h5] at a; exact absurd a (by decide)
      · have := gp w hw
        rw [eq64] at h6
        exact Or.inl (by omega)
      · obtain ⟨rfl, hs⟩ := h7
        rcases hx with ⟨a, -⟩ | ⟨a, c, d, e⟩
        · exact absurd a h5
        rw [eq64] at h6
        rw [le64, hs]
        refine ⟨fun h8 => stay (fun w hw => ⟨fun z => absurd z h5, fun _ => Or.inr ⟨by rw [gp w hw, h6], h8⟩⟩), fun h8 => take (by omega) (fun q w hq hw => ?_)⟩
        have := e q w hq hw
        omega
  unfold t_X9_hasGap_0
  refine key x.1 0 _ 0 μ (by omega) (Fr.rf μ) (Or.inl ⟨rfl, ?_, fun q w hq => absurd hq (by omega)⟩)
  rw [fb_subL (by rw [t1]; omega) (by rw [t1]; omega), t1]
