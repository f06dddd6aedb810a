/-! The model: lines; the parts of cutting one. -/
def MtA (μ : MemT) (g : PgT) : Prop := PgOk g ∧ HasM μ g ∧ ∀ s, s < pN g → AatM μ g s
theorem MtA.fr {SI SL SF : List Nat} {g' : Bool} {μ μ' : MemT} {g : PgT} (h : MtA μ g) (hf : Fr SI SL SF g' μ μ') (h1 : ∀ k ∈ [45, 49, 50, 51, 52, 53, 56, 57], k ∉ SI) (h2 : ∀ k ∈ [46, 47, 48, 54, 55], k ∉ SL) (h3 : 10 ∉ SF) : MtA μ' g := by
  obtain ⟨a, b, c⟩ := h
  refine ⟨a, b.fr hf (fun k hk => h1 k ?_) (fun k hk => h2 k ?_) h3, fun s hs => ?_⟩
  · simp only [List.mem_cons, List.not_mem_nil, or_false] at hk ⊢; omega
  · simp only [List.mem_cons, List.not_mem_nil, or_false] at hk ⊢; omega
  · have := c s hs
    unfold AatM at this ⊢
    rw [hf.1 56 (h1 56 (by decide)), hf.1 57 (h1 57 (by decide)), hf.2.1 54 (h2 54 (by decide)), hf.2.1 55 (h2 55 (by decide))]
    exact this
theorem hm_isHigher {g : PgT} {μ : MemT} (hA : MtA μ g) {a b : Nat} (ha : a < pN g) (hb : b < pN g) : sp_X9_isHigher (nI a) (nI b) μ (fun r μ' => μ' = μ ∧ ((r = 1 ∧ gBet g a b) ∨ (r = 0 ∧ ¬ gBet g a b))) := by
  have hn := hA.1.1
  obtain ⟨ua, va, -, -⟩ := hA.2.2 a ha
  obtain ⟨ub, vb, -, -⟩ := hA.2.2 b hb
  have ta := (hA.2.1.2.1 a ha).2.2.2.2.2.1
  have tb := (hA.2.1.2.1 b hb).2.2.2.2.2.1
  have ia : vp_in (nI a) 200 := inI (by omega) (by decide)
  have ib : vp_in (nI b) 200 := inI (by omega) (by decide)
  unfold sp_X9_isHigher t_X9_isHigher_0 gBet
  rw [cI (by omega : a < 2147483648), cI (by omega : b < 2147483648), ta, tb, b01_iff, eq64, eq64, le64, le64, ua, va, ub, vb, nI_leI (by omega) (by omega)]
  refine ⟨ia, ib, fun h1 => ⟨ia, ib, fun h2 => ⟨ia, ib, fun h3 => ⟨fun h4 => ⟨rfl, Or.inr ⟨rfl, fun z => ?_⟩⟩, fun h4 => ⟨rfl, Or.inl ⟨rfl, Or.inr ⟨h1, by omega⟩⟩⟩⟩, fun h3 => ⟨ia, ib, fun h4 => ⟨rfl, Or.inr ⟨rfl, fun z => ?_⟩⟩, fun h4 => ⟨rfl, Or.inl ⟨rfl, Or.inr ⟨h1, by omega⟩⟩⟩⟩⟩, fun h2 => ⟨ia, ib, fun h4 => ⟨rfl, Or.inr ⟨rfl, fun z => ?_⟩⟩, fun h4 => ⟨rfl, Or.inl ⟨rfl, Or.inr ⟨h1, by omega⟩⟩⟩⟩⟩, fun h1 => ⟨ib, ?_, rfl, ?_⟩⟩
  · rcases z with z | z
    · rw [z.1, z.2] at h1; cases h1
    · omega
  · rcases z with z | z
    · rw [z.1, z.2] at h1; cases h1
    · omega
  · rcases z with z | z
    · rw [z.1, z.2] at h1; cases h1
    · omega
  · cases pT g b
    · exact Or.inl rfl
    · exact Or.inr rfl
  · cases ca : pT g a <;> cases cb : pT g b <;> simp [ca, cb] at h1 ⊢
    · rfl
    · rfl
set_option maxHeartbeats 1000000 in
theorem hm_behind {g : PgT} {μ : MemT} (hA : MtA μ g) {x1 last : Int32} {Q : Nat → Prop} (hl : last = -1 ∨ ∃ t, t < pN g ∧ last = nI t) (hQ : ∀ s, s < pN g → (Q s ↔ (μ.1 59 s = x1 ∧ (last = -1 ∨ ∃ t, t < pN g ∧ last = nI t ∧ (gU g t < gU g s ∨ (gU g s = gU g t ∧ t < s)))))) : sp_X9_behind x1 last μ (fun r μ' => μ' = μ ∧ ((r = -1 ∧ ∀ s, s < pN g → ¬ Q s) ∨ ∃ h, h < pN g ∧ r = nI h ∧ Q h ∧ ∀ s, s < pN g → Q s → gU g h < gU g s ∨ (gU g h = gU g s ∧ h ≤ s))) := by
  have hn := hA.1.1
  intro K hK
  have key : ∀ q i (r : Int32), q + i = pN g → ((r = -1 ∧ ∀ s, s < i → ¬ Q s) ∨ ∃ h, h < i ∧ r = nI h ∧ Q h ∧ ∀ s, s < i → Q s → gU g h < gU g s ∨ (gU g h = gU g s ∧ h ≤ s)) → K x1 last r (nI i) μ := by
    intro q
    induction q with
    | zero =>
      intro i r hi hr
      have e : i = pN g := by omega
      subst e
      apply hK
      unfold t_X9_behind_5
      rw [hA.2.1.1]
      exact ⟨fun _ => ⟨rfl, hr⟩, fun h => absurd (by rw [nI_leI (by omega) (by omega)]; omega) h⟩
    | succ q ih =>
      intro i r hi hr
      have hin : i < pN g := by omega
      have ii : vp_in (nI i) 200 := inI (by omega) (by decide)
      have ci : (nI i).toNatClampNeg = i := cI (by omega)
      have ui := (hA.2.2 i hin).1
      have no : ¬ Q i → t_X9_behind_74 K (fun r μ' => μ' = μ ∧ ((r = -1 ∧ ∀ s, s < pN g → ¬ Q s) ∨ ∃ h, h < pN g ∧ r = nI h ∧ Q h ∧ ∀ s, s < pN g → Q s → gU g h < gU g s ∨ (gU g h = gU g s ∧ h ≤ s))) x1 last r (nI i) μ := fun hz => by
        unfold t_X9_behind_74 t_X9_behind_75
        refine ⟨fun _ => ?_, fun z => absurd rfl z⟩
        rw [nI_1]
        refine ih (i + 1) r (by omega) ?_
        rcases hr with ⟨h1, h2⟩ | ⟨h, h1, h2, h3, h4⟩
        · refine Or.inl ⟨h1, fun s hs => ?_⟩
          by_cases e : s = i
          · rw [e]; exact hz
          · exact h2 s (by omega)
        · refine Or.inr ⟨h, by omega, h2, h3, fun s hs hc => ?_⟩
          by_cases e : s = i
          · rw [e] at hc; exact absurd hc hz
          · exact h4 s (by omega) hc
      have yes : Q i → t_X9_behind_70 K (fun r μ' => μ' = μ ∧ ((r = -1 ∧ ∀ s, s < pN g → ¬ Q s) ∨ ∃ h, h < pN g ∧ r = nI h ∧ Q h ∧ ∀ s, s < pN g → Q s → gU g h < gU g s ∨ (gU g h = gU g s ∧ h ≤ s))) x1 last r (nI i) μ := fun hz => by
        unfold t_X9_behind_70 t_X9_behind_75
        refine ⟨fun z => absurd z (by decide), fun _ => ⟨fun h1 => ?_, fun h1 => ?_⟩⟩
        · rw [nI_1]
          refine ih (i + 1) (nI i) (by omega) (Or.inr ⟨i, by omega, rfl, hz, fun s hs hc => ?_⟩)
          rcases hr with ⟨-, h2⟩ | ⟨h, h2, h3, -, -⟩
          · by_cases e : s = i
            · rw [e]; exact Or.inr ⟨rfl, Nat.le_refl i⟩
            · exact absurd hc (h2 s (by omega))
          · rw [h3] at h1
            exact absurd h1 (nI_ne_m1 (by omega))
        · rcases hr with ⟨h2, -⟩ | ⟨h, h2, h3, h4, h5⟩
          · exact absurd h2 h1
          have uh := (hA.2.2 h (by omega)).1
          rw [h3, ci, cI (by omega : h < 2147483648), le64, uh, ui]
          refine ⟨ii, inI (by omega) (by decide), fun h6 => ?_, fun h6 => ?_⟩
          · rw [nI_1]
            refine ih (i + 1) (nI h) (by omega) (Or.inr ⟨h, by omega, rfl, h4, fun s hs hc => ?_⟩)
            by_cases e : s = i
            · rw [e]; omega
            · exact h5 s (by omega) hc
          · rw [nI_1]
            refine ih (i + 1) (nI i) (by omega) (Or.inr ⟨i, by omega, rfl, hz, fun s hs hc => ?_⟩)
            by_cases e : s = i
            · rw [e]; exact Or.inr ⟨rfl, Nat.le_refl i⟩
            · have := h5 s (by omega) hc
              omega
      have q0 := hQ i hin
      apply hK
      unfold t_X9_behind_5
      rw [hA.2.1.1, ci]
      refine ⟨fun h => ?_, fun _ => ⟨ii, fun h1 => no (fun z => h1 (q0.mp z).1), fun h1 => ⟨fun h2 => yes (q0.mpr ⟨h1, Or.inl h2⟩), fun h2 => ?_⟩⟩⟩
      · exfalso
        rw [nI_leI (by omega) (by omega)] at h
        omega
      obtain ⟨t, t1, t2⟩ : ∃ t, t < pN g ∧ last = nI t := by
        rcases hl with a | a
        · exact absurd a h2
        · exact a
      have ut := (hA.2.2 t t1).1
      have it : vp_in (nI t) 200 := inI (by omega) (by decide)
      subst t2
      have q1 : Q i ↔ (gU g t < gU g i ∨ (gU g i = gU g t ∧ t < i)) := by
        rw [q0]
        refine ⟨fun z => ?_, fun z => ⟨h1, Or.inr ⟨t, t1, rfl, z⟩⟩⟩
        rcases z.2 with a | ⟨t', t1', t2', t3'⟩
        · exact absurd a h2
        · have := nI_inj (by omega) (by omega) t2'
          subst this
          exact t3'
      rw [cI (by omega : t < 2147483648), lt64, eq64, ut, ui, nI_leI (by omega) (by omega)]
      exact ⟨ii, it, fun h3 => yes (q1.mpr (Or.inl h3)), fun h3 => ⟨ii, it, fun h4 => no (fun z => by have := q1.mp z; omega), fun h4 => ⟨fun h5 => no (fun z => by have := q1.mp z; omega), fun h5 => yes (q1.mpr (Or.inr ⟨h4, by omega⟩))⟩⟩⟩
  unfold t_X9_behind_0
  exact key (pN g) 0 (-1) (by omega) (Or.inl ⟨rfl, fun s hs => absurd hs (by omega)⟩)
-- widening the last segment
set_option maxHeartbeats 2000000 in
theorem hm_cutB {K9 : Int32 → Int32 → Int32 → MemT → Prop} {Pp : MemT → Prop} {g : PgT} {μ : MemT} (hA : MtA μ g) {s k : Nat} (x1 x3 : Int32) (hs : s < pN g) (hk : k < 200) (hF : μ.2.2.1 12 = nI (k + 1))
    (go : ∀ μ2 : MemT, Fr [60, 69] [66, 67, 68] [] false μ μ2 → μ2.1 60 = upd (μ.1 60) s (nI k) → (∃ z : Int32, z.toInt = mxZ (μ.1 69 k).toInt (pZ g s) ∧ μ2.1 69 = upd (μ.1 69) k z) → (∃ a : Int64, a.toInt = mxZ (μ.2.1 66 k).toInt (gU g s + pW g s) ∧ μ2.2.1 66 = vp_updL (μ.2.1 66) k a) → (∃ a : Int64, a.toInt = mxZ (μ.2.1 67 k).toInt (gV g s + pZ g s) ∧ μ2.2.1 67 = vp_updL (μ.2.1 67) k a) → (∃ a : Int64, a.toInt = mnZ (μ.2.1 68 k).toInt (gV g s) ∧ μ2.2.1 68 = vp_updL (μ.2.1 68) k a) →
      (∃ P3 : Int32 → MemT → Prop, sp_X9_behind x1 (nI s) μ2 P3 ∧ ∀ (r6 : Int32) (μ4 : MemT), P3 r6 μ4 → ((¬ r6 = (-1 : Int32) → (vp_in r6 200 ∧ (vp_in (nI s) 200 ∧ (vp_in (nI s) 200 ∧ (t_X9_cutLine_405 K9 Pp x1 (nI s) x3 (nI k) r6 (((μ4.2.1 54 r6.toNatClampNeg) - (μ4.2.1 54 (nI s).toNatClampNeg)) - (μ4.2.1 48 (nI s).toNatClampNeg)) μ4))))) ∧ (r6 = (-1 : Int32) → (t_X9_cutLine_405 K9 Pp x1 (nI s) x3 (nI k) r6 (0 : Int64) μ4))))) : t_X9_cutLine_161 K9 Pp x1 (nI s) x3 μ := by
  have hn := hA.1.1
  obtain ⟨us, vs, -, -⟩ := hA.2.2 s hs
  obtain ⟨-, -, -, ws, zs, -, -⟩ := hA.2.1.2.1 s hs
  obtain ⟨-, -, -, bw, bz, -⟩ := hA.1.2 s hs
  have bu := gU_bd hA.1 hs
  have bv := gV_bd hA.1 hs
  have is : vp_in (nI s) 200 := inI (by omega) (by decide)
  have ik : vp_in (nI k) 200 := inI hk (by decide)
  have cs : (nI s).toNatClampNeg = s := cI (by omega)
  have ck : (nI k).toNatClampNeg = k := cI (by omega)
  have euw : (μ.2.1 54 s + μ.2.1 48 s).toInt = gU g s + pW g s := by rw [fb_addL (by rw [us, ws]; omega) (by rw [us, ws]; omega), us, ws]
  have evz : (μ.2.1 55 s + (μ.1 49 s).toInt64).toInt = gV g s + pZ g s := by rw [fb_addL (by rw [vs, tL64, zs]; omega) (by rw [vs, tL64, zs]; omega), vs, tL64, zs]
  have m365 : ∀ (y : Int32) (a3 a4 a5 : Int64) μ1 μ3 μ4 μ5, a3.toInt = mxZ (μ.2.1 66 k).toInt (gU g s + pW g s) → a4.toInt = mxZ (μ.2.1 67 k).toInt (gV g s + pZ g s) → a5.toInt = mnZ (μ.2.1 68 k).toInt (gV g s) → y.toInt = mxZ (μ.1 69 k).toInt (pZ g s) → μ1 = mwI μ 60 (nI s) (nI k) → μ3 = mwL μ1 66 (nI k) a3 → μ4 = mwL μ3 67 (nI k) a4 → μ5 = mwL μ4 68 (nI k) a5 → t_X9_cutLine_365 K9 Pp x1 (nI s) x3 (nI k) (nI k) y μ5 := by
    intro y a3 a4 a5 μ1 μ3 μ4 μ5 q3 q4 q5 q6 e1 e3 e4 e5
    unfold t_X9_cutLine_365
    refine ⟨ik, fun μ6 e6 => go μ6 ?_ ?_ ⟨y, q6, ?_⟩ ⟨a3, q3, ?_⟩ ⟨a4, q4, ?_⟩ ⟨a5, q5, ?_⟩⟩
    · rw [e6, e5, e4, e3, e1]
      exact ((((Fr.wI _ _ _ (by decide)).tr (Fr.wL _ _ _ (by decide))).tr (Fr.wL _ _ _ (by decide))).tr (Fr.wL _ _ _ (by decide))).tr (Fr.wI _ _ _ (by decide))
    · rw [e6, mI_1, upN _ _ (by decide), e5, mL_1, e4, mL_1, e3, mL_1, e1, mI_1, upE, cs]
    · rw [e6, mI_1, upE, e5, mL_1, e4, mL_1, e3, mL_1, e1, mI_1, upN _ _ (by decide), ck]
    · rw [e6, mI_2, e5, mL_21, upN _ _ (by decide), e4, mL_21, upN _ _ (by decide), e3, mL_21, upE, ck, e1, mI_2]
    · rw [e6, mI_2, e5, mL_21, upN _ _ (by decide), e4, mL_21, upE, ck, e3, mL_21, upN _ _ (by decide), e1, mI_2]
    · rw [e6, mI_2, e5, mL_21, upE, ck, e4, mL_21, upN _ _ (by decide), e3, mL_21, upN _ _ (by decide), e1, mI_2]
  have m326 : ∀ (a3 a4 a5 : Int64) μ1 μ3 μ4, a3.toInt = mxZ (μ.2.1 66 k).toInt (gU g s + pW g s) → a4.toInt = mxZ (μ.2.1 67 k).toInt (gV g s + pZ g s) → a5.toInt = mnZ (μ.2.1 68 k).toInt (gV g s) → μ1 = mwI μ 60 (nI s) (nI k) → μ3 = mwL μ1 66 (nI k) a3 → μ4 = mwL μ3 67 (nI k) a4 → t_X9_cutLine_326 K9 Pp x1 (nI s) x3 (nI k) (nI k) a5 μ4 := by
    intro a3 a4 a5 μ1 μ3 μ4 q3 q4 q5 e1 e3 e4
    unfold t_X9_cutLine_326
    refine ⟨ik, fun μ5 e5 => ⟨is, ik, ?_⟩⟩
    have k49 : μ5.1 49 = μ.1 49 := by rw [e5, mL_1, e4, mL_1, e3, mL_1, e1, mI_1, upN _ _ (by decide)]
    have k69 : μ5.1 69 = μ.1 69 := by rw [e5, mL_1, e4, mL_1, e3, mL_1, e1, mI_1, upN _ _ (by decide)]
    rw [k49, k69, cs, ck, le32, zs]
    refine ⟨fun h => ⟨ik, m365 _ a3 a4 a5 μ1 μ3 μ4 μ5 q3 q4 q5 ?_ e1 e3 e4 e5⟩, fun h => ⟨is, m365 _ a3 a4 a5 μ1 μ3 μ4 μ5 q3 q4 q5 ?_ e1 e3 e4 e5⟩⟩
    · unfold mxZ; rw [if_neg (by omega)]
    · unfold mxZ; rw [if_pos (by omega)]; exact zs
  have m286 : ∀ (a3 a4 : Int64) μ1 μ3, a3.toInt = mxZ (μ.2.1 66 k).toInt (gU g s + pW g s) → a4.toInt = mxZ (μ.2.1 67 k).toInt (gV g s + pZ g s) → μ1 = mwI μ 60 (nI s) (nI k) → μ3 = mwL μ1 66 (nI k) a3 → t_X9_cutLine_286 K9 Pp x1 (nI s) x3 (nI k) (nI k) a4 μ3 := by
    intro a3 a4 μ1 μ3 q3 q4 e1 e3
    unfold t_X9_cutLine_286
    refine ⟨ik, fun μ4 e4 => ⟨is, ik, ?_⟩⟩
    have k55 : μ4.2.1 55 = μ.2.1 55 := by rw [e4, mL_21, upN _ _ (by decide), e3, mL_21, upN _ _ (by decide), e1, mI_2]
    have k68 : μ4.2.1 68 = μ.2.1 68 := by rw [e4, mL_21, upN _ _ (by decide), e3, mL_21, upN _ _ (by decide), e1, mI_2]
    rw [k55, k68, cs, ck, le64, vs]
    refine ⟨fun h => ⟨ik, m326 a3 a4 _ μ1 μ3 μ4 q3 q4 ?_ e1 e3 e4⟩, fun h => ⟨is, m326 a3 a4 _ μ1 μ3 μ4 q3 q4 ?_ e1 e3 e4⟩⟩
    · unfold mnZ; rw [if_neg (by omega)]
    · unfold mnZ; rw [if_pos (by omega)]; exact vs
  have m230 : ∀ (a3 : Int64) μ1, a3.toInt = mxZ (μ.2.1 66 k).toInt (gU g s + pW g s) → μ1 = mwI μ 60 (nI s) (nI k) → t_X9_cutLine_230 K9 Pp x1 (nI s) x3 (nI k) (nI k) a3 μ1 := by
    intro a3 μ1 q3 e1
    unfold t_X9_cutLine_230
    refine ⟨ik, fun μ3 e3 => ⟨is, is, ik, ?_⟩⟩
    have k55 : μ3.2.1 55 = μ.2.1 55 := by rw [e3, mL_21, upN _ _ (by decide), e1, mI_2]
    have k67 : μ3.2.1 67 = μ.2.1 67 := by rw [e3, mL_21, upN _ _ (by decide), e1, mI_2]
    have k49 : μ3.1 49 = μ.1 49 := by rw [e3, mL_1, e1, mI_1, upN _ _ (by decide)]
    rw [k55, k67, k49, cs, ck, le64, evz]
    refine ⟨fun h => ⟨ik, m286 a3 _ μ1 μ3 q3 ?_ e1 e3⟩, fun h => ⟨is, is, m286 a3 _ μ1 μ3 q3 ?_ e1 e3⟩⟩
    · unfold mxZ; rw [if_neg (by omega)]
    · unfold mxZ; rw [if_pos (by omega)]; exact evz
  unfold t_X9_cutLine_161
  rw [hF, nIp]
  refine ⟨is, fun μ1 e1 => ⟨is, is, ik, ?_⟩⟩
  have k21 : μ1.2.1 = μ.2.1 := by rw [e1, mI_2]
  rw [k21, cs, ck, le64, euw]
  refine ⟨fun h => ⟨ik, m230 _ μ1 ?_ e1⟩, fun h => ⟨is, is, m230 _ μ1 ?_ e1⟩⟩
  · unfold mxZ; rw [if_neg (by omega)]
  · unfold mxZ; rw [if_pos (by omega)]; exact euw
