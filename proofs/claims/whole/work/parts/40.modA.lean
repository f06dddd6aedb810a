/-! The model: places, letters, doubles. -/
theorem nIp (m : Nat) : nI (m + 1) - (1 : Int32) = nI m := by rw [← nI_1]; simp
theorem nIm (m : Nat) : nI m + (-1 : Int32) = nI m - 1 := by rw [Int32.sub_eq_add_neg]
theorem hm_isNear {μ : MemT} {a b w : Int64} (ha : -1000000 ≤ a.toInt ∧ a.toInt ≤ 1000000) (hb : -1000000 ≤ b.toInt ∧ b.toInt ≤ 1000000) (hw : 0 ≤ w.toInt) : sp_X9_isNear a b w μ (fun r μ' => μ' = μ ∧ ((r = 1 ∧ (4 * (a.toInt - b.toInt) ≤ w.toInt ∧ 4 * (b.toInt - a.toInt) ≤ w.toInt)) ∨ (r = 0 ∧ ¬ (4 * (a.toInt - b.toInt) ≤ w.toInt ∧ 4 * (b.toInt - a.toInt) ≤ w.toInt)))) := by
  have e4 : (4 : Int64).toInt = 4 := by decide
  have s1 : (a - b).toInt = a.toInt - b.toInt := fb_subL (by omega) (by omega)
  have s2 : (b - a).toInt = b.toInt - a.toInt := fb_subL (by omega) (by omega)
  have m1 : ((4 : Int64) * (a - b)).toInt = 4 * (a.toInt - b.toInt) := by rw [fb_mulL (by rw [e4, s1]; omega) (by rw [e4, s1]; omega), e4, s1]
  have m2 : ((4 : Int64) * (b - a)).toInt = 4 * (b.toInt - a.toInt) := by rw [fb_mulL (by rw [e4, s2]; omega) (by rw [e4, s2]; omega), e4, s2]
  unfold sp_X9_isNear t_X9_isNear_0 t_X9_isNear_15
  rw [le64, lt64, lt64, m1, m2]
  exact ⟨fun h => ⟨fun h2 => ⟨rfl, Or.inr ⟨rfl, by omega⟩⟩, fun h2 => ⟨rfl, Or.inl ⟨rfl, by omega⟩⟩⟩, fun h => ⟨fun h2 => ⟨rfl, Or.inr ⟨rfl, by omega⟩⟩, fun h2 => ⟨rfl, Or.inl ⟨rfl, by omega⟩⟩⟩⟩
def AatM (μ : MemT) (g : PgT) (s : Nat) : Prop := (μ.2.1 54 s).toInt = gU g s ∧ (μ.2.1 55 s).toInt = gV g s ∧ μ.1 56 s = gL1 g s ∧ μ.1 57 s = gL2 g s
/-- the model has spelled m signs -/
def StM (μ : MemT) (g : PgT) (m : Nat) : Prop := (∀ s, s < m → AatM μ g s) ∧ DblOk g m (μ.1 58) ∧ ∀ s, s < m → μ.1 59 s = -1 ∧ μ.1 60 s = -1 ∧ μ.1 61 s = -1 ∧ μ.1 62 s = 0
theorem DblOk.cong {g : PgT} {m : Nat} {d d' : Nat → Int32} (h : DblOk g m d) (e : ∀ j, j < m → d' j = d j) : DblOk g m d' := fun s hs => by
  rw [e s hs]
  exact (h s hs).cong (fun j hj => e j (by omega))
set_option maxHeartbeats 4000000 in
theorem hm_spell {g : PgT} {μ : MemT} (hg : PgOk g) (hC : HasM μ g) {s : Nat} (hs : s < pN g) (hM : StM μ g s) : sp_X9_spell (nI s) μ (fun μ' => Fr [56, 57, 58, 59, 60, 61, 62] [54, 55] [] false μ μ' ∧ StM μ' g (s + 1)) := by
  have hn := hg.1
  obtain ⟨hc, hx, hy, hw, hz, -⟩ := hg.2 s hs
  have is : vp_in (nI s) 200 := inI (by omega) (by decide)
  have cs : (nI s).toNatClampNeg = s := cI (by omega)
  obtain ⟨A, D, Z⟩ := hM
  intro K68 K179 h68 h179
  -- the search for an earlier one
  have key2 : ∀ (x2 : Int32) m μ1, m ≤ s → Fr [56, 57, 58, 59, 60, 61, 62] [54, 55] [] false μ μ1 → (∀ t, t ≤ s → AatM μ1 g t) → (∀ t, t < s → μ1.1 58 t = μ.1 58 t) → (∀ t, t ≤ s → μ1.1 59 t = -1 ∧ μ1.1 60 t = -1 ∧ μ1.1 61 t = -1 ∧ μ1.1 62 t = 0) →
      ((μ1.1 58 s = -1 ∧ ∀ j, m ≤ j → j < s → ¬ (μ.1 58 j = -1 ∧ gNr g s j)) ∨ ∃ k, m ≤ k ∧ k < s ∧ μ1.1 58 s = nI k ∧ μ.1 58 k = -1 ∧ gNr g s k ∧ ∀ j, m ≤ j → j < k → ¬ (μ.1 58 j = -1 ∧ gNr g s j)) → K179 (nI s) x2 (nI m - 1) μ1 := by
    intro x2 m
    induction m with
    | zero =>
      intro μ1 hm hf hA hd hz1 hr
      apply h179
      unfold t_X9_spell_179
      refine ⟨fun _ => ⟨hf, fun t ht => hA t (by omega), fun t ht => ?_, fun t ht => hz1 t (by omega)⟩, fun h => absurd (by decide) h⟩
      by_cases e : t = s
      · subst e
        rcases hr with ⟨r1, r2⟩ | ⟨k, k1, k2, k3, k4, k5, k6⟩
        · exact Or.inr ⟨r1, fun j hj => by rw [hd j hj]; exact r2 j (by omega) hj⟩
        · exact Or.inl ⟨k, k2, k3, by rw [hd k k2]; exact k4, k5, fun j hj => by rw [hd j (by omega)]; exact k6 j (by omega) hj⟩
      · rw [hd t (by omega)]
        exact (D t (by omega)).cong (fun j hj => hd j (by omega))
    | succ m ih =>
      intro μ1 hm hf hA hd hz1 hr
      have hC1 : HasM μ1 g := hC.fr hf (by decide) (by decide) (by decide)
      have cm : (nI m).toNatClampNeg = m := cI (by omega)
      have im : vp_in (nI m) 200 := inI (by omega) (by decide)
      obtain ⟨us, vs, ls, os⟩ := hA s (Nat.le_refl s)
      obtain ⟨um, vm, lm, om⟩ := hA m (by omega)
      obtain ⟨-, -, -, -, -, ts, -⟩ := hC1.2.1 s hs
      obtain ⟨-, -, -, wm, zm, tm, -⟩ := hC1.2.1 m (by omega)
      obtain ⟨-, -, -, bw, bz, -⟩ := hg.2 m (by omega)
      have b1 := gU_bd hg hs
      have b2 := gU_bd hg (show m < pN g by omega)
      have b3 := gV_bd hg hs
      have b4 := gV_bd hg (show m < pN g by omega)
      have skip : ¬ (μ.1 58 m = -1 ∧ gNr g s m) → t_X9_spell_291 K68 K179 (fun μ' => Fr [56, 57, 58, 59, 60, 61, 62] [54, 55] [] false μ μ' ∧ StM μ' g (s + 1)) (nI s) x2 (nI m) μ1 := fun hz => by
        unfold t_X9_spell_291 t_X9_spell_292
        refine ⟨fun _ => ⟨is, is, fun μ3 e3 => ?_⟩, fun z => absurd rfl z⟩
        rw [nIm]
        have e58 : μ3.1 58 = μ1.1 58 := by
          rw [e3, mI_1, upE, cs]
          funext j
          by_cases e : j = s
          · rw [e, udE]
          · rw [udN _ _ e]
        have f3 : Fr [58] [] [] false μ1 μ3 := by rw [e3]; exact Fr.wI _ _ _ (by decide)
        refine ih μ3 (by omega) (hf.tr (f3.mono (by decide) (by decide) (by decide) (fun h => h))) ?_ (by rw [e58]; exact hd) ?_ ?_
        · intro t ht
          unfold AatM
          rw [f3.1 56 (by decide), f3.1 57 (by decide), f3.2.1 54 (by decide), f3.2.1 55 (by decide)]
          exact hA t ht
        · rw [f3.1 59 (by decide), f3.1 60 (by decide), f3.1 61 (by decide), f3.1 62 (by decide)]
          exact hz1
        · rw [e58]
          rcases hr with ⟨r1, r2⟩ | ⟨k, k1, k2, k3, k4, k5, k6⟩
          · refine Or.inl ⟨r1, fun j h1 h2 => ?_⟩
            by_cases e : j = m
            · rw [e]; exact hz
            · exact r2 j (by omega) h2
          · refine Or.inr ⟨k, by omega, k2, k3, k4, k5, fun j h1 h2 => ?_⟩
            by_cases e : j = m
            · rw [e]; exact hz
            · exact k6 j (by omega) h2
      have take : μ.1 58 m = -1 → gNr g s m → t_X9_spell_292 K68 K179 (fun μ' => Fr [56, 57, 58, 59, 60, 61, 62] [54, 55] [] false μ μ' ∧ StM μ' g (s + 1)) (nI s) x2 (nI m) 1 μ1 := fun q1 q2 => by
        unfold t_X9_spell_292
        refine ⟨fun z => absurd z (by decide), fun _ => ⟨is, fun μ3 e3 => ?_⟩⟩
        rw [nIm]
        have e58 : μ3.1 58 = upd (μ1.1 58) s (nI m) := by rw [e3, mI_1, upE, cs]
        have f3 : Fr [58] [] [] false μ1 μ3 := by rw [e3]; exact Fr.wI _ _ _ (by decide)
        refine ih μ3 (by omega) (hf.tr (f3.mono (by decide) (by decide) (by decide) (fun h => h))) ?_ ?_ ?_ ?_
        · intro t ht
          unfold AatM
          rw [f3.1 56 (by decide), f3.1 57 (by decide), f3.2.1 54 (by decide), f3.2.1 55 (by decide)]
          exact hA t ht
        · intro t ht
          rw [e58, udN _ _ (by omega)]
          exact hd t ht
        · rw [f3.1 59 (by decide), f3.1 60 (by decide), f3.1 61 (by decide), f3.1 62 (by decide)]
          exact hz1
        · exact Or.inr ⟨m, Nat.le_refl m, by omega, by rw [e58, udE], q1, q2, fun j h1 h2 => absurd h2 (by omega)⟩
      apply h179
      unfold t_X9_spell_179
      rw [nIp, cs, cm, hd m (by omega), ls, os, lm, om, ts, tm, b01_iff]
      refine ⟨fun h => absurd h (nI_pos (by omega)), fun _ => ⟨im, fun h1 => skip (fun z => h1 z.1), fun h1 => ⟨im, is, fun h2 => skip (fun z => h2 z.2.2.2.1.symm), fun h2 => ⟨im, is, fun h3 => skip (fun z => h3 z.2.1.symm), fun h3 => ⟨im, is, fun h4 => skip (fun z => h4 z.2.2.1.symm), fun h4 => ⟨is, im, im, _, hm_isNear (by rw [us]; exact b1) (by rw [um]; exact b2) (by rw [wm]; omega), fun r5 μ5 h5 => ?_⟩⟩⟩⟩⟩⟩
      obtain ⟨rfl, h5⟩ := h5
      rw [us, um, wm] at h5
      have zm' : ((μ5.1 49 m).toInt64).toInt = pZ g m := (tL64 _).trans zm
      refine ⟨fun h6 => skip (fun z => ?_), fun h6 => ⟨is, im, im, _, hm_isNear (by rw [vs]; exact b3) (by rw [vm]; exact b4) (by rw [zm']; omega), fun r7 μ7 h7 => ?_⟩⟩
      · rcases h5 with ⟨a, -⟩ | ⟨-, a⟩
        · rw [h6] at a; exact absurd a (by decide)
        · exact a z.2.2.2.2.1
      obtain ⟨rfl, h7⟩ := h7
      rw [vs, vm, zm'] at h7
      have n5 : 4 * (gU g s - gU g m) ≤ pW g m ∧ 4 * (gU g m - gU g s) ≤ pW g m := by
        rcases h5 with ⟨-, a⟩ | ⟨a, -⟩
        · exact a
        · exact absurd a h6
      refine ⟨fun h8 => skip (fun z => ?_), fun h8 => take h1 ⟨h3.symm, h4.symm, h2.symm, n5, ?_⟩⟩
      · rcases h7 with ⟨a, -⟩ | ⟨-, a⟩
        · rw [h8] at a; exact absurd a (by decide)
        · exact a z.2.2.2.2.2
      · rcases h7 with ⟨-, a⟩ | ⟨a, -⟩
        · exact a
        · exact absurd a h8
  -- the letters are told
  have told : ∀ j μ1, kdF (pM g) (pC g s) = j → j ≤ 4 → Fr [] [54, 55] [] false μ μ1 → (μ1.2.1 54 s).toInt = gU g s → (μ1.2.1 55 s).toInt = gV g s → (∀ t, t ≠ s → μ1.2.1 54 t = μ.2.1 54 t ∧ μ1.2.1 55 t = μ.2.1 55 t) → t_X9_spell_93 K68 K179 (fun μ' => Fr [56, 57, 58, 59, 60, 61, 62] [54, 55] [] false μ μ' ∧ StM μ' g (s + 1)) (nI s) (nI (256 * j + pC g s)) μ1 := by
    intro j μ1 hj hj4 hf hu hv ho
    have hC1 : HasM μ1 g := hC.fr hf (by decide) (by decide) (by decide)
    have ge : ((1024 : Int32) ≤ nI (256 * j + pC g s)) ↔ ¬ j < 4 := by
      rw [lit32, nI_leI (by decide) (by omega)]
      show 1024 ≤ 256 * j + pC g s ↔ _
      omega
    have step : ∀ μ4 y2, y2 = gL2 g s → μ4 = mwI μ1 56 (nI s) (gL1 g s) → t_X9_spell_139 K68 K179 (fun μ' => Fr [56, 57, 58, 59, 60, 61, 62] [54, 55] [] false μ μ' ∧ StM μ' g (s + 1)) (nI s) (nI (256 * j + pC g s)) (nI s) y2 μ4 := by
      intro μ4 y2 hy2 e4
      unfold t_X9_spell_139
      refine ⟨is, fun μ5 e5 => ⟨is, fun μ6 e6 => ⟨is, fun μ7 e7 => ⟨is, fun μ8 e8 => ⟨is, fun μ9 e9 => ⟨is, fun μ10 e10 => ?_⟩⟩⟩⟩⟩⟩
      refine key2 _ s μ10 (Nat.le_refl s) ?_ (fun t ht => ?_) (fun t ht => ?_) (fun t ht => ?_) (Or.inl ⟨?_, fun j h1 h2 => absurd h2 (by omega)⟩)
      · refine (hf.mono (by decide) (by decide) (by decide) (fun h => h)).tr ?_
        rw [e10, e9, e8, e7, e6, e5, e4]
        exact ((((((Fr.wI _ _ _ (by decide)).tr (Fr.wI _ _ _ (by decide))).tr (Fr.wI _ _ _ (by decide))).tr (Fr.wI _ _ _ (by decide))).tr (Fr.wI _ _ _ (by decide))).tr (Fr.wI _ _ _ (by decide))).tr (Fr.wI _ _ _ (by decide))
      · have l54 : μ10.2.1 = μ1.2.1 := by rw [e10, mI_2, e9, mI_2, e8, mI_2, e7, mI_2, e6, mI_2, e5, mI_2, e4, mI_2]
        have l56 : μ10.1 56 = upd (μ1.1 56) s (gL1 g s) := by rw [e10, mI_1, upN _ _ (by decide), e9, mI_1, upN _ _ (by decide), e8, mI_1, upN _ _ (by decide), e7, mI_1, upN _ _ (by decide), e6, mI_1, upN _ _ (by decide), e5, mI_1, upN _ _ (by decide), e4, mI_1, upE, cs]
        have l57 : μ10.1 57 = upd (μ1.1 57) s (gL2 g s) := by rw [e10, mI_1, upN _ _ (by decide), e9, mI_1, upN _ _ (by decide), e8, mI_1, upN _ _ (by decide), e7, mI_1, upN _ _ (by decide), e6, mI_1, upN _ _ (by decide), e5, mI_1, upE, cs, hy2, e4, mI_1, upN _ _ (by decide)]
        unfold AatM
        rw [l54, l56, l57]
        by_cases e : t = s
        · rw [e, udE, udE]; exact ⟨hu, hv, rfl, rfl⟩
        · rw [udN _ _ e, udN _ _ e, (ho t e).1, (ho t e).2, hf.1 56 (by decide), hf.1 57 (by decide)]
          exact A t (by omega)
      · rw [e10, mI_1, upE, cs, udN _ _ (by omega), e9, mI_1, upN _ _ (by decide), e8, mI_1, upN _ _ (by decide), e7, mI_1, upN _ _ (by decide), e6, mI_1, upN _ _ (by decide), e5, mI_1, upN _ _ (by decide), e4, mI_1, upN _ _ (by decide), hf.1 58 (by decide)]
      · have l59 : μ10.1 59 = upd (μ1.1 59) s (-1) := by rw [e10, mI_1, upN _ _ (by decide), e9, mI_1, upN _ _ (by decide), e8, mI_1, upN _ _ (by decide), e7, mI_1, upN _ _ (by decide), e6, mI_1, upE, cs, e5, mI_1, upN _ _ (by decide), e4, mI_1, upN _ _ (by decide)]
        have l60 : μ10.1 60 = upd (μ1.1 60) s (-1) := by rw [e10, mI_1, upN _ _ (by decide), e9, mI_1, upN _ _ (by decide), e8, mI_1, upN _ _ (by decide), e7, mI_1, upE, cs, e6, mI_1, upN _ _ (by decide), e5, mI_1, upN _ _ (by decide), e4, mI_1, upN _ _ (by decide)]
        have l61 : μ10.1 61 = upd (μ1.1 61) s (-1) := by rw [e10, mI_1, upN _ _ (by decide), e9, mI_1, upN _ _ (by decide), e8, mI_1, upE, cs, e7, mI_1, upN _ _ (by decide), e6, mI_1, upN _ _ (by decide), e5, mI_1, upN _ _ (by decide), e4, mI_1, upN _ _ (by decide)]
        have l62 : μ10.1 62 = upd (μ1.1 62) s 0 := by rw [e10, mI_1, upN _ _ (by decide), e9, mI_1, upE, cs, mnb0, e8, mI_1, upN _ _ (by decide), e7, mI_1, upN _ _ (by decide), e6, mI_1, upN _ _ (by decide), e5, mI_1, upN _ _ (by decide), e4, mI_1, upN _ _ (by decide)]
        rw [l59, l60, l61, l62]
        by_cases e : t = s
        · rw [e, udE, udE, udE, udE]; exact ⟨rfl, rfl, rfl, rfl⟩
        · rw [udN _ _ e, udN _ _ e, udN _ _ e, udN _ _ e, hf.1 59 (by decide), hf.1 60 (by decide), hf.1 61 (by decide), hf.1 62 (by decide)]
          exact Z t (by omega)
      · rw [e10, mI_1, upE, cs, udE]
    unfold t_X9_spell_93
    rw [cI (by omega), hC1.2.2.1]
    refine ⟨fun h => ?_, fun h => ⟨inI (by have := Classical.not_not.mp (fun z => h (ge.mpr z)); omega) (by decide), ?_⟩⟩
    · have hj' := ge.mp h
      unfold t_X9_spell_116
      refine ⟨is, fun μ4 e4 => ⟨fun _ => step μ4 0 ?_ ?_, fun z => absurd h z⟩⟩
      · unfold gL2; rw [hj, if_neg hj']
      · unfold gL1; rw [hj, if_neg hj']; exact e4
    · have hj' : j < 4 := Classical.not_not.mp (fun z => h (ge.mpr z))
      unfold t_X9_spell_116
      refine ⟨is, fun μ4 e4 => ⟨fun z => absurd z h, fun _ => ⟨inI (by omega) (by decide), step μ4 _ ?_ ?_⟩⟩⟩
      · rw [e4, mI_1, upN _ _ (by decide), cI (by omega), hC1.2.2.2]
        unfold gL2; rw [hj, if_pos hj']
      · unfold gL1; rw [hj, if_pos hj']; exact e4
  -- the search for the letter
  have key1 : ∀ q j μ1, q + j = 4 → (∀ i, i < j → pM g (256 * i + pC g s) = 0) → Fr [] [54, 55] [] false μ μ1 → (μ1.2.1 54 s).toInt = gU g s → (μ1.2.1 55 s).toInt = gV g s → (∀ t, t ≠ s → μ1.2.1 54 t = μ.2.1 54 t ∧ μ1.2.1 55 t = μ.2.1 55 t) → K68 (nI s) (nI (256 * j + pC g s)) μ1 := by
    intro q
    induction q with
    | zero =>
      intro j μ1 hj h0 hf hu hv ho
      have e : j = 4 := by omega
      subst e
      apply h68
      unfold t_X9_spell_68
      refine ⟨fun _ => told 4 μ1 (kdF_of (by omega) h0 (fun z => absurd z (by omega))) (by omega) hf hu hv ho, fun h => absurd ?_ h⟩
      rw [lit32, nI_leI (by decide) (by omega)]
      show 1024 ≤ 256 * 4 + pC g s
      omega
    | succ q ih =>
      intro j μ1 hj h0 hf hu hv ho
      have hC1 : HasM μ1 g := hC.fr hf (by decide) (by decide) (by decide)
      apply h68
      unfold t_X9_spell_68
      rw [cI (by omega), hC1.2.2.1]
      refine ⟨fun h => ?_, fun _ => ⟨inI (by omega) (by decide), fun h => told j μ1 (kdF_of (by omega) h0 (fun _ => h)) (by omega) hf hu hv ho, fun h => ?_⟩⟩
      · exfalso
        rw [lit32, nI_leI (by decide) (by omega)] at h
        have h : 1024 ≤ 256 * j + pC g s := h
        omega
      · have e : nI (256 * j + pC g s) + (256 : Int32) = nI (256 * (j + 1) + pC g s) := by
          rw [lit32 256, nI_add']
          congr 1
          omega
        rw [e]
        refine ih (j + 1) μ1 (by omega) (fun i hi => ?_) hf hu hv ho
        by_cases e : i = j
        · rw [e]; exact h
        · exact h0 i (by omega)
  have kz : ∀ μ1, Fr [] [54, 55] [] false μ μ1 → (μ1.2.1 54 s).toInt = gU g s → (μ1.2.1 55 s).toInt = gV g s → (∀ t, t ≠ s → μ1.2.1 54 t = μ.2.1 54 t ∧ μ1.2.1 55 t = μ.2.1 55 t) → K68 (nI s) (nI (pC g s)) μ1 := fun μ1 a b c d => by
    have := key1 4 0 μ1 (by omega) (fun i hi => absurd hi (by omega)) a b c d
    rw [Nat.mul_zero, Nat.zero_add] at this
    exact this
  obtain ⟨q1, q2, q3, -, -, q6, -⟩ := hC.2.1 s hs
  have two : ∀ (y2 y3 : Int64) μ2 μ6, y2.toInt = gU g s → y3.toInt = gV g s → μ2 = mwL μ 54 (nI s) y2 → μ6 = mwL μ2 55 (nI s) y3 → K68 (nI s) (μ6.1 45 s) μ6 := by
    intro y2 y3 μ2 μ6 hu hv e2 e6
    have e45 : μ6.1 45 s = nI (pC g s) := by rw [e6, mL_1, e2, mL_1]; exact q1
    rw [e45]
    refine kz μ6 ?_ ?_ ?_ (fun t ht => ?_)
    · rw [e6, e2]; exact (Fr.wL _ _ _ (by decide)).tr (Fr.wL _ _ _ (by decide))
    · rw [e6, mL_21, upN _ _ (by decide), e2, mL_21, upE, cs, ulE]; exact hu
    · rw [e6, mL_21, upE, cs, ulE]; exact hv
    · rw [e6, mL_21, upN _ _ (by decide), upE, cs, ulN _ _ ht, e2, mL_21, upE, cs, ulN _ _ ht, upN _ _ (by decide)]
      exact ⟨rfl, rfl⟩
  unfold t_X9_spell_0
  rw [cs, q6, b01_0]
  refine ⟨is, fun h => ⟨is, ?_⟩, fun h => ⟨is, ?_⟩⟩
  · unfold t_X9_spell_29
    refine ⟨is, fun μ2 e2 => ⟨is, ?_⟩⟩
    have e50 : μ2.1 50 s = b01 (pT g s) := by rw [e2, mL_1]; exact q6
    rw [cs, e50, b01_0]
    refine ⟨fun _ => ⟨is, is, fun μ6 e6 => ⟨is, two _ _ μ2 μ6 ?_ ?_ e2 e6⟩⟩, fun z => absurd h z⟩
    · unfold gU; rw [if_neg (by rw [h]; decide)]; exact q2
    · rw [e2, mL_21, upN _ _ (by decide)]; unfold gV; rw [if_neg (by rw [h]; decide)]; exact q3
  · unfold t_X9_spell_29
    refine ⟨is, fun μ2 e2 => ⟨is, ?_⟩⟩
    have e50 : μ2.1 50 s = b01 (pT g s) := by rw [e2, mL_1]; exact q6
    have ht : pT g s = true := by
      cases c : pT g s with
      | true => rfl
      | false => exact absurd c h
    rw [cs, e50, b01_0]
    refine ⟨fun z => absurd z h, fun _ => ⟨is, is, fun μ6 e6 => ⟨is, two _ _ μ2 μ6 ?_ ?_ e2 e6⟩⟩⟩
    · unfold gU; rw [if_pos ht]; exact q3
    · rw [e2, mL_21, upN _ _ (by decide)]; unfold gV; rw [if_pos ht, fb_negL (by rw [q2]; omega), q2]
