/-! The model: all lines. -/
set_option maxHeartbeats 4000000 in
theorem hm_findLines {g : PgT} {μ : MemT} (hA : MtA μ g) (hS : StM μ g (pN g)) : sp_X9_findLines μ (fun μ' => Fr [59, 60, 61, 62, 63, 64, 69, 70] [65, 66, 67, 68] [12] false μ μ' ∧ ∃ c la r P, (LnSt g (Lv g (μ.1 58)) c la ∧ ∀ s, Lv g (μ.1 58) s → la s < c) ∧ Enm (Lv g (μ.1 58)) (gBf g la) r P ∧ (∀ s, ¬ Lv g (μ.1 58) s → la s = 0) ∧ (∀ p, P ≤ p → r p = 0) ∧ SgM μ' g la r P P ∧ ∀ s, s < pN g → μ'.1 59 s = (if μ.1 58 s = -1 then nI (la s) else -1)) := by
  have hn := hA.1.1
  obtain ⟨c, la', H', F'⟩ := lnEx hA.1 (μ.1 58)
  have H := H'.nrm
  have F : ∀ s, Lv g (μ.1 58) s → nrL g (μ.1 58) la' s < c := fun s hs => by rw [nrL_at hs]; exact F' s hs
  have zl : ∀ s, ¬ Lv g (μ.1 58) s → nrL g (μ.1 58) la' s = 0 := fun s hs => by unfold nrL; exact if_neg hs
  generalize nrL g (μ.1 58) la' = la at H F zl
  obtain ⟨r', P, En'⟩ := Enm.ex (S := Lv g (μ.1 58)) (bf := gBf g la) gBf.tr gBf.tot (pN g) (fun s hs => hs.1)
  have En : Enm (Lv g (μ.1 58)) (gBf g la) (nrR P r') P := En'.cg (fun s => Iff.rfl) (fun _ _ _ _ q => q) (fun p hp => nrR_at hp)
  have zr : ∀ p, P ≤ p → nrR P r' p = 0 := fun p hp => by unfold nrR; rw [if_neg (by omega)]
  generalize nrR P r' = r at En zr
  have hcN := H.cle (fun s hs => hs.1)
  have rn : ∀ q, q < P → r q < pN g := fun q hq => (En.1 q hq).1
  intro K9 K18 K91 h9 h18 h91
  have main : ∀ k j μ1 i', k + j = c → Fr [59, 60, 61, 62, 63, 64, 69, 70] [65, 66, 67, 68] [12] false μ μ1 → LnAr (pN g) (Lv g (μ.1 58)) j la (μ1.1 59) → SgM μ1 g la r P i' → i' ≤ P → (∀ q, q < i' → la (r q) < j) → (∀ q, i' ≤ q → q < P → j ≤ la (r q)) → K18 (nI j) (-1) 0 μ1 := by
    intro k
    induction k with
    | zero =>
      intro j μ1 i' hk hf hL hSg hi1 hi2 hi3
      have ej : j = c := by omega
      subst ej
      have hA1 : MtA μ1 g := hA.fr hf (by decide) (by decide) (by decide)
      have nc : ∀ s, s < pN g → ¬ (μ.1 58 s = -1 ∧ μ1.1 59 s = -1) := fun s hs z => (hL.left (by omega) hs).mp z.2 ⟨⟨hs, z.1⟩, F s ⟨hs, z.1⟩⟩
      have iP : i' = P := by
        rcases Nat.lt_or_ge i' P with q | q
        · have a := hi3 i' (Nat.le_refl i') q
          have b := F (r i') (En.1 i' q)
          omega
        · omega
      have key : ∀ q i, q + i = pN g → K18 (nI j) (-1) (nI i) μ1 := by
        intro q
        induction q with
        | zero =>
          intro i hi
          have e : i = pN g := by omega
          subst e
          apply h18
          unfold t_X9_findLines_18
          rw [hA1.2.1.1]
          refine ⟨fun _ => ⟨fun _ => ?_, fun z => absurd rfl z⟩, fun h => absurd (by rw [nI_leI (by omega) (by omega)]; omega) h⟩
          apply h9
          unfold t_X9_findLines_9
          refine ⟨fun _ => ⟨hf, j, la, r, P, ⟨H, F⟩, En, zl, zr, by rw [iP] at hSg; exact hSg, fun s hs => ?_⟩, fun z => absurd rfl z⟩
          rcases hL s hs with ⟨a1, a2, a3⟩ | ⟨a1, a2⟩
          · rw [if_pos a1.2]; exact a3
          · rw [if_neg (fun z => a1 ⟨⟨hs, z⟩, F s ⟨hs, z⟩⟩)]; exact a2
        | succ q ih =>
          intro i hi
          have hin : i < pN g := by omega
          have ii : vp_in (nI i) 200 := inI (by omega) (by decide)
          have nx : t_X9_findLines_50 K9 K18 K91 (fun μ' => Fr [59, 60, 61, 62, 63, 64, 69, 70] [65, 66, 67, 68] [12] false μ μ' ∧ ∃ c la r P, (LnSt g (Lv g (μ.1 58)) c la ∧ ∀ s, Lv g (μ.1 58) s → la s < c) ∧ Enm (Lv g (μ.1 58)) (gBf g la) r P ∧ (∀ s, ¬ Lv g (μ.1 58) s → la s = 0) ∧ (∀ p, P ≤ p → r p = 0) ∧ SgM μ' g la r P P ∧ ∀ s, s < pN g → μ'.1 59 s = (if μ.1 58 s = -1 then nI (la s) else -1)) (nI j) (-1) (nI i) μ1 := by
            unfold t_X9_findLines_50 t_X9_findLines_51
            refine ⟨fun _ => ?_, fun z => absurd rfl z⟩
            rw [nI_1]
            exact ih (i + 1) (by omega)
          apply h18
          unfold t_X9_findLines_18
          rw [hA1.2.1.1, cI (by omega : i < 2147483648), hf.1 58 (by decide)]
          refine ⟨fun h => ?_, fun _ => ⟨ii, fun _ => nx, fun h1 => ⟨ii, fun _ => nx, fun h2 => absurd ⟨h1, h2⟩ (nc i hin)⟩⟩⟩
          exfalso
          rw [nI_leI (by omega) (by omega)] at h
          omega
      exact key (pN g) 0 (by omega)
    | succ k ihk =>
      intro j μ1 i' hk hf hL hSg hi1 hi2 hi3
      have hA1 : MtA μ1 g := hA.fr hf (by decide) (by decide) (by decide)
      have cnd : ∀ s, s < pN g → ((μ.1 58 s = -1 ∧ μ1.1 59 s = -1) ↔ (Lv g (μ.1 58) s ∧ j ≤ la s)) := fun s hs => by
        rw [hL.left (by omega) hs]
        refine ⟨fun z => ⟨⟨hs, z.1⟩, ?_⟩, fun z => ⟨z.1.2, fun y => by omega⟩⟩
        rcases Nat.lt_or_ge (la s) j with q | q
        · exact absurd ⟨⟨hs, z.1⟩, q⟩ z.2
        · exact q
      obtain ⟨h0, hl0, ha0, hb0, hc0⟩ := H.2 j (by omega)
      -- lines are told
      have key91 : ∀ q i μ2, q + i = pN g → Fr [59] [] [] false μ1 μ2 → (∀ s, s < pN g → i ≤ s → μ2.1 59 s = μ1.1 59 s) → (∀ s, s < i → (Lv g (μ.1 58) s ∧ la s < j + 1 ∧ μ2.1 59 s = nI (la s)) ∨ (¬ (Lv g (μ.1 58) s ∧ la s < j + 1) ∧ μ2.1 59 s = -1)) → K91 (nI j) (nI h0) (nI i) μ2 := by
        intro q
        induction q with
        | zero =>
          intro i μ2 hi f2 ho hd
          have e : i = pN g := by omega
          subst e
          have hf2 : Fr [59, 60, 61, 62, 63, 64, 69, 70] [65, 66, 67, 68] [12] false μ μ2 := hf.tr (f2.mono (by decide) (by decide) (by decide) (fun h => h))
          have hA2 : MtA μ2 g := hA.fr hf2 (by decide) (by decide) (by decide)
          have hSg2 : SgM μ2 g la r P i' := by
            obtain ⟨a1, a2, a3, a4⟩ := hSg
            refine ⟨by rw [f2.2.2.1 12 (by decide)]; exact a1, fun q hq => ?_, by rw [f2.1 60 (by decide), f2.1 61 (by decide), f2.1 62 (by decide)]; exact a3, by rw [f2.1 60 (by decide), f2.1 61 (by decide), f2.1 62 (by decide)]; exact a4⟩
            rw [f2.1 69 (by decide), f2.1 70 (by decide), f2.2.1 65 (by decide), f2.2.1 66 (by decide), f2.2.1 67 (by decide), f2.2.1 68 (by decide)]
            exact a2 q hq
          apply h91
          unfold t_X9_findLines_91
          rw [hA2.2.1.1]
          refine ⟨fun _ => ⟨_, hm_cutLine (j := j) hA2 En (fun s hs => hd s hs) (by omega) hSg2 hi1 hi2 hi3, fun μ3 h3 => ?_⟩, fun h => absurd (by rw [nI_leI (by omega) (by omega)]; omega) h⟩
          obtain ⟨f3, i3, c1, c2, c3, c4⟩ := h3
          apply h9
          unfold t_X9_findLines_9
          refine ⟨fun z => absurd z (nI_ne_m1 (by have := hl0.1; omega)), fun _ => ?_⟩
          rw [nI_1]
          refine ihk (j + 1) μ3 i3 (by omega) (hf2.tr (f3.mono (by decide) (by decide) (by decide) (fun h => h))) ?_ c2 c1 c3 c4
          rw [f3.1 59 (by decide)]
          exact fun s hs => hd s hs
        | succ q ih =>
          intro i μ2 hi f2 ho hd
          have hin : i < pN g := by omega
          have h0n := hl0.1
          have ii : vp_in (nI i) 200 := inI (by omega) (by decide)
          have i0 : vp_in (nI h0) 200 := inI (by omega) (by decide)
          have ci : (nI i).toNatClampNeg = i := cI (by omega)
          have c0 : (nI h0).toNatClampNeg = h0 := cI (by omega)
          have hf2 : Fr [59, 60, 61, 62, 63, 64, 69, 70] [65, 66, 67, 68] [12] false μ μ2 := hf.tr (f2.mono (by decide) (by decide) (by decide) (fun h => h))
          have hA2 : MtA μ2 g := hA.fr hf2 (by decide) (by decide) (by decide)
          have ti := (hA2.2.1.2.1 i hin).2.2.2.2.2.1
          have t0 := (hA2.2.1.2.1 h0 h0n).2.2.2.2.2.1
          have z0 := (hA2.2.1.2.1 h0 h0n).2.2.2.2.1
          have vi := (hA2.2.2 i hin).2.1
          have v0 := (hA2.2.2 h0 h0n).2.1
          have bi := gV_bd hA.1 hin
          have b0 := gV_bd hA.1 h0n
          have t2 : (2 : Int64).toInt = 2 := by decide
          have e2 : ((2 : Int64) * (μ2.2.1 55 h0 - μ2.2.1 55 i)).toInt = 2 * (gV g h0 - gV g i) := by
            have s1 : (μ2.2.1 55 h0 - μ2.2.1 55 i).toInt = gV g h0 - gV g i := by rw [fb_subL (by rw [v0, vi]; omega) (by rw [v0, vi]; omega), v0, vi]
            rw [fb_mulL (by rw [t2, s1]; omega) (by rw [t2, s1]; omega), t2, s1]
          have no : ¬ ((μ.1 58 i = -1 ∧ μ1.1 59 i = -1) ∧ InL g h0 i) → t_X9_findLines_166 K9 K18 K91 (fun μ' => Fr [59, 60, 61, 62, 63, 64, 69, 70] [65, 66, 67, 68] [12] false μ μ' ∧ ∃ c la r P, (LnSt g (Lv g (μ.1 58)) c la ∧ ∀ s, Lv g (μ.1 58) s → la s < c) ∧ Enm (Lv g (μ.1 58)) (gBf g la) r P ∧ (∀ s, ¬ Lv g (μ.1 58) s → la s = 0) ∧ (∀ p, P ≤ p → r p = 0) ∧ SgM μ' g la r P P ∧ ∀ s, s < pN g → μ'.1 59 s = (if μ.1 58 s = -1 then nI (la s) else -1)) (nI j) (nI h0) (nI i) μ2 := fun hz => by
            unfold t_X9_findLines_166 t_X9_findLines_167
            refine ⟨fun _ => ⟨ii, ii, fun μ3 e3 => ?_⟩, fun z => absurd rfl z⟩
            have k59 : μ3.1 59 = μ2.1 59 := by
              rw [e3, mI_1, upE, ci]
              funext t
              by_cases e : t = i
              · rw [e, udE]
              · rw [udN _ _ e]
            rw [nI_1]
            refine ih (i + 1) μ3 (by omega) (f2.tr (by rw [e3]; exact Fr.wI _ _ _ (by decide))) (fun s hs h4 => by rw [k59]; exact ho s hs (by omega)) (fun s hs => ?_)
            rw [k59]
            by_cases e : s = i
            · rw [e, ho i hin (Nat.le_refl i)]
              rcases hL i hin with ⟨a1, a2, a3⟩ | ⟨a1, a2⟩
              · exact Or.inl ⟨a1, by omega, a3⟩
              · refine Or.inr ⟨fun z => ?_, a2⟩
                have q1 : j ≤ la i := by
                  rcases Nat.lt_or_ge (la i) j with q | q
                  · exact absurd ⟨z.1, q⟩ a1
                  · exact q
                exact hz ⟨(cnd i hin).mpr ⟨z.1, q1⟩, (hc0 i z.1 q1).mp (by omega)⟩
            · exact hd s (by omega)
          have yes : (μ.1 58 i = -1 ∧ μ1.1 59 i = -1) → InL g h0 i → t_X9_findLines_167 K9 K18 K91 (fun μ' => Fr [59, 60, 61, 62, 63, 64, 69, 70] [65, 66, 67, 68] [12] false μ μ' ∧ ∃ c la r P, (LnSt g (Lv g (μ.1 58)) c la ∧ ∀ s, Lv g (μ.1 58) s → la s < c) ∧ Enm (Lv g (μ.1 58)) (gBf g la) r P ∧ (∀ s, ¬ Lv g (μ.1 58) s → la s = 0) ∧ (∀ p, P ≤ p → r p = 0) ∧ SgM μ' g la r P P ∧ ∀ s, s < pN g → μ'.1 59 s = (if μ.1 58 s = -1 then nI (la s) else -1)) (nI j) (nI h0) (nI i) 1 μ2 := fun hz1 hz2 => by
            unfold t_X9_findLines_167
            refine ⟨fun z => absurd z (by decide), fun _ => ⟨ii, fun μ3 e3 => ?_⟩⟩
            have k59 : μ3.1 59 = upd (μ2.1 59) i (nI j) := by rw [e3, mI_1, upE, ci]
            obtain ⟨w1, w2⟩ := (cnd i hin).mp hz1
            have w3 := (hc0 i w1 w2).mpr hz2
            rw [nI_1]
            refine ih (i + 1) μ3 (by omega) (f2.tr (by rw [e3]; exact Fr.wI _ _ _ (by decide))) (fun s hs h4 => by rw [k59, udN _ _ (by omega)]; exact ho s hs (by omega)) (fun s hs => ?_)
            rw [k59]
            by_cases e : s = i
            · rw [e, udE]
              exact Or.inl ⟨w1, by omega, by rw [w3]⟩
            · rw [udN _ _ e]
              exact hd s (by omega)
          apply h91
          unfold t_X9_findLines_91
          rw [hA2.2.1.1, ci, c0, hf2.1 58 (by decide), ho i hin (Nat.le_refl i), ti, t0, b01_iff, lt64, e2, tL64, z0]
          refine ⟨fun h => ?_, fun _ => ⟨ii, fun h1 => no (fun z => h1 z.1.1), fun h1 => ⟨ii, fun h2 => no (fun z => h2 z.1.2), fun h2 => ⟨ii, i0, fun h3 => no (fun z => h3 z.2.1), fun h3 => ⟨i0, ii, i0, fun h4 => no (fun z => by have := z.2.2; omega), fun h4 => yes ⟨h1, h2⟩ ⟨h3, by omega⟩⟩⟩⟩⟩⟩
          exfalso
          rw [nI_leI (by omega) (by omega)] at h
          omega
      -- the head
      have key18 : ∀ q i (x : Int32), q + i = pN g → ((x = -1 ∧ ∀ s, s < i → ¬ (μ.1 58 s = -1 ∧ μ1.1 59 s = -1)) ∨ ∃ h, h < i ∧ x = nI h ∧ (μ.1 58 h = -1 ∧ μ1.1 59 h = -1) ∧ ∀ s, s < i → (μ.1 58 s = -1 ∧ μ1.1 59 s = -1) → s = h ∨ gBet g h s) → K18 (nI j) x (nI i) μ1 := by
        intro q
        induction q with
        | zero =>
          intro i x hi hx
          have e : i = pN g := by omega
          subst e
          have c0 : μ.1 58 h0 = -1 ∧ μ1.1 59 h0 = -1 := (cnd h0 hl0.1).mpr ⟨hl0, by omega⟩
          rcases hx with ⟨x1, x2⟩ | ⟨h, x1, x2, x3, x4⟩
          · exact absurd c0 (x2 h0 hl0.1)
          have eh : h = h0 := by
            obtain ⟨w1, w2⟩ := (cnd h x1).mp x3
            rcases hb0 h w1 w2 with z | z
            · exact z
            · rcases x4 h0 hl0.1 c0 with y | y
              · exact y.symm
              · exact absurd y z.as
          subst eh
          subst x2
          apply h18
          unfold t_X9_findLines_18
          rw [hA1.2.1.1]
          refine ⟨fun _ => ⟨fun z => absurd z (nI_ne_m1 (by omega)), fun _ => ?_⟩, fun h => absurd (by rw [nI_leI (by omega) (by omega)]; omega) h⟩
          exact key91 (pN g) 0 μ1 (by omega) (Fr.rf μ1) (fun _ _ _ => rfl) (fun s hs => absurd hs (by omega))
        | succ q ih =>
          intro i x hi hx
          have hin : i < pN g := by omega
          have ii : vp_in (nI i) 200 := inI (by omega) (by decide)
          have no : ¬ (μ.1 58 i = -1 ∧ μ1.1 59 i = -1) → K18 (nI j) x (nI (i + 1)) μ1 := fun hz => by
            refine ih (i + 1) x (by omega) ?_
            rcases hx with ⟨x1, x2⟩ | ⟨h, x1, x2, x3, x4⟩
            · refine Or.inl ⟨x1, fun s hs => ?_⟩
              by_cases e : s = i
              · rw [e]; exact hz
              · exact x2 s (by omega)
            · refine Or.inr ⟨h, by omega, x2, x3, fun s hs hc => ?_⟩
              by_cases e : s = i
              · rw [e] at hc; exact absurd hc hz
              · exact x4 s (by omega) hc
          have no' : ¬ (μ.1 58 i = -1 ∧ μ1.1 59 i = -1) → t_X9_findLines_50 K9 K18 K91 (fun μ' => Fr [59, 60, 61, 62, 63, 64, 69, 70] [65, 66, 67, 68] [12] false μ μ' ∧ ∃ c la r P, (LnSt g (Lv g (μ.1 58)) c la ∧ ∀ s, Lv g (μ.1 58) s → la s < c) ∧ Enm (Lv g (μ.1 58)) (gBf g la) r P ∧ (∀ s, ¬ Lv g (μ.1 58) s → la s = 0) ∧ (∀ p, P ≤ p → r p = 0) ∧ SgM μ' g la r P P ∧ ∀ s, s < pN g → μ'.1 59 s = (if μ.1 58 s = -1 then nI (la s) else -1)) (nI j) x (nI i) μ1 := fun hz => by
            unfold t_X9_findLines_50 t_X9_findLines_51
            refine ⟨fun _ => ?_, fun z => absurd rfl z⟩
            rw [nI_1]
            exact no hz
          apply h18
          unfold t_X9_findLines_18
          rw [hA1.2.1.1, cI (by omega : i < 2147483648), hf.1 58 (by decide)]
          refine ⟨fun h => ?_, fun _ => ⟨ii, fun h1 => no' (fun z => h1 z.1), fun h1 => ⟨ii, fun h2 => no' (fun z => h2 z.2), fun h2 => ?_⟩⟩⟩
          · exfalso
            rw [nI_leI (by omega) (by omega)] at h
            omega
          unfold t_X9_findLines_51
          refine ⟨fun z => absurd z (by decide), fun _ => ⟨fun h3 => ?_, fun h3 => ?_⟩⟩
          · rw [nI_1]
            refine ih (i + 1) (nI i) (by omega) (Or.inr ⟨i, by omega, rfl, ⟨h1, h2⟩, fun s hs hc => ?_⟩)
            rcases hx with ⟨-, x2⟩ | ⟨h, x1, x2, -, -⟩
            · by_cases e : s = i
              · exact Or.inl e
              · exact absurd hc (x2 s (by omega))
            · rw [x2] at h3
              exact absurd h3 (nI_ne_m1 (by omega))
          · rcases hx with ⟨x1, -⟩ | ⟨h, x1, x2, x3, x4⟩
            · exact absurd x1 h3
            subst x2
            refine ⟨_, hm_isHigher hA1 hin (show h < pN g by omega), fun r4 μ2 h4 => ?_⟩
            obtain ⟨rfl, h4⟩ := h4
            refine ⟨fun h5 => ?_, fun h5 => ?_⟩
            · rw [nI_1]
              refine ih (i + 1) (nI h) (by omega) (Or.inr ⟨h, by omega, rfl, x3, fun s hs hc => ?_⟩)
              by_cases e : s = i
              · refine Or.inr ?_
                rw [e]
                rcases h4 with ⟨a, -⟩ | ⟨-, a⟩
                · rw [h5] at a; exact absurd a (by decide)
                · rcases gBet.tot (g := g) (show h ≠ i by omega) with b | b
                  · exact b
                  · exact absurd b a
              · exact x4 s (by omega) hc
            · rw [nI_1]
              have hb : gBet g i h := by
                rcases h4 with ⟨-, a⟩ | ⟨a, -⟩
                · exact a
                · exact absurd a h5
              refine ih (i + 1) (nI i) (by omega) (Or.inr ⟨i, by omega, rfl, ⟨h1, h2⟩, fun s hs hc => ?_⟩)
              by_cases e : s = i
              · exact Or.inl e
              · rcases x4 s (by omega) hc with a | a
                · rw [a]; exact Or.inr hb
                · exact Or.inr (hb.tr a)
      exact key18 (pN g) 0 (-1) (by omega) (Or.inl ⟨rfl, fun s hs => absurd hs (by omega)⟩)
  unfold t_X9_findLines_0
  intro μ1 e1
  apply h9
  unfold t_X9_findLines_9
  refine ⟨fun z => absurd z (by decide), fun _ => ?_⟩
  have f1 : Fr [59, 60, 61, 62, 63, 64, 69, 70] [65, 66, 67, 68] [12] false μ μ1 := by rw [e1]; exact Fr.wF _ _ (by decide)
  have s1 : ∀ s, s < pN g → μ1.1 59 s = -1 ∧ μ1.1 60 s = -1 ∧ μ1.1 61 s = -1 ∧ μ1.1 62 s = 0 := fun s hs => by rw [e1, mF_1]; exact hS.2.2 s hs
  refine main c 0 μ1 0 (by omega) f1 (fun s hs => Or.inr ⟨fun z => absurd z.2 (by omega), (s1 s hs).1⟩) ⟨by rw [e1, mF_221, upE]; rfl, fun q hq => absurd hq (by simp [sgC]), fun p hp => absurd hp (by omega), fun s hs _ => (s1 s hs).2⟩ (by omega) (fun q hq => absurd hq (by omega)) (fun q _ _ => by omega)
