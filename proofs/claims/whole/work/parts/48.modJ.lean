/-! The model looks, whole. -/
set_option maxHeartbeats 4000000 in
theorem hm_look {g : PgT} {μ : MemT} (hg : PgOk g) (hm : MpOk g) (hC : HasM μ g) (hk : ¬ μ.2.2.1 11 = 0 → DvM μ g) : sp_X9_look μ (fun μ' => Fr lkI lkL lkF true μ μ' ∧ ¬ μ'.2.2.1 11 = 0 ∧ DvM μ' g) := by
  have hn := hg.1
  intro K15 K49 K72 K142 h15 h49 h72 h142
  unfold t_X9_look_0
  refine ⟨fun _ μ1 e1 => ?_, fun h => ⟨Fr.rf μ, h, hk h⟩⟩
  have f1 : Fr [56, 57, 58, 59, 60, 61, 62] [54, 55] [11] false μ μ1 := by rw [e1]; exact Fr.wF _ _ (by decide)
  have F1 : μ1.2.2.1 11 = 1 := by rw [e1, mF_221, upE]
  have key : ∀ q s μ2, q + s = pN g → Fr [56, 57, 58, 59, 60, 61, 62] [54, 55] [11] false μ μ2 → μ2.2.2.1 11 = 1 → StM μ2 g s → K15 (nI s) μ2 := by
    intro q
    induction q with
    | zero =>
      intro s μ2 hs f2 F2 hM
      have e : s = pN g := by omega
      subst e
      have hC2 : HasM μ2 g := hC.fr f2 (by decide) (by decide) (by decide)
      have hA2 : MtA μ2 g := ⟨hg, hC2, hM.1⟩
      apply h15
      unfold t_X9_look_15
      rw [hC2.1]
      refine ⟨fun _ => ⟨_, hm_findLines hA2 hM, fun μ3 h3 => ?_⟩, fun h => absurd (by rw [nI_leI (by omega) (by omega)]; omega) h⟩
      obtain ⟨f3, c, la, r, P, hL, En, zl, zr, hSg, h59⟩ := h3
      have hP : P ≤ pN g := En.len gBf.ir (fun s hs => hs.1)
      have hcN := hL.1.cle (fun s hs => hs.1)
      have hN3 : (sgX g la r P).1 ≤ P := sgC_le g la r P
      have bd := ag_bd (la := la) hg P (fun i hi => (En.1 i hi).1)
      have inj : ∀ i j, i < P → j < P → r i = r j → i = j := fun i j hi hj e => En.inj gBf.ir hi hj e
      have R3 : RwX μ3 (sgX g la r P) := by
        refine ⟨by omega, hSg.1, fun q hq => ?_⟩
        obtain ⟨w1, w2, w3, w4, w5, w6⟩ := hSg.2.1 q hq
        have bq := bd q hq
        unfold agB at bq
        refine ⟨⟨w1, w2, ?_, ?_, w5⟩, ?_⟩
        · rw [w3]; show _ = -(-((agF g la r P).2.2.1 q)); omega
        · rw [w4]; show _ = -(-((agF g la r P).2.2.2.1 q)); omega
        · show ((-3000000 ≤ (agF g la r P).1 q ∧ (agF g la r P).1 q ≤ 3000000) ∧ (-3000000 ≤ (agF g la r P).2.1 q ∧ (agF g la r P).2.1 q ≤ 3000000)) ∧ ((-3000000 ≤ -((agF g la r P).2.2.1 q) ∧ -((agF g la r P).2.2.1 q) ≤ 3000000) ∧ (-3000000 ≤ -((agF g la r P).2.2.2.1 q) ∧ -((agF g la r P).2.2.2.1 q) ≤ 3000000)) ∧ 1 ≤ (agF g la r P).2.2.2.2.1 q ∧ (agF g la r P).2.2.2.2.1 q ≤ 1000
          omega
      refine ⟨_, hm_findGroups (tn := (agF g la r P).2.2.2.2.2) R3 (fun q hq => (hSg.2.1 q hq).2.2.2.2.2), fun μ4 h4 μ7 e7 => ?_⟩
      obtain ⟨f4, n, al, b, hB, hal⟩ := h4
      have hsgl : ∀ p, p < P → sgF g la r p < sgC g la r P := by
        have key : ∀ m p, p < m → sgF g la r p < sgC g la r m := by
          intro m
          induction m with
          | zero => intro p hp; omega
          | succ m ih =>
            intro p hp
            show sgF g la r p < sgF g la r m + 1
            by_cases e : p = m
            · rw [e]; omega
            · have h1 := ih p (by omega)
              by_cases hN : sgN g la r m = true
              · have := sg_new hN; omega
              · have := sg_old hN; omega
        exact key P
      have f7 : Fr [] [] [14] false μ4 μ7 := by rw [e7]; exact Fr.wF _ _ (by decide)
      have h0 : Fr lkI lkL lkF true μ μ7 := (f2.mono (by decide) (by decide) (by decide) (fun h => by cases h)).tr ((f3.mono (by decide) (by decide) (by decide) (fun h => by cases h)).tr ((f4.mono (by decide) (by decide) (by decide) (fun h => h)).tr (f7.mono (by decide) (by decide) (by decide) (fun h => by cases h))))
      have k : ∀ c, c ∈ [58, 59, 60, 61, 62] → μ7.1 c = μ3.1 c := fun c hc => by
        have q1 : c ∉ [70] := by
          simp only [List.mem_cons, List.not_mem_nil, or_false] at hc ⊢; omega
        rw [f7.1 c (by simp), f4.1 c q1]
      have hS7 : ScM μ7 g la r P al := by
        refine ⟨((hA2.fr f3 (by decide) (by decide) (by decide)).fr f4 (by decide) (by decide) (by decide)).fr f7 (by decide) (by decide) (by decide), by omega, fun p hp => ?_, inj⟩
        obtain ⟨v1, v2, v3⟩ := hSg.2.2.1 p hp
        have hr := En.1 p hp
        rw [k 59 (by decide), k 60 (by decide), k 61 (by decide), k 62 (by decide), f7.1 70 (by decide)]
        refine ⟨hr.1, ⟨?_, by have := hL.2 (r p) hr; omega⟩, v1, v2, v3, (hal _ (hsgl p hp)).2.2, (hal _ (hsgl p hp)).2.1⟩
        rw [h59 (r p) hr.1, if_pos hr.2]
      have e58 : μ7.1 58 = μ2.1 58 := by rw [k 58 (by decide), f3.1 58 (by decide)]
      refine hm_lookT (μ0 := μ) (d := μ2.1 58) (c := c) (n := n) (b := b) hm hS7 h0 ?_ e58 hM.2.1 hL En ⟨hB, fun q hq => (hal q hq).1⟩ zl zr ?_ ?_ ?_ K15 K49 K72 K142 h49 h72 h142
      · rw [f7.2.2.1 11 (by decide), f4.2.2.1 11 (by decide), f3.2.2.1 11 (by decide), F2]; decide
      · rw [k 59 (by decide)]; exact h59
      · rw [k 60 (by decide), k 61 (by decide), k 62 (by decide)]; exact hSg.2.2.2
      · rw [e7, mF_221, upE]
    | succ q ih =>
      intro s μ2 hs f2 F2 hM
      have hC2 : HasM μ2 g := hC.fr f2 (by decide) (by decide) (by decide)
      apply h15
      unfold t_X9_look_15
      rw [hC2.1]
      refine ⟨fun h => ?_, fun _ => ⟨_, hm_spell hg hC2 (show s < pN g by omega) hM, fun μ3 h3 => ?_⟩⟩
      · exfalso
        rw [nI_leI (by omega) (by omega)] at h
        omega
      obtain ⟨f3, M3⟩ := h3
      rw [nI_1]
      exact ih (s + 1) μ3 (by omega) (f2.tr (f3.mono (by decide) (by decide) (by decide) (fun h => h))) (by rw [f3.2.2.1 11 (by decide)]; exact F2) M3
  exact key (pN g) 0 μ1 (by omega) f1 F1 ⟨fun s hs => absurd hs (by omega), fun s hs => absurd hs (by omega), fun s hs => absurd hs (by omega)⟩
