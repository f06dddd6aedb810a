/-! The class: letters, places, doubles. -/
theorem fb_negL {x : Int64} (h : -9223372036854775807 ≤ x.toInt) : (-x).toInt = -x.toInt := by
  have h2 := fb_rngL x
  rw [Int64.toInt_neg, fb_bmodL (by omega) (by omega)]
theorem t4L : (4 : Int64).toInt = 4 := by decide
theorem t2L : (2 : Int64).toInt = 2 := by decide
theorem t3L : (3 : Int64).toInt = 3 := by decide
theorem t0L : (0 : Int64).toInt = 0 := by decide
theorem t0I : (0 : Int32).toInt = 0 := by decide
theorem absL {a b w : Int64} {A B D : Int} (ha : a.toInt = A) (hb : b.toInt = B) (hw : w.toInt = D) (bA : -2000000 ≤ A ∧ A ≤ 2000000) (bB : -2000000 ≤ B ∧ B ≤ 2000000) : w < (4 : Int64) * (if 0 < a - b then a - b else -(a - b)) ↔ ¬ (4 * (A - B) ≤ D ∧ 4 * (B - A) ≤ D) := by
  have h1 : (a - b).toInt = A - B := by rw [fb_subL (by rw [ha, hb]; omega) (by rw [ha, hb]; omega), ha, hb]
  have h0 : (0 < a - b) ↔ 0 < A - B := by rw [lt64, h1, t0L]
  by_cases hq : 0 < a - b
  · rw [if_pos hq, lt64, fb_mulL (by rw [t4L, h1]; omega) (by rw [t4L, h1]; omega), t4L, h1, hw]
    have := h0.mp hq
    omega
  · have h2 : (-(a - b)).toInt = B - A := by rw [fb_negL (by rw [h1]; omega), h1]; omega
    rw [if_neg hq, lt64, fb_mulL (by rw [t4L, h2]; omega) (by rw [t4L, h2]; omega), t4L, h2, hw]
    have : ¬ 0 < A - B := fun z => hq (h0.mpr z)
    omega
set_option maxHeartbeats 1000000 in
theorem hs_kind {c : Nat} (hc : c < 256) (μ : MemT) : sp_X2_kindThatTells (nI c) μ (fun r μ' => μ' = μ ∧ r = if kdF (μ.1 17) c < 4 then nI (kdF (μ.1 17) c) else -1) := by
  intro K2 hK
  have key : ∀ q k, q + k = 4 → (∀ j, j < k → μ.1 17 (256 * j + c) = 0) → K2 (nI c) (nI k) μ := by
    intro q
    induction q with
    | zero =>
      intro k hk h0
      have e4 : k = 4 := by omega
      subst e4
      apply hK
      unfold t_X2_kindThatTells_2
      refine ⟨fun _ => ⟨rfl, ?_⟩, fun h => absurd (by decide) h⟩
      rw [kdF_of (k := 4) (by omega) h0 (fun h => absurd h (by omega)), if_neg (by omega)]
    | succ q ih =>
      intro k hk h0
      apply hK
      unfold t_X2_kindThatTells_2
      have e : nI k * (256 : Int32) + nI c = nI (256 * k + c) := by
        rw [lit32 256, pk_mul, nI_add]
        congr 1
        omega
      refine ⟨fun h => ?_, fun _ => ?_⟩
      · exfalso
        rw [lit32 4, nI_leI (by omega) (by omega)] at h
        omega
      · rw [e, cI (by omega)]
        refine ⟨inI (by omega) (by decide), fun hz => ?_, fun hz => ⟨rfl, ?_⟩⟩
        · rw [nI_1]
          refine ih (k + 1) (by omega) (fun j hj => ?_)
          rcases Nat.lt_or_ge j k with q1 | q1
          · exact h0 j q1
          · have : j = k := by omega
            rw [this]
            exact hz
        · rw [kdF_of (k := k) (by omega) h0 (fun _ => hz), if_pos (by omega)]
  exact key 4 0 rfl (fun j hj => absurd hj (by omega))
/-- what stage A has laid down for the sign s -/
def AatC (μ : MemT) (g : PgT) (s : Nat) : Prop := (μ.2.1 19 s).toInt = gU g s ∧ (μ.2.1 20 s).toInt = gV g s ∧ μ.1 21 s = gL1 g s ∧ μ.1 22 s = gL2 g s
set_option maxHeartbeats 1000000 in
theorem hs_spell {g : PgT} {μ : MemT} (hg : PgOk g) (hC : HasC μ g) {s : Nat} (hs : s < pN g) : sp_X3_spell (nI s) (nI (pC g s)) μ (fun μ' => μ' = mwI (mwI μ 21 (nI s) (gL1 g s)) 22 (nI s) (gL2 g s)) := by
  have hn := hg.1
  have hc := (hg.2 s hs).1
  have hk4 := kdF_le (pM g) (pC g s)
  unfold sp_X3_spell t_X3_spell_0
  refine ⟨_, hs_kind hc μ, fun r μ2 h => ?_⟩
  obtain ⟨rfl, hr⟩ := h
  rw [hC.2.2.1] at hr
  by_cases hk : kdF (pM g) (pC g s) < 4
  · rw [if_pos hk] at hr
    have e : r * (256 : Int32) + nI (pC g s) = nI (256 * kdF (pM g) (pC g s) + pC g s) := by
      rw [hr, lit32 256, pk_mul, nI_add]
      congr 1
      omega
    refine ⟨fun _ => ?_, fun h => absurd (by rw [hr]; exact nI_pos' (by omega)) h⟩
    unfold t_X3_spell_35
    rw [e, cI (by omega), hC.2.2.1]
    refine ⟨inI (by omega) (by decide), inI (by omega) (by decide), fun μ3 e3 => ⟨fun _ => ⟨inI (by omega) (by decide), inI (by omega) (by decide), fun μ4 e4 => ?_⟩, fun h => absurd (by rw [hr]; exact nI_pos' (by omega)) h⟩⟩
    have h18 : μ3.1 18 = pO g := by rw [e3, mI_1, upN _ _ (by decide)]; exact hC.2.2.2
    rw [e4, h18, e3]
    simp only [gL1, gL2, if_pos hk]
  · rw [if_neg hk] at hr
    subst hr
    refine ⟨fun h => absurd h (by decide), fun _ => ?_⟩
    unfold t_X3_spell_35
    refine ⟨inI (by omega) (by decide), fun μ3 e3 => ⟨fun h => absurd h (by decide), fun _ => ⟨inI (by omega) (by decide), fun μ4 e4 => ?_⟩⟩⟩
    rw [e4, e3]
    simp only [gL1, gL2, if_neg hk]
set_option maxHeartbeats 1000000 in
theorem hs_isDouble {g : PgT} {μ : MemT} (hg : PgOk g) (hC : HasC μ g) {s k : Nat} (hs : s < pN g) (hk : k < pN g) (as : AatC μ g s) (ak : AatC μ g k) : sp_X3_isDouble (nI s) (nI k) μ (fun r μ' => μ' = μ ∧ ((r = 1 ∧ gNr g s k) ∨ (r = 0 ∧ ¬ gNr g s k))) := by
  have hn := hg.1
  obtain ⟨us, vs, ls, os⟩ := as
  obtain ⟨uk, vk, lk, ok⟩ := ak
  obtain ⟨-, -, -, -, -, ts, -⟩ := hC.2.1 s hs
  obtain ⟨-, -, -, wk, zk, tk, -⟩ := hC.2.1 k hk
  have b1 := gU_bd hg hs
  have b2 := gU_bd hg hk
  have b3 := gV_bd hg hs
  have b4 := gV_bd hg hk
  have is : vp_in (nI s) 200 := inI (by omega) (by decide)
  have ik : vp_in (nI k) 200 := inI (by omega) (by decide)
  have zk2 : ((μ.1 14 k).toInt64).toInt = pZ g k := (tL64 _).trans zk
  unfold sp_X3_isDouble t_X3_isDouble_0
  rw [cI (by omega : s < 2147483648), cI (by omega : k < 2147483648), ls, os, lk, ok, ts, tk, absL us uk wk (by omega) (by omega), absL vs vk zk2 (by omega) (by omega), b01_iff]
  refine ⟨is, ik, fun h => ⟨rfl, Or.inr ⟨rfl, fun q => h q.1⟩⟩, fun h1 => ⟨is, ik, fun h => ⟨rfl, Or.inr ⟨rfl, fun q => h q.2.1⟩⟩, fun h2 => ⟨is, ik, fun h => ⟨rfl, Or.inr ⟨rfl, fun q => h q.2.2.1⟩⟩, fun h3 => ⟨is, ik, ik, fun h => ⟨rfl, Or.inr ⟨rfl, fun q => h q.2.2.2.1⟩⟩, fun h4 => ⟨is, ik, ik, fun h => ⟨rfl, Or.inr ⟨rfl, fun q => h q.2.2.2.2⟩⟩, fun h5 => ⟨rfl, Or.inl ⟨rfl, h1, h2, h3, Classical.not_not.mp h4, Classical.not_not.mp h5⟩⟩⟩⟩⟩⟩⟩
set_option maxHeartbeats 1000000 in
theorem hs_firstDoubled {g : PgT} {μ : MemT} (hg : PgOk g) (hC : HasC μ g) {s : Nat} (hs : s < pN g) (hA : ∀ i, i ≤ s → AatC μ g i) : sp_X3_firstDoubled (nI s) μ (fun r μ' => μ' = μ ∧ DblAt g (μ.1 23) s r) := by
  have hn := hg.1
  intro K2 hK
  have key : ∀ q k, q + k = s → (∀ j, j < k → ¬ (μ.1 23 j = -1 ∧ gNr g s j)) → K2 (nI s) (nI k) μ := by
    intro q
    induction q with
    | zero =>
      intro k hk h0
      have e4 : k = s := by omega
      subst e4
      apply hK
      unfold t_X3_firstDoubled_2
      refine ⟨fun _ => ⟨rfl, Or.inr ⟨rfl, h0⟩⟩, fun h => absurd (by rw [nI_leI (by omega) (by omega)]; omega) h⟩
    | succ q ih =>
      intro k hk h0
      apply hK
      unfold t_X3_firstDoubled_2
      have nx : ¬ (μ.1 23 k = -1 ∧ gNr g s k) → K2 (nI s) (nI k + 1) μ := fun hz => by
        rw [nI_1]
        refine ih (k + 1) (by omega) (fun j hj => ?_)
        rcases Nat.lt_or_ge j k with q1 | q1
        · exact h0 j q1
        · have : j = k := by omega
          rw [this]
          exact hz
      refine ⟨fun h => ?_, fun _ => ?_⟩
      · exfalso
        rw [nI_leI (by omega) (by omega)] at h
        omega
      · rw [cI (by omega)]
        refine ⟨inI (by omega) (by decide), fun hz => nx (fun q => hz q.1), fun hz => ⟨_, hs_isDouble hg hC hs (by omega) (hA s (by omega)) (hA k (by omega)), fun r μ3 h => ?_⟩⟩
        obtain ⟨rfl, h⟩ := h
        refine ⟨fun hr => nx (fun q => ?_), fun hr => ⟨rfl, Or.inl ⟨k, by omega, rfl, hz, ?_, h0⟩⟩⟩
        · rcases h with ⟨h1, -⟩ | ⟨-, h2⟩
          · rw [hr] at h1; exact absurd h1 (by decide)
          · exact h2 q.2
        · rcases h with ⟨-, h2⟩ | ⟨h1, -⟩
          · exact h2
          · exact absurd h1 hr
  exact key s 0 (by omega) (fun j hj => absurd hj (by omega))
/-- stage A for the first m signs -/
def StA (μ : MemT) (g : PgT) (m : Nat) : Prop := (∀ s, s < m → AatC μ g s) ∧ DblOk g m (μ.1 23)
set_option maxHeartbeats 2000000 in
theorem hs_settle {g : PgT} {μ : MemT} (hg : PgOk g) (hC : HasC μ g) : sp_X3_settle μ (fun μ' => Fr [21, 22, 23] [19, 20] [] false μ μ' ∧ StA μ' g (pN g)) := by
  have hn := hg.1
  intro K2 hK
  have key : ∀ q s μ1, q + s = pN g → Fr [21, 22, 23] [19, 20] [] false μ μ1 → StA μ1 g s → K2 (nI s) μ1 := by
    intro q
    induction q with
    | zero =>
      intro s μ1 hs hf hA
      have e : s = pN g := by omega
      subst e
      have hC1 : HasC μ1 g := hC.fr hf (by decide) (by decide) (by decide)
      apply hK
      unfold t_X3_settle_2
      rw [hC1.1]
      exact ⟨fun _ => ⟨hf, hA⟩, fun h => absurd (by rw [nI_leI (by omega) (by omega)]; omega) h⟩
    | succ q ih =>
      intro s μ1 hs hf hA
      have hC1 : HasC μ1 g := hC.fr hf (by decide) (by decide) (by decide)
      have hsn : s < pN g := by omega
      obtain ⟨cs, xs, ys, -, -, ts, -⟩ := hC1.2.1 s hsn
      have is : vp_in (nI s) 200 := inI (by omega) (by decide)
      -- behind both places: the rest of the turn of the loop
      have fin : ∀ (a b : Int64), a.toInt = gU g s → b.toInt = gV g s → t_X3_settle_70 K2 (fun μ' => Fr [21, 22, 23] [19, 20] [] false μ μ' ∧ StA μ' g (pN g)) (nI s) (nI s) b (mwL μ1 19 (nI s) a) := by
        intro a b ha hb
        unfold t_X3_settle_70
        refine ⟨is, fun μ2 e2 => ?_⟩
        have f2 : Fr [21, 22, 23] [19, 20] [] false μ1 μ2 := by
          rw [e2]
          exact (Fr.wL μ1 _ _ (by decide)).tr (Fr.wL _ _ _ (by decide))
        have hC2 : HasC μ2 g := hC1.fr f2 (by decide) (by decide) (by decide)
        rw [cI (by omega), (hC2.2.1 s hsn).1]
        refine ⟨is, _, hs_spell hg hC2 hsn, fun μ5 e5 => ?_⟩
        have f5 : Fr [21, 22, 23] [19, 20] [] false μ1 μ5 := by
          rw [e5]
          exact (f2.tr (Fr.wI _ _ _ (by decide))).tr (Fr.wI _ _ _ (by decide))
        have hC5 : HasC μ5 g := hC1.fr f5 (by decide) (by decide) (by decide)
        have u5 : μ5.2.1 19 = vp_updL (μ1.2.1 19) s a := by rw [e5, mI_2, mI_2, e2, mL_21, upN _ _ (by decide), mL_21, upE, cI (by omega)]
        have v5 : μ5.2.1 20 = vp_updL (μ1.2.1 20) s b := by rw [e5, mI_2, mI_2, e2, mL_21, upE, mL_21, upN _ _ (by decide), cI (by omega)]
        have l5 : μ5.1 21 = upd (μ1.1 21) s (gL1 g s) := by rw [e5, mI_1, upN _ _ (by decide), mI_1, upE, e2, mL_1, mL_1, cI (by omega)]
        have o5 : μ5.1 22 = upd (μ1.1 22) s (gL2 g s) := by rw [e5, mI_1, upE, mI_1, upN _ _ (by decide), e2, mL_1, mL_1, cI (by omega)]
        have d5 : μ5.1 23 = μ1.1 23 := by rw [e5, mI_1, upN _ _ (by decide), mI_1, upN _ _ (by decide), e2, mL_1, mL_1]
        have A5 : ∀ i, i ≤ s → AatC μ5 g i := by
          intro i hi
          unfold AatC
          rw [u5, v5, l5, o5]
          by_cases h : i = s
          · subst h
            rw [ulE, ulE, udE, udE]
            exact ⟨ha, hb, rfl, rfl⟩
          · rw [ulN _ _ h, ulN _ _ h, udN _ _ h, udN _ _ h]
            exact hA.1 i (by omega)
        refine ⟨_, hs_firstDoubled hg hC5 hsn A5, fun r μ8 h8 => ⟨is, fun μ12 e12 => ?_⟩⟩
        obtain ⟨rfl, hr⟩ := h8
        rw [nI_1]
        have d12 : μ12.1 23 = upd (μ1.1 23) s r := by rw [e12, mI_1, upE, d5, cI (by omega)]
        refine ih (s + 1) μ12 (by omega) (hf.tr (f5.tr (by rw [e12]; exact Fr.wI _ _ _ (by decide)))) ⟨fun i hi => ?_, fun i hi => ?_⟩
        · have h := A5 i (by omega)
          unfold AatC at h ⊢
          rw [e12]
          exact h
        · rw [d12]
          by_cases h : i = s
          · subst h
            rw [udE]
            rw [d5] at hr
            exact hr.cong (fun j hj => udN _ _ (by omega))
          · rw [udN _ _ h]
            exact (hA.2 i (by omega)).cong (fun j hj => udN _ _ (by omega))
      apply hK
      unfold t_X3_settle_2
      rw [hC1.1]
      refine ⟨fun h => ?_, fun _ => ?_⟩
      · exfalso
        rw [nI_leI (by omega) (by omega)] at h
        omega
      · rw [cI (by omega), ts]
        refine ⟨is, fun h => ⟨is, ?_⟩, fun h => ⟨is, ?_⟩⟩
        · unfold t_X3_settle_39
          refine ⟨is, fun μ2 e2 => ?_⟩
          have t2 : μ2.1 15 s = b01 (pT g s) := by rw [e2]; exact ts
          have hT : pT g s = false := b01_0.mp h
          rw [cI (by omega), t2, h]
          refine ⟨is, fun _ => ⟨is, ?_⟩, fun q => absurd rfl q⟩
          rw [e2]
          exact fin _ _ (by rw [xs]; simp [gU, hT]) (by rw [mL_21, upN _ _ (by decide), ys]; simp [gV, hT])
        · unfold t_X3_settle_39
          refine ⟨is, fun μ2 e2 => ?_⟩
          have t2 : μ2.1 15 s = b01 (pT g s) := by rw [e2]; exact ts
          have hT : pT g s = true := by
            cases hq : pT g s with
            | true => rfl
            | false => exact absurd (b01_0.mpr hq) h
          rw [cI (by omega), t2]
          refine ⟨is, fun q => absurd q h, fun _ => ⟨is, ?_⟩⟩
          rw [e2]
          refine fin _ _ (by rw [ys]; simp [gU, hT]) ?_
          rw [mL_21, upN _ _ (by decide), fb_negL (by rw [xs]; have := (hg.2 s hsn).2.1; omega), xs]
          simp [gV, hT]
  exact key (pN g) 0 μ (by omega) (Fr.rf μ) ⟨fun s hs => absurd hs (by omega), fun s hs => absurd hs (by omega)⟩
