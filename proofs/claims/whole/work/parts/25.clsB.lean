/-! The class: the signs of a line, put into the row; all lines. -/
set_option maxHeartbeats 1000000 in
theorem hs_insert {μ : MemT} {r : Nat → Nat} {P st s : Nat} (hrow : ∀ p, p < P → μ.1 24 p = nI (r p)) (hr : ∀ p, p < P → r p < 200) (hP : P < 200) (hF : μ.2.2.1 3 = nI P) (hst : st ≤ P) (hs : s < 200) : sp_X1_insert (nI st) (nI s) μ (fun μ' => ∃ a, st ≤ a ∧ a ≤ P ∧ (∀ q, a ≤ q → q < P → (μ.2.1 19 s).toInt < (μ.2.1 19 (r q)).toInt) ∧ (a = st ∨ (μ.2.1 19 (r (a - 1))).toInt ≤ (μ.2.1 19 s).toInt) ∧ Fr [24] [] [3] false μ μ' ∧ (∀ p, p ≤ P → μ'.1 24 p = nI (insF r a s p)) ∧ μ'.2.2.1 3 = nI (P + 1)) := by
  intro K hK
  have fin : ∀ a μ1, st ≤ a → a ≤ P → Fr [24] [] [] false μ μ1 → ShA (μ1.1 24) r P a → (∀ q, a ≤ q → q < P → (μ.2.1 19 s).toInt < (μ.2.1 19 (r q)).toInt) → (a = st ∨ (μ.2.1 19 (r (a - 1))).toInt ≤ (μ.2.1 19 s).toInt) → t_X1_insert_69 K (fun μ' => ∃ a, st ≤ a ∧ a ≤ P ∧ (∀ q, a ≤ q → q < P → (μ.2.1 19 s).toInt < (μ.2.1 19 (r q)).toInt) ∧ (a = st ∨ (μ.2.1 19 (r (a - 1))).toInt ≤ (μ.2.1 19 s).toInt) ∧ Fr [24] [] [3] false μ μ' ∧ (∀ p, p ≤ P → μ'.1 24 p = nI (insF r a s p)) ∧ μ'.2.2.1 3 = nI (P + 1)) (nI st) (nI s) (nI a) μ1 := by
    intro a μ1 h1 h2 hf hsh hb hc
    unfold t_X1_insert_69
    refine ⟨inI (by omega) (by decide), fun μ2 e2 μ3 e3 => ⟨a, h1, h2, hb, hc, ?_, fun p hp => ?_, ?_⟩⟩
    · refine (hf.mono (by decide) (by decide) (by decide) (fun h => h)).tr ?_
      rw [e3, e2]
      exact (Fr.wI μ1 _ _ (by decide)).tr (Fr.wF _ _ (by decide))
    · rw [e3, mF_1, e2, mI_1, upE, cI (by omega)]
      exact hsh.fin s p hp
    · rw [e3, mF_221, upE, e2, mI_2, hf.2.2.1 3 (by decide), hF, lit32 1, nI_add]
  have key : ∀ a μ1, st ≤ a → a ≤ P → Fr [24] [] [] false μ μ1 → ShA (μ1.1 24) r P a → (∀ q, a ≤ q → q < P → (μ.2.1 19 s).toInt < (μ.2.1 19 (r q)).toInt) → K (nI st) (nI s) (nI a) μ1 := by
    intro a
    induction a with
    | zero =>
      intro μ1 h1 h2 hf hsh hb
      apply hK
      unfold t_X1_insert_17
      exact ⟨fun _ => fin 0 μ1 h1 h2 hf hsh hb (Or.inl (by omega)), fun h => absurd (by rw [nI_leI (by omega) (by omega)]; omega) h⟩
    | succ a ih =>
      intro μ1 h1 h2 hf hsh hb
      apply hK
      unfold t_X1_insert_17
      rw [nI_leI (by omega) (by omega)]
      refine ⟨fun h => fin (a + 1) μ1 h1 h2 hf hsh hb (Or.inl (by omega)), fun h => ?_⟩
      have ea : nI (a + 1) - (1 : Int32) = nI a := nI_pred a
      have er : μ1.1 24 a = nI (r a) := hsh.1 a (by omega)
      have hra := hr a (by omega)
      rw [ea, cI (by omega : a < 2147483648), er, cI (by omega : r a < 2147483648), cI (by omega : s < 2147483648), hf.2.1 19 (by decide), le64]
      refine ⟨inI (by omega) (by decide), inI (by omega) (by decide), inI (by omega) (by decide), fun h3 => fin (a + 1) μ1 h1 h2 hf hsh hb (Or.inr h3), fun h3 => ⟨inI (by omega) (by decide), inI (by omega) (by decide), fun μ2 e2 => ?_⟩⟩
      have eb : nI (a + 1) + (-1) = nI a := pk_m1 a
      rw [eb]
      refine ih μ2 (by omega) (by omega) (by rw [e2]; exact hf.tr (Fr.wI _ _ _ (by decide))) ?_ (fun q q1 q2 => ?_)
      · rw [e2, mI_1, upE, cI (by omega), ← er]
        exact hsh.step
      · by_cases e : q = a
        · rw [e]; omega
        · exact hb q (by omega) q2
  unfold t_X1_insert_0
  rw [hF]
  refine ⟨fun _ => key P μ hst (Nat.le_refl P) (Fr.rf μ) (ShA.start hrow) (fun q q1 q2 => absurd q2 (by omega)), fun h => absurd (by rw [lit32 200, nI_ltI (by omega) (by omega)]; omega) h⟩
/-- who is live: no double -/
def Lv (g : PgT) (d : Nat → Int32) (s : Nat) : Prop := s < pN g ∧ d s = -1
/-- the state of the class's lines: c lines by la, the row r of P signs -/
def LnC (μ : MemT) (g : PgT) (c : Nat) (la r : Nat → Nat) (P : Nat) : Prop := LnSt g (Lv g (μ.1 23)) c la ∧ LnAr (pN g) (Lv g (μ.1 23)) c la (μ.1 26) ∧ Enm (fun s => Lv g (μ.1 23) s ∧ la s < c) (gBf g la) r P ∧ (∀ p, p < P → μ.1 24 p = nI (r p)) ∧ μ.2.2.1 2 = nI c ∧ μ.2.2.1 3 = nI P
theorem Enm.cg {S S' : Nat → Prop} {bf bf' : Nat → Nat → Prop} {r r' : Nat → Nat} {P : Nat} (h : Enm S bf r P) (h1 : ∀ s, S s ↔ S' s) (h2 : ∀ a b, S a → S b → bf a b → bf' a b) (h3 : ∀ p, p < P → r' p = r p) : Enm S' bf' r' P := by
  refine ⟨fun p hp => ?_, fun s hs => ?_, fun p q hpq hq => ?_⟩
  · rw [h3 p hp]; exact (h1 _).mp (h.1 p hp)
  · obtain ⟨p, hp, e⟩ := h.2.1 s ((h1 s).mpr hs)
    exact ⟨p, hp, by rw [h3 p hp]; exact e⟩
  · rw [h3 p (by omega), h3 q hq]
    exact h2 _ _ (h.1 p (by omega)) (h.1 q hq) (h.2.2 p q hpq hq)
set_option maxHeartbeats 2000000 in
theorem hs_gatherLine {g : PgT} {μ : MemT} {c P h : Nat} {la r : Nat → Nat} (hg : PgOk g) (hC : HasC μ g) (hA : ∀ s, s < pN g → AatC μ g s) (hL : LnC μ g c la r P) (hcc : c ≤ 200) (h1 : Lv g (μ.1 23) h) (h2 : la h = c) (h3 : ∀ s, Lv g (μ.1 23) s → la s = c → s = h ∨ gBet g h s) : sp_X1_gatherLine (nI h) μ (fun μ' => Fr [24, 26] [] [2, 3] false μ μ' ∧ ∃ r' P', P < P' ∧ LnC μ' g (c + 1) (lnUp g c la h) r' P') := by
  have hn := hg.1
  obtain ⟨hst, har, hen, hrow, hF2, hF3⟩ := hL
  have hz : 0 ≤ pZ g h := by have := (hg.2 h h1.1).2.2.2.2.1; omega
  have up := hst.up h1 h2 h3 hz
  have hIh : InL g h h := ⟨rfl, by omega⟩
  have hPn : P ≤ pN g := hen.len gBf.ir (fun s hs => hs.1.1)
  intro K hK
  -- the loop: i signs are seen
  have key : ∀ q i μ1 r1 P1, q + i = pN g → Fr [24, 26] [] [3] false μ μ1 → P ≤ P1 → (h < i → P < P1) →
      Enm (fun s => Lv g (μ.1 23) s ∧ (la s < c ∨ (s < i ∧ la s = c ∧ InL g h s))) (gBf g (lnUp g c la h)) r1 P1 →
      (∀ p, p < P1 → μ1.1 24 p = nI (r1 p)) → (∀ p, p < P1 → (p < P ↔ la (r1 p) < c)) → μ1.2.2.1 3 = nI P1 →
      (∀ s, s < pN g → μ1.1 26 s = if s < i ∧ μ.1 23 s = -1 ∧ la s = c ∧ pT g s = pT g h ∧ 2 * (gV g h - gV g s) ≤ pZ g h then nI c else μ.1 26 s) → K (nI h) (nI P) (nI i) μ1 := by
    intro q
    induction q with
    | zero =>
      intro i μ1 r1 P1 hi hf hP1 hlt hen1 hrow1 hst1 hF1 hl1
      have e : i = pN g := by omega
      subst e
      have hC1 : HasC μ1 g := hC.fr hf (by decide) (by decide) (by decide)
      apply hK
      unfold t_X1_gatherLine_9
      rw [hC1.1]
      refine ⟨fun _ => fun μ2 e2 => ?_, fun h => absurd (by rw [nI_leI (by omega) (by omega)]; omega) h⟩
      have d2 : μ2.1 23 = μ.1 23 := by rw [e2, mF_1, hf.1 23 (by decide)]
      refine ⟨(hf.mono (by decide) (by decide) (by decide) (fun h => h)).tr (by rw [e2]; exact Fr.wF _ _ (by decide)), r1, P1, hlt h1.1, ?_, ?_, ?_, ?_, ?_, ?_⟩
      · rw [d2]; exact up
      · intro s hs
        rw [d2, e2, mF_1, hl1 s hs]
        by_cases cc : s < pN g ∧ μ.1 23 s = -1 ∧ la s = c ∧ pT g s = pT g h ∧ 2 * (gV g h - gV g s) ≤ pZ g h
        · rw [if_pos cc]
          have lc := (lnUp_eq (g := g) (h := h) (by omega : la s ≤ c)).mpr ⟨cc.2.2.1, cc.2.2.2⟩
          exact Or.inl ⟨⟨hs, cc.2.1⟩, by omega, by rw [lc]⟩
        · rw [if_neg cc]
          rcases har s hs with ⟨a1, a2, a3⟩ | ⟨a1, a2⟩
          · exact Or.inl ⟨a1, by rw [lnUp_of a2]; omega, by rw [lnUp_of a2]; exact a3⟩
          · refine Or.inr ⟨fun z => ?_, a2⟩
            have zc := hst.1 s z.1
            have : la s = c := by
              rcases Nat.lt_or_ge (la s) c with y | y
              · exact absurd ⟨z.1, y⟩ a1
              · omega
            have z2 : lnUp g c la h s = c := by
              have := lnUp_lt (g := g) (h := h) (s := s) (c := c) (la := la)
              omega
            have := (lnUp_eq (g := g) (h := h) zc).mp z2
            exact cc ⟨hs, z.1.2, this.1, this.2⟩
      · refine hen1.cg (fun s => ?_) (fun a b _ _ z => z) (fun p _ => rfl)
        rw [d2]
        refine ⟨fun z => ⟨z.1, ?_⟩, fun z => ⟨z.1, ?_⟩⟩
        · rcases z.2 with y | y
          · rw [lnUp_of y]; omega
          · rw [(lnUp_eq (by omega)).mpr y.2]; omega
        · have zc := hst.1 s z.1
          rcases Nat.lt_or_ge (la s) c with y | y
          · exact Or.inl y
          · have y2 : lnUp g c la h s = c := by
              have := lnUp_lt (g := g) (h := h) (s := s) (c := c) (la := la)
              omega
            exact Or.inr ⟨z.1.1, (lnUp_eq zc).mp y2⟩
      · intro p hp
        rw [e2, mF_1]
        exact hrow1 p hp
      · rw [e2, mF_221, upE, hf.2.2.1 2 (by decide), hF2, lit32 1, nI_add]
      · rw [e2, mF_221, upN _ _ (by decide)]
        exact hF1
    | succ q ih =>
      intro i μ1 r1 P1 hi hf hP1 hlt hen1 hrow1 hst1 hF1 hl1
      have hC1 : HasC μ1 g := hC.fr hf (by decide) (by decide) (by decide)
      have hin : i < pN g := by omega
      have d1 : μ1.1 23 = μ.1 23 := hf.1 23 (by decide)
      have l26 : μ1.1 26 i = μ.1 26 i := by rw [hl1 i hin, if_neg (by omega)]
      have lft : (μ.1 23 i = -1 ∧ μ.1 26 i = -1) ↔ (Lv g (μ.1 23) i ∧ la i = c) := by
        rw [har.left (by omega) hin]
        refine ⟨fun z => ?_, fun z => ⟨z.1.2, fun y => by omega⟩⟩
        have lvi : Lv g (μ.1 23) i := ⟨hin, z.1⟩
        have := hst.1 i lvi
        refine ⟨lvi, ?_⟩
        rcases Nat.lt_or_ge (la i) c with y | y
        · exact absurd ⟨lvi, y⟩ z.2
        · omega
      have skip : ∀ μ2, μ2 = μ1 → ¬ (μ.1 23 i = -1 ∧ la i = c ∧ InL g h i) → K (nI h) (nI P) (nI i + 1) μ2 := by
        intro μ2 e2 hz
        subst e2
        rw [nI_1]
        refine ih (i + 1) μ2 r1 P1 (by omega) hf hP1 (fun z => hlt ?_) ?_ hrow1 hst1 hF1 (fun s hs => ?_)
        · by_cases e : h = i
          · rw [← e] at hz; exact absurd ⟨h1.2, h2, hIh⟩ hz
          · omega
        · refine hen1.cg (fun s => ?_) (fun a b _ _ z => z) (fun p _ => rfl)
          refine ⟨fun z => ⟨z.1, ?_⟩, fun z => ⟨z.1, ?_⟩⟩
          · rcases z.2 with y | y
            · exact Or.inl y
            · exact Or.inr ⟨by omega, y.2⟩
          · rcases z.2 with y | y
            · exact Or.inl y
            · by_cases e : s = i
              · rw [e] at y z; exact absurd ⟨z.1.2, y.2⟩ hz
              · exact Or.inr ⟨by omega, y.2⟩
        · rw [hl1 s hs]
          by_cases e : s = i
          · subst e
            rw [if_neg (by omega), if_neg (fun z => hz ⟨z.2.1, z.2.2.1, z.2.2.2⟩)]
          · by_cases cc : s < i ∧ μ.1 23 s = -1 ∧ la s = c ∧ pT g s = pT g h ∧ 2 * (gV g h - gV g s) ≤ pZ g h
            · rw [if_pos cc, if_pos ⟨by omega, cc.2⟩]
            · rw [if_neg cc, if_neg (fun z => cc ⟨by omega, z.2⟩)]
      apply hK
      unfold t_X1_gatherLine_9
      rw [hC1.1]
      refine ⟨fun h => ?_, fun _ => ⟨_, hs_isLeft (by omega), fun r5 μ3 h5 => ?_⟩⟩
      · exfalso
        rw [nI_leI (by omega) (by omega)] at h
        omega
      obtain ⟨rfl, h5⟩ := h5
      rw [d1, l26] at h5
      refine ⟨fun e5 => skip _ rfl (fun z => ?_), fun e5 => ?_⟩
      · rcases h5 with ⟨a, -⟩ | ⟨-, a⟩
        · rw [e5] at a; exact absurd a (by decide)
        · exact a (lft.mpr ⟨⟨hin, z.1⟩, z.2.1⟩)
      have hlf : Lv g (μ.1 23) i ∧ la i = c := by
        rcases h5 with ⟨-, a⟩ | ⟨a, -⟩
        · exact lft.mp a
        · exact absurd a e5
      obtain ⟨ui, vi, -, -⟩ := hA i hin
      obtain ⟨uh, vh, -, -⟩ := hA h h1.1
      have hhn := h1.1
      have zh := (hC1.2.1 h h1.1).2.2.2.2.1
      have bvh := gV_bd hg h1.1
      have bvi := gV_bd hg hin
      have v1 : μ3.2.1 20 = μ.2.1 20 := hf.2.1 20 (by decide)
      have cmp : ((μ3.1 14 h).toInt64 < (2 : Int64) * (μ3.2.1 20 h - μ3.2.1 20 i)) ↔ pZ g h < 2 * (gV g h - gV g i) := by
        have e1 : (μ3.2.1 20 h - μ3.2.1 20 i).toInt = gV g h - gV g i := by
          rw [v1, fb_subL (by rw [vh, vi]; omega) (by rw [vh, vi]; omega), vh, vi]
        rw [lt64, tL64, zh, fb_mulL (by rw [t2L, e1]; omega) (by rw [t2L, e1]; omega), t2L, e1]
      rw [cI (by omega : i < 2147483648), cI (by omega : h < 2147483648), (hC1.2.1 i hin).2.2.2.2.2.1, (hC1.2.1 h h1.1).2.2.2.2.2.1, b01_iff, cmp]
      have ii : vp_in (nI i) 200 := inI (by omega) (by decide)
      have ih2 : vp_in (nI h) 200 := inI (by omega) (by decide)
      refine ⟨ii, ih2, fun h6 => skip _ rfl (fun z => h6 z.2.2.1), fun h6 => ⟨ih2, ii, ih2, fun h7 => skip _ rfl (fun z => by have := z.2.2.2; omega), fun h7 => ⟨ii, fun μ12 e12 => ?_⟩⟩⟩
      have hI : InL g h i := ⟨h6, by omega⟩
      -- put in
      have f12 : Fr [24, 26] [] [3] false μ μ12 := hf.tr (by rw [e12]; exact Fr.wI _ _ _ (by decide))
      have hcap : P1 < 200 := by
        rcases Nat.lt_or_ge P1 (pN g) with y | y
        · omega
        · have := hen1.full gBf.ir (fun s hs => hs.1.1) y i hin
          omega
      have hr1 : ∀ p, p < P1 → r1 p < 200 := fun p hp => by have := (hen1.1 p hp).1.1; omega
      have row12 : ∀ p, p < P1 → μ12.1 24 p = nI (r1 p) := fun p hp => by rw [e12, mI_1, upN _ _ (by decide)]; exact hrow1 p hp
      refine ⟨_, hs_insert row12 hr1 hcap (by rw [e12, mI_2]; exact hF1) hP1 (by omega), fun μ14 h14 => ?_⟩
      obtain ⟨a, a1, a2, a3, a4, a5, a6, a7⟩ := h14
      have u12 : μ12.2.1 19 = μ.2.1 19 := f12.2.1 19 (by decide)
      rw [u12, ui] at a3 a4
      have uq : ∀ p, p < P1 → (μ.2.1 19 (r1 p)).toInt = gU g (r1 p) := fun p hp => (hA _ (hen1.1 p hp).1.1).1
      have li : lnUp g c la h i = c := (lnUp_eq (by omega)).mpr ⟨hlf.2, hI⟩
      have lq : ∀ p, p < P1 → P ≤ p → lnUp g c la h (r1 p) = c ∧ r1 p < i := fun p hp hq => by
        have y := (hen1.1 p hp).2
        have y2 := hst1 p hp
        rcases y with y | y
        · omega
        · exact ⟨(lnUp_eq (by omega)).mpr y.2, y.1⟩
      rw [nI_1]
      refine ih (i + 1) μ14 (insF r1 a i) (P1 + 1) (by omega) (f12.tr (a5.mono (by decide) (by decide) (by decide) (fun h => h))) (by omega) (fun _ => by omega) ?_ (fun p hp => a6 p (by omega)) (fun p hp => ?_) a7 (fun s hs => ?_)
      · refine hen1.ins a2 (fun t => ?_) (fun q q1 => ?_) (fun q q1 q2 => ?_)
        · refine ⟨fun z => ?_, fun z => ?_⟩
          · by_cases e : t = i
            · exact Or.inr e
            · refine Or.inl ⟨z.1, ?_⟩
              rcases z.2 with y | y
              · exact Or.inl y
              · exact Or.inr ⟨by omega, y.2⟩
          · rcases z with z | z
            · refine ⟨z.1, ?_⟩
              rcases z.2 with y | y
              · exact Or.inl y
              · exact Or.inr ⟨by omega, y.2⟩
            · subst z
              exact ⟨hlf.1, Or.inr ⟨by omega, hlf.2, hI⟩⟩
        · by_cases y : q < P
          · refine Or.inl ?_
            have := (hst1 q (by omega)).mp y
            rw [li, lnUp_of this]
            exact this
          · obtain ⟨b1, b2⟩ := lq q (by omega) (by omega)
            refine Or.inr ⟨by rw [b1, li], ?_⟩
            rcases a4 with a4 | a4
            · omega
            · rw [uq (a - 1) (by omega)] at a4
              by_cases e : q = a - 1
              · rw [← e] at a4; omega
              · have b3 := hen1.2.2 q (a - 1) (by omega) (by omega)
                have b4 := lq (a - 1) (by omega) (by omega)
                unfold gBf at b3
                omega
        · obtain ⟨b1, b2⟩ := lq q q2 (by omega)
          have b3 := a3 q q1 q2
          rw [uq q q2] at b3
          exact Or.inr ⟨by rw [b1, li], Or.inl b3⟩
      · unfold insF
        by_cases y : p < a
        · rw [if_pos y]; exact hst1 p (by omega)
        · rw [if_neg y]
          by_cases y2 : p = a
          · rw [if_pos y2]; omega
          · rw [if_neg y2]
            have := hst1 (p - 1) (by omega)
            omega
      · rw [a5.1 26 (by decide), e12, mI_1, upE, cI (by omega), hf.2.2.1 2 (by decide), hF2]
        by_cases e : s = i
        · subst e
          rw [udE, if_pos ⟨by omega, hlf.1.2, hlf.2, hI⟩]
        · rw [udN _ _ e, hl1 s hs]
          by_cases cc : s < i ∧ μ.1 23 s = -1 ∧ la s = c ∧ pT g s = pT g h ∧ 2 * (gV g h - gV g s) ≤ pZ g h
          · rw [if_pos cc, if_pos ⟨by omega, cc.2⟩]
          · rw [if_neg cc, if_neg (fun z => cc ⟨by omega, z.2⟩)]
  unfold t_X1_gatherLine_0
  rw [hF3]
  refine key (pN g) 0 μ r P (by omega) (Fr.rf μ) (Nat.le_refl P) (fun z => absurd z (by omega)) ?_ hrow (fun p hp => ⟨fun _ => (hen.1 p hp).2, fun _ => hp⟩) hF3 (fun s hs => by rw [if_neg (by omega)])
  refine hen.cg (fun s => ⟨fun z => ⟨z.1, Or.inl z.2⟩, fun z => ⟨z.1, ?_⟩⟩) (fun a b ha hb z => ?_) (fun p _ => rfl)
  · rcases z.2 with y | y
    · exact y
    · omega
  · unfold gBf at z ⊢
    rw [lnUp_of ha.2, lnUp_of hb.2]
    exact z
set_option maxHeartbeats 2000000 in
theorem hs_gatherKind {g : PgT} {μ : MemT} {c P : Nat} {la r : Nat → Nat} (hg : PgOk g) (hC : HasC μ g) (hA : ∀ s, s < pN g → AatC μ g s) (hL : LnC μ g c la r P) (hcP : c ≤ P) (t : Bool) (hpre : t = true → ∀ s, Lv g (μ.1 23) s → la s = c → pT g s = true) : sp_X1_gatherKind (b01 t) μ (fun μ' => Fr [24, 26] [] [2, 3] false μ μ' ∧ ∃ c' la' r' P', c' ≤ P' ∧ LnC μ' g c' la' r' P' ∧ ∀ s, Lv g (μ.1 23) s → la' s = c' → pT g s ≠ t ∧ (t = true → pT g s = true)) := by
  have hn := hg.1
  intro K hK
  have key : ∀ q i μ1 c1 la1 r1 P1, q + i = pN g → Fr [24, 26] [] [2, 3] false μ μ1 → i ≤ P1 → c1 ≤ P1 → LnC μ1 g c1 la1 r1 P1 → (t = true → ∀ s, Lv g (μ.1 23) s → la1 s = c1 → pT g s = true) → K (b01 t) (nI i) μ1 := by
    intro q
    induction q with
    | zero =>
      intro i μ1 c1 la1 r1 P1 hi hf hiP hcP1 hL1 hp1
      have e : i = pN g := by omega
      subst e
      have hC1 : HasC μ1 g := hC.fr hf (by decide) (by decide) (by decide)
      have d1 : μ1.1 23 = μ.1 23 := hf.1 23 (by decide)
      apply hK
      unfold t_X1_gatherKind_3
      rw [hC1.1]
      refine ⟨fun _ => ⟨hf, c1, la1, r1, P1, hcP1, hL1, fun s hs hl => ?_⟩, fun h => absurd (by rw [nI_leI (by omega) (by omega)]; omega) h⟩
      have := (hL1.2.2.1.full gBf.ir (fun s hs => hs.1.1) hiP s hs.1).2
      omega
    | succ q ih =>
      intro i μ1 c1 la1 r1 P1 hi hf hiP hcP1 hL1 hp1
      have hC1 : HasC μ1 g := hC.fr hf (by decide) (by decide) (by decide)
      have d1 : μ1.1 23 = μ.1 23 := hf.1 23 (by decide)
      have hA1 : ∀ s, s < pN g → AatC μ1 g s := fun s hs => by
        have := hA s hs
        unfold AatC at this ⊢
        rw [hf.1 21 (by decide), hf.1 22 (by decide), hf.2.1 19 (by decide), hf.2.1 20 (by decide)]
        exact this
      have hPn : P1 ≤ pN g := hL1.2.2.1.len gBf.ir (fun s hs => hs.1.1)
      have cnd : ∀ s, Cnd μ1 g t s ↔ (Lv g (μ1.1 23) s ∧ la1 s = c1 ∧ pT g s = t) := by
        intro s
        unfold Cnd
        refine ⟨fun z => ?_, fun z => ⟨z.1.1, z.1.2, (hL1.2.1.left (by omega) z.1.1).mpr (fun y => by omega), z.2.2⟩⟩
        have lvs : Lv g (μ1.1 23) s := ⟨z.1, z.2.1⟩
        have y := (hL1.2.1.left (by omega) z.1).mp z.2.2.1
        have y2 := hL1.1.1 s lvs
        refine ⟨lvs, ?_, z.2.2.2⟩
        rcases Nat.lt_or_ge (la1 s) c1 with y3 | y3
        · exact absurd ⟨lvs, y3⟩ y
        · omega
      apply hK
      unfold t_X1_gatherKind_3
      rw [hC1.1]
      refine ⟨fun h => ?_, fun _ => ⟨_, hs_nextHead hg hC1 hA1 t, fun r4 μ2 h4 => ?_⟩⟩
      · exfalso
        rw [nI_leI (by omega) (by omega)] at h
        omega
      obtain ⟨rfl, h4⟩ := h4
      rcases h4 with ⟨e4, h4⟩ | ⟨h, e4, h5, h6⟩
      · rw [e4]
        refine ⟨fun h => absurd h (by decide), fun _ => ⟨hf, c1, la1, r1, P1, hcP1, hL1, fun s hs hl => ⟨fun z => ?_, fun z => hp1 z s hs hl⟩⟩⟩
        rw [← d1] at hs
        exact h4 s ((cnd s).mpr ⟨hs, hl, z⟩)
      · have h5' := (cnd h).mp h5
        have hbest : ∀ s, Lv g (μ2.1 23) s → la1 s = c1 → s = h ∨ gBet g h s := by
          intro s hs hl
          by_cases hT : pT g s = t
          · exact h6 s ((cnd s).mpr ⟨hs, hl, hT⟩)
          · refine Or.inr (Or.inl ?_)
            rw [d1] at hs
            cases t with
            | true => exact absurd (hp1 rfl s hs hl) hT
            | false =>
              refine ⟨h5'.2.2, ?_⟩
              cases hq : pT g s with
              | true => rfl
              | false => exact absurd hq hT
        rw [e4]
        refine ⟨fun _ => ⟨_, hs_gatherLine hg hC1 hA1 hL1 (by omega) h5'.1 h5'.2.1 hbest, fun μ6 h7 => ?_⟩, fun z => absurd (nI_pos' (by have := h5'.1.1; omega)) z⟩
        obtain ⟨f6, r6, P6, h8, h9⟩ := h7
        rw [nI_1]
        refine ih (i + 1) μ6 (c1 + 1) (lnUp g c1 la1 h) r6 P6 (by omega) (hf.tr f6) (by omega) (by omega) h9 (fun z s hs hl => ?_)
        have hs' : Lv g (μ2.1 23) s := by rw [d1]; exact hs
        have y := hL1.1.1 s hs'
        have y2 : la1 s = c1 := by
          unfold lnUp at hl
          split at hl <;> omega
        exact hp1 z s hs y2
  exact key (pN g) 0 μ c la r P (by omega) (Fr.rf μ) (by omega) hcP hL hpre
