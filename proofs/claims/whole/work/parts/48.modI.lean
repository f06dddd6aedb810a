/-! The model looks. -/
def MpOk (g : PgT) : Prop := ∀ i, i < 1024 → 0 ≤ (pO g i).toInt
theorem gL2_0 {g : PgT} (hg : PgOk g) (hm : MpOk g) {s : Nat} (hs : s < pN g) : gL2 g s ≤ 0 ↔ gL2 g s = 0 := by
  have hk := kdF_le (pM g) (pC g s)
  have hc := (hg.2 s hs).1
  have h0 : 0 ≤ (gL2 g s).toInt := by
    unfold gL2
    split
    · exact hm _ (by omega)
    · decide
  rw [le32, eq32]
  show (gL2 g s).toInt ≤ 0 ↔ (gL2 g s).toInt = 0
  omega
def bkM (μ : MemT) : Nat → Int32 := fun s => if μ.1 60 s = -1 then -1 else μ.1 70 (μ.1 60 s).toNatClampNeg
def DvM (μ : MemT) (g : PgT) : Prop := ∃ d c la r P n al b τ, Drv g d c la r P n al b τ ∧ Ob g (μ.1 58) (μ.1 59) (bkM μ) (μ.1 62) (μ.2.2.1 15) (μ.1 72) (μ.1 73) d la r P al τ ∧ (∀ s, s < pN g → μ.1 60 s = -1 ∨ ∃ q, q < 200 ∧ μ.1 60 s = nI q) ∧ ∀ i, i < (txF g la r P al τ P).length → μ.1 73 i = -1 ∨ ∃ s, s < pN g ∧ μ.1 73 i = nI s
def lkI : List Nat := [56, 57, 58, 59, 60, 61, 62, 63, 64, 69, 70, 71, 72, 73]
def lkL : List Nat := [54, 55, 65, 66, 67, 68]
def lkF : List Nat := [11, 12, 13, 14, 15]
set_option maxHeartbeats 4000000 in
/-- from the sorted signs to the text -/
theorem hm_lookT {g : PgT} {μ μ0 : MemT} {d : Nat → Int32} {c : Nat} {la r : Nat → Nat} {P n : Nat} {al : Nat → Nat} {b : Nat} (hm : MpOk g) (hS : ScM μ g la r P al) (h0 : Fr lkI lkL lkF true μ0 μ) (h11 : ¬ μ.2.2.1 11 = 0)
    (hd : μ.1 58 = d) (D1 : DblOk g (pN g) d) (D2 : LnSt g (Lv g d) c la ∧ ∀ s, Lv g d s → la s < c) (En : Enm (Lv g d) (gBf g la) r P) (D4 : BRch (sgX g la r P) n (iniA (sgC g la r P) (agF g la r P).2.2.2.2.2) 0 al b ∧ ∀ q, q < sgC g la r P → al q < b) (zl : ∀ s, ¬ Lv g d s → la s = 0) (zr : ∀ p, P ≤ p → r p = 0) (h59 : ∀ s, s < pN g → μ.1 59 s = (if d s = -1 then nI (la s) else -1)) (hSg : ∀ s, s < pN g → (∀ p, p < P → r p ≠ s) → μ.1 60 s = -1 ∧ μ.1 61 s = -1 ∧ μ.1 62 s = 0) (h14 : μ.2.2.1 14 = 0)
    (K15 : Int32 → MemT → Prop) (K49 : Int32 → MemT → Prop) (K72 : Int32 → Int32 → MemT → Prop) (K142 : Int32 → MemT → Prop)
    (h49 : ∀ (x1 : Int32) (μ : MemT), t_X9_look_49 K15 K49 K72 K142 (fun μ' => Fr lkI lkL lkF true μ0 μ' ∧ ¬ μ'.2.2.1 11 = 0 ∧ DvM μ' g) x1 μ → K49 x1 μ) (h72 : ∀ (x1 : Int32) (x2 : Int32) (μ : MemT), t_X9_look_72 K15 K49 K72 K142 (fun μ' => Fr lkI lkL lkF true μ0 μ' ∧ ¬ μ'.2.2.1 11 = 0 ∧ DvM μ' g) x1 x2 μ → K72 x1 x2 μ) (h142 : ∀ (x1 : Int32) (μ : MemT), t_X9_look_142 K15 K49 K72 K142 (fun μ' => Fr lkI lkL lkF true μ0 μ' ∧ ¬ μ'.2.2.1 11 = 0 ∧ DvM μ' g) x1 μ → K142 x1 μ) : K49 0 μ := by
  have hg := hS.1.1
  have hn := hg.1
  have hP := hS.2.1
  have inj := hS.2.2.2
  -- the text
  have text : ∀ q i μ1 τ, q + i = P → Fr [71, 72, 73] [] [14, 15] false μ μ1 → μ1.2.2.1 14 = nI P → Enm (Lv g d) (rdB g la r P al) τ P → (∀ i, i < P → μ1.1 71 i = nI (τ i)) → TxM μ1 (txF g la r P al τ i) → K142 (nI i) μ1 := by
    intro q
    induction q with
    | zero =>
      intro i μ1 τ hi hf hF En2 ho hT
      have e : i = P := by omega
      subst e
      have hS1 : ScM μ1 g la r i al := hS.fr hf (by decide) (by decide) (by decide)
      apply h142
      unfold t_X9_look_142
      rw [hF]
      refine ⟨fun _ => ⟨h0.tr (hf.mono (by decide) (by decide) (by decide) (fun h => by cases h)), by rw [hf.2.2.1 11 (by decide)]; exact h11, d, c, la, r, i, n, al, b, τ, ⟨D1, D2, En, D4, En2, zl, zr⟩, ⟨fun s hs => ?_, hT.1, hT.2⟩, fun s hs => ?_, ?_⟩, fun h => absurd (by rw [nI_leI (by omega) (by omega)]; omega) h⟩
      · by_cases hd1 : d s = -1
        · obtain ⟨p, p1, p2⟩ := En.2.1 s ⟨hs, hd1⟩
          obtain ⟨a1, a2, a3, a4, a5, a6, a7⟩ := hS1.2.2.1 p p1
          have ex : sX r i s = p := by rw [← p2]; exact sX_at inj p1
          have hq := sgF_le g la r p
          rw [if_pos hd1, if_pos hd1, if_pos hd1, hf.1 58 (by decide), hd]
          refine ⟨rfl, ?_, ?_, ?_⟩
          · rw [← p2]; exact a2.1
          · unfold bkM bkN
            rw [ex, ← p2, a3, if_neg (nI_ne_m1 (by omega)), cI (by omega), a6]
          · rw [ex, ← p2, a5]
        · have w := hSg s hs (fun p hp e => hd1 (by have := (En.1 p hp).2; rw [e] at this; exact this))
          rw [if_neg hd1, if_neg hd1, if_neg hd1, hf.1 58 (by decide), hd]
          refine ⟨rfl, ?_, ?_, ?_⟩
          · rw [hf.1 59 (by decide), h59 s hs, if_neg hd1]
          · unfold bkM
            rw [hf.1 60 (by decide), w.1, if_pos rfl]
          · rw [hf.1 62 (by decide)]; exact w.2.2
      · rw [hf.1 60 (by decide)]
        by_cases hd1 : d s = -1
        · obtain ⟨p, p1, p2⟩ := En.2.1 s ⟨hs, hd1⟩
          have hq := sgF_le g la r p
          exact Or.inr ⟨sgF g la r p, by omega, by rw [← p2]; exact (hS.2.2.1 p p1).2.2.1⟩
        · exact Or.inl (hSg s hs (fun p hp e => hd1 (by have := (En.1 p hp).2; rw [e] at this; exact this))).1
      · exact TxR.src (Q := fun y => y = -1 ∨ ∃ s, s < pN g ∧ y = nI s) hT.2 (tx_src i (fun k hk => (En2.1 k hk).1))
    | succ q ih =>
      intro i μ1 τ hi hf hF En2 ho hT
      have hS1 : ScM μ1 g la r P al := hS.fr hf (by decide) (by decide) (by decide)
      obtain ⟨k, k1, k2⟩ := En.2.1 (τ i) (En2.1 i (by omega))
      have kn := (hS1.2.2.1 k k1).1
      have hl := txF_len g la r P al τ i
      have put : ∀ μ5 T, T.length + 2 ≤ 600 → Fr [71, 72, 73] [] [14, 15] false μ μ5 → μ5.2.2.1 14 = nI P → (∀ i, i < P → μ5.1 71 i = nI (τ i)) → TxM μ5 T → putF g (τ i) T = txF g la r P al τ (i + 1) → t_X9_look_174 K15 K49 K72 K142 (fun μ' => Fr lkI lkL lkF true μ0 μ' ∧ ¬ μ'.2.2.1 11 = 0 ∧ DvM μ' g) (nI i) (nI (τ i)) μ5 := by
        intro μ5 T hTl hf5 hF5 ho5 hT5 he
        have hS5 : ScM μ5 g la r P al := hS.fr hf5 (by decide) (by decide) (by decide)
        have hA5 := hS5.1.2.2 (r k) kn
        unfold t_X9_look_174
        rw [← k2, cI (by omega), hA5.2.2.1]
        refine ⟨inI (by omega) (by decide), _, hm_put hT5 (by omega) _ _, fun μ6 h6 => ⟨inI (by omega) (by decide), ?_⟩⟩
        obtain ⟨f6, t6⟩ := h6
        have e6 : μ6.1 57 (r k) = gL2 g (r k) := by rw [f6.1 57 (by decide)]; exact hA5.2.2.2
        have f6' := hf5.tr (f6.mono (by decide) (by decide) (by decide) (fun h => h))
        rw [e6, nI_1, gL2_0 hg hm kn]
        refine ⟨fun h7 => ih (i + 1) μ6 τ (by omega) f6' ((f6.2.2.1 14 (by decide)).trans hF5) En2 (by rw [f6.1 71 (by decide)]; exact ho5) ?_, fun h7 => ⟨inI (by omega) (by decide), _, hm_put t6 (by simp only [List.length_cons]; omega) _ _, fun μ8 h8 => ?_⟩⟩
        · rw [← he, ← k2]
          unfold putF
          rw [if_pos h7]
          exact t6
        · obtain ⟨f8, t8⟩ := h8
          refine ih (i + 1) μ8 τ (by omega) (f6'.tr (f8.mono (by decide) (by decide) (by decide) (fun h => h))) ((f8.2.2.1 14 (by decide)).trans ((f6.2.2.1 14 (by decide)).trans hF5)) En2 (by rw [f8.1 71 (by decide), f6.1 71 (by decide)]; exact ho5) ?_
          rw [← he, ← k2]
          unfold putF
          rw [if_neg h7]
          exact t8
      apply h142
      unfold t_X9_look_142
      rw [hF, cI (by omega : i < 2147483648), ho i (by omega)]
      refine ⟨fun h => ?_, fun _ => ⟨inI (by omega) (by decide), fun h => ?_, fun h => ?_⟩⟩
      · exfalso
        rw [nI_leI (by omega) (by omega)] at h
        omega
      · have i0 : i = 0 := by
          rw [le32, tI (by omega)] at h
          have h : (i : Int) ≤ 0 := h
          omega
        refine put μ1 [] (by simp) hf hF ho ?_ ?_
        · rw [i0] at hT; exact hT
        · rw [i0]; rfl
      · have i0 : i ≠ 0 := fun z => h (by rw [z]; decide)
        have e1 : nI i - (1 : Int32) = nI (i - 1) := by
          have : i = (i - 1) + 1 := by omega
          rw [this, nIp, Nat.add_sub_cancel]
        obtain ⟨k', k1', k2'⟩ := En.2.1 (τ (i - 1)) (En2.1 (i - 1) (by omega))
        have hpos : 0 < (txF g la r P al τ i).length := by
          have : i = (i - 1) + 1 := by omega
          rw [this]
          exact txF_pos g la r P al τ (i - 1)
        rw [e1, cI (by omega : i - 1 < 2147483648), ho (i - 1) (by omega), ← k2, ← k2']
        refine ⟨inI (by omega) (by decide), _, hm_join hS1 hT (by omega) hpos k1' k1, fun μ5 h5 => ?_⟩
        obtain ⟨f5, t5⟩ := h5
        have hl2 := lnkF_len g la r P al (r k') (r k) (txF g la r P al τ i)
        rw [k2] at t5 hl2 ⊢
        rw [k2'] at t5 hl2
        refine put μ5 _ (by omega) (hf.tr (f5.mono (by decide) (by decide) (by decide) (fun h => h))) ((f5.2.2.1 14 (by decide)).trans hF) (by rw [f5.1 71 (by decide)]; exact ho) t5 ?_
        show _ = putF g (τ i) (if i = 0 then [] else lnkF g la r P al (τ (i - 1)) (τ i) (txF g la r P al τ i))
        rw [if_neg i0]
  -- the order
  have sort : ∀ q i μ1 τ m, q + i = pN g → m ≤ i → Fr [71] [] [14] false μ μ1 → μ1.2.2.1 14 = nI m → Enm (fun s => Lv g d s ∧ s < i) (rdB g la r P al) τ m → (∀ k, k < m → μ1.1 71 k = nI (τ k)) → K49 (nI i) μ1 := by
    intro q
    induction q with
    | zero =>
      intro i μ1 τ m hi hmi hf hF En2 ho
      have e : i = pN g := by omega
      subst e
      have hS1 : ScM μ1 g la r P al := hS.fr hf (by decide) (by decide) (by decide)
      have En3 : Enm (Lv g d) (rdB g la r P al) τ m := En2.cg (fun s => ⟨fun z => z.1, fun z => ⟨z, z.1⟩⟩) (fun _ _ _ _ z => z) (fun _ _ => rfl)
      have em : m = P := by
        have l1 : m ≤ P := by
          refine pigN P m (fun k => sX r P (τ k)) (fun k hk => ?_) (fun k l hk hl e => ?_)
          · obtain ⟨p, p1, p2⟩ := En.2.1 (τ k) (En3.1 k hk)
            show sX r P (τ k) < P
            rw [← p2, sX_at inj p1]
            exact p1
          · obtain ⟨p, p1, p2⟩ := En.2.1 (τ k) (En3.1 k hk)
            obtain ⟨p', p1', p2'⟩ := En.2.1 (τ l) (En3.1 l hl)
            have e : sX r P (τ k) = sX r P (τ l) := e
            rw [← p2, ← p2', sX_at inj p1, sX_at inj p1'] at e
            exact En3.inj rdB.ir hk hl (by rw [← p2, ← p2', e])
        have l2 : P ≤ m := by
          refine pigN m P (fun p => sX τ m (r p)) (fun p hp => ?_) (fun p p' hp hp' e => ?_)
          · obtain ⟨k, k1, k2⟩ := En3.2.1 (r p) (En.1 p hp)
            show sX τ m (r p) < m
            rw [← k2, sX_at (fun i j h1 h2 e => En3.inj rdB.ir h1 h2 e) k1]
            exact k1
          · obtain ⟨k, k1, k2⟩ := En3.2.1 (r p) (En.1 p hp)
            obtain ⟨k', k1', k2'⟩ := En3.2.1 (r p') (En.1 p' hp')
            have e : sX τ m (r p) = sX τ m (r p') := e
            rw [← k2, ← k2', sX_at (fun i j h1 h2 e => En3.inj rdB.ir h1 h2 e) k1, sX_at (fun i j h1 h2 e => En3.inj rdB.ir h1 h2 e) k1'] at e
            exact inj p p' hp hp' (by rw [← k2, ← k2', e])
        omega
      subst em
      apply h49
      unfold t_X9_look_49
      rw [hS1.1.2.1.1]
      refine ⟨fun _ μ2 e2 => ?_, fun h => absurd (by rw [nI_leI (by omega) (by omega)]; omega) h⟩
      exact text m 0 μ2 τ (by omega) ((hf.mono (by decide) (by decide) (by decide) (fun h => h)).tr (by rw [e2]; exact Fr.wF _ _ (by decide))) (by rw [e2, mF_221, upN _ _ (by decide)]; exact hF) En3 (by rw [e2, mF_1]; exact ho) ⟨by rw [e2, mF_221, upE]; rfl, trivial⟩
    | succ q ih =>
      intro i μ1 τ m hi hmi hf hF En2 ho
      have hin : i < pN g := by omega
      have hS1 : ScM μ1 g la r P al := hS.fr hf (by decide) (by decide) (by decide)
      have ii : vp_in (nI i) 200 := inI (by omega) (by decide)
      apply h49
      unfold t_X9_look_49
      rw [hS1.1.2.1.1, cI (by omega : i < 2147483648), hf.1 58 (by decide), hd, hF, nI_1]
      refine ⟨fun h => ?_, fun _ => ⟨ii, fun h1 => ih (i + 1) μ1 τ m (by omega) (by omega) hf hF (En2.cg (fun s => ⟨fun z => ⟨z.1, by omega⟩, fun z => ⟨z.1, ?_⟩⟩) (fun _ _ _ _ z => z) (fun _ _ => rfl)) ho, fun h1 => ?_⟩⟩
      · exfalso
        rw [nI_leI (by omega) (by omega)] at h
        omega
      · by_cases e : s = i
        · rw [e] at z; exact absurd z.1.2 h1
        · omega
      obtain ⟨p, p1, p2⟩ := En.2.1 i ⟨hin, h1⟩
      have fin : ∀ a μ2, a ≤ m → Fr [71] [] [14] false μ μ2 → μ2.2.2.1 14 = nI m → ShA (μ2.1 71) τ m a → (∀ q, q < a → rdB g la r P al (τ q) i) → (∀ q, a ≤ q → q < m → rdB g la r P al i (τ q)) → t_X9_look_112 K15 K49 K72 K142 (fun μ' => Fr lkI lkL lkF true μ0 μ' ∧ ¬ μ'.2.2.1 11 = 0 ∧ DvM μ' g) (nI i) (nI a) μ2 := by
        intro a μ2 ha f2 F2 hSh b1 b2
        unfold t_X9_look_112
        refine ⟨inI (by omega) (by decide), fun μ3 e3 μ4 e4 => ?_⟩
        rw [nI_1]
        refine ih (i + 1) μ4 (insF τ a i) (m + 1) (by omega) (by omega) (f2.tr (by rw [e4, e3]; exact (Fr.wI _ _ _ (by decide)).tr (Fr.wF _ _ (by decide)))) ?_ (En2.ins ha (fun t => ⟨fun z => ?_, fun z => ?_⟩) b1 b2) (fun k hk => ?_)
        · rw [e4, mF_221, upE, e3, mI_2, F2]; exact nI_1 _
        · by_cases e : t = i
          · exact Or.inr e
          · exact Or.inl ⟨z.1, by omega⟩
        · rcases z with z | z
          · exact ⟨z.1, by omega⟩
          · rw [z]; exact ⟨⟨hin, h1⟩, by omega⟩
        · rw [e4, mF_1, e3, mI_1, upE, cI (by omega)]
          exact hSh.fin i k (by omega)
      have inner : ∀ a μ2, a ≤ m → Fr [71] [] [14] false μ μ2 → μ2.2.2.1 14 = nI m → ShA (μ2.1 71) τ m a → (∀ q, a ≤ q → q < m → rdB g la r P al i (τ q)) → K72 (nI i) (nI a) μ2 := by
        intro a
        induction a with
        | zero =>
          intro μ2 ha f2 F2 hSh b2
          apply h72
          unfold t_X9_look_72
          exact ⟨fun _ => fin 0 μ2 ha f2 F2 hSh (fun q hq => absurd hq (by omega)) b2, fun h => absurd (by decide) h⟩
        | succ a iha =>
          intro μ2 ha f2 F2 hSh b2
          have hS2 : ScM μ2 g la r P al := hS.fr f2 (by decide) (by decide) (by decide)
          obtain ⟨w1, w2⟩ := En2.1 a (by omega)
          obtain ⟨k, k1, k2⟩ := En.2.1 (τ a) w1
          apply h72
          unfold t_X9_look_72
          rw [nIp, nIm, nIp, cI (by omega : a < 2147483648), hSh.1 a (by omega)]
          refine ⟨fun h => ?_, fun _ => ⟨inI (by omega) (by decide), ?_⟩⟩
          · exfalso
            rw [le32, tI (by omega)] at h
            have h : ((a + 1 : Nat) : Int) ≤ 0 := h
            omega
          have hb := hm_isBefore hS2 p1 k1
          rw [p2, k2] at hb
          refine ⟨_, hb, fun v μ3 h3 => ?_⟩
          obtain ⟨rfl, h3⟩ := h3
          refine ⟨fun h4 => fin (a + 1) μ3 ha f2 F2 hSh (fun q hq => ?_) b2, fun h4 => ⟨inI (by omega) (by decide), inI (by omega) (by decide), fun μ4 e4 => ?_⟩⟩
          · have hta : rdB g la r P al (τ a) i := by
              rcases h3 with ⟨z, -⟩ | ⟨-, z⟩
              · rw [h4] at z; exact absurd z (by decide)
              · rcases rdB.tot (g := g) (la := la) (r := r) (P := P) (al := al) (τ a) i (by omega) with y | y
                · exact y
                · exact absurd y z
            by_cases e : q = a
            · rw [e]; exact hta
            · exact rdB.tr _ _ _ (En2.2.2 q a (by omega) (by omega)) hta
          · refine iha μ4 (by omega) (f2.tr (by rw [e4]; exact Fr.wI _ _ _ (by decide))) (by rw [e4, mI_2]; exact F2) ?_ (fun q q1 q2 => ?_)
            · rw [e4, mI_1, upE, cI (by omega), hSh.1 a (by omega), ← hSh.1 a (by omega)]
              exact hSh.step
            · by_cases e : q = a
              · rw [e]
                rcases h3 with ⟨-, z⟩ | ⟨z, -⟩
                · exact z
                · exact absurd z h4
              · exact b2 q (by omega) q2
      exact inner m μ1 (Nat.le_refl m) hf hF (ShA.start ho) (fun q h1 h2 => absurd h2 (by omega))
  exact sort (pN g) 0 μ (fun _ => 0) 0 (by omega) (by omega) (Fr.rf μ) h14 ⟨fun p hp => absurd hp (by omega), fun s hs => absurd hs.2 (by omega), fun p q h1 h2 => absurd h2 (by omega)⟩ (fun k hk => absurd hk (by omega))
