/-! Lines: what they are; the class finds them. -/
def gBet (g : PgT) (h s : Nat) : Prop := (pT g h = false ∧ pT g s = true) ∨ (pT g h = pT g s ∧ (gV g s < gV g h ∨ (gV g s = gV g h ∧ (gU g h < gU g s ∨ (gU g h = gU g s ∧ h < s)))))
theorem gBet.as {g : PgT} {a b : Nat} (h : gBet g a b) : ¬ gBet g b a := by
  unfold gBet at *
  cases ha : pT g a <;> cases hb : pT g b <;> simp [ha, hb] at h ⊢ <;> omega
theorem gBet.tr {g : PgT} {a b c : Nat} (h : gBet g a b) (h2 : gBet g b c) : gBet g a c := by
  unfold gBet at *
  cases ha : pT g a <;> cases hb : pT g b <;> cases hc : pT g c <;> simp [ha, hb, hc] at h h2 ⊢ <;> omega
theorem gBet.tot {g : PgT} {a b : Nat} (h : a ≠ b) : gBet g a b ∨ gBet g b a := by
  unfold gBet
  cases ha : pT g a <;> cases hb : pT g b <;> simp <;> omega
/-- s is in the line whose head is h, if it is left -/
def InL (g : PgT) (h s : Nat) : Prop := pT g s = pT g h ∧ 2 * (gV g h - gV g s) ≤ pZ g h
def LnSt (g : PgT) (lv : Nat → Prop) (c : Nat) (la : Nat → Nat) : Prop := (∀ s, lv s → la s ≤ c) ∧ ∀ j, j < c → ∃ h, lv h ∧ la h = j ∧ (∀ s, lv s → j ≤ la s → s = h ∨ gBet g h s) ∧ ∀ s, lv s → j ≤ la s → (la s = j ↔ InL g h s)
def lnUp (g : PgT) (c : Nat) (la : Nat → Nat) (h : Nat) : Nat → Nat := fun s => if la s = c then (if pT g s = pT g h ∧ 2 * (gV g h - gV g s) ≤ pZ g h then c else c + 1) else la s
theorem lnUp_lt {g : PgT} {c : Nat} {la : Nat → Nat} {h s : Nat} : lnUp g c la h s < c ↔ la s < c := by
  unfold lnUp
  split
  · split <;> omega
  · exact Iff.rfl
theorem lnUp_of {g : PgT} {c : Nat} {la : Nat → Nat} {h s : Nat} (q : la s < c) : lnUp g c la h s = la s := by
  unfold lnUp
  rw [if_neg (by omega)]
theorem lnUp_eq {g : PgT} {c : Nat} {la : Nat → Nat} {h s : Nat} (q : la s ≤ c) : lnUp g c la h s = c ↔ la s = c ∧ InL g h s := by
  unfold lnUp InL
  split
  · split
    · rename_i a b; exact ⟨fun _ => ⟨a, b⟩, fun _ => rfl⟩
    · rename_i a b; exact ⟨fun z => absurd z (by omega), fun z => absurd z.2 b⟩
  · rename_i a; exact ⟨fun z => absurd z a, fun z => absurd z.1 a⟩
theorem LnSt.up {g : PgT} {lv : Nat → Prop} {c : Nat} {la : Nat → Nat} (H : LnSt g lv c la) {h : Nat} (h1 : lv h) (h2 : la h = c) (h3 : ∀ s, lv s → la s = c → s = h ∨ gBet g h s) (h4 : 0 ≤ pZ g h) : LnSt g lv (c + 1) (lnUp g c la h) := by
  have hI : InL g h h := ⟨rfl, by omega⟩
  refine ⟨fun s hs => ?_, fun j hj => ?_⟩
  · have := H.1 s hs
    unfold lnUp
    split
    · split <;> omega
    · omega
  · by_cases q : j = c
    · subst q
      refine ⟨h, h1, (lnUp_eq (H.1 h h1)).mpr ⟨h2, hI⟩, fun s hs hj => ?_, fun s hs hj => ?_⟩
      · have a := H.1 s hs
        have b : ¬ la s < j := fun z => by have := lnUp_lt (g := g) (h := h).mpr z; omega
        exact h3 s hs (by omega)
      · have a := H.1 s hs
        have b : ¬ la s < j := fun z => by have := lnUp_lt (g := g) (h := h).mpr z; omega
        rw [lnUp_eq a]
        exact ⟨fun z => z.2, fun z => ⟨by omega, z⟩⟩
    · obtain ⟨hj', a1, a2, a3, a4⟩ := H.2 j (by omega)
      have up : ∀ s, lv s → (j ≤ lnUp g c la h s → j ≤ la s) := by
        intro s hs
        unfold lnUp
        split <;> omega
      refine ⟨hj', a1, by rw [lnUp_of (by omega)]; exact a2, fun s hs q2 => a3 s hs (up s hs q2), fun s hs q2 => ?_⟩
      rw [← a4 s hs (up s hs q2)]
      unfold lnUp
      split
      · rename_i z
        rw [z]
        split <;> omega
      · exact Iff.rfl
theorem LnSt.one {g : PgT} {lv : Nat → Prop} {c c' : Nat} {la la' : Nat → Nat} (H : LnSt g lv c la) (H' : LnSt g lv c' la') (f : ∀ s, lv s → la s < c) (f' : ∀ s, lv s → la' s < c') : ∀ s, lv s → la s = la' s := by
  have key : ∀ j, j ≤ c → j ≤ c' ∧ ∀ s, lv s → (la s < j ↔ la' s < j) ∧ (la s < j → la s = la' s) := by
    intro j
    induction j with
    | zero => exact fun _ => ⟨by omega, fun s _ => ⟨by omega, fun z => absurd z (by omega)⟩⟩
    | succ j ih =>
      intro hj
      obtain ⟨b1, b2⟩ := ih (by omega)
      obtain ⟨h, a1, a2, a3, a4⟩ := H.2 j (by omega)
      have c1 : j < c' := by
        have := (b2 h a1).1
        have := f' h a1
        omega
      obtain ⟨h', d1, d2, d3, d4⟩ := H'.2 j c1
      have e : h = h' := by
        have q1 := a3 h' d1 (by have := (b2 h' d1).1; omega)
        have q2 := d3 h a1 (by have := (b2 h a1).1; omega)
        rcases q1 with q1 | q1
        · exact q1.symm
        · rcases q2 with q2 | q2
          · exact q2
          · exact absurd q2 q1.as
      subst e
      refine ⟨by omega, fun s hs => ?_⟩
      obtain ⟨m1, m2⟩ := b2 s hs
      by_cases q : la s < j
      · have := m2 q
        omega
      · have q' : ¬ la' s < j := fun z => q (m1.mpr z)
        have r1 := a4 s hs (by omega)
        have r2 := d4 s hs (by omega)
        have r3 : la s = j ↔ la' s = j := r1.trans r2.symm
        refine ⟨by omega, fun z => ?_⟩
        have : la s = j := by omega
        rw [this, r3.mp this]
  exact fun s hs => ((key c (Nat.le_refl c)).2 s hs).2 (f s hs)
/-- the array of lines, when c lines are found -/
def LnAr (n : Nat) (lv : Nat → Prop) (c : Nat) (la : Nat → Nat) (f : Nat → Int32) : Prop := ∀ s, s < n → (lv s ∧ la s < c ∧ f s = nI (la s)) ∨ (¬ (lv s ∧ la s < c) ∧ f s = -1)
theorem LnAr.left {n c : Nat} {lv : Nat → Prop} {la : Nat → Nat} {f : Nat → Int32} (h : LnAr n lv c la f) (hc : c < 2147483648) {s : Nat} (hs : s < n) : f s = -1 ↔ ¬ (lv s ∧ la s < c) := by
  rcases h s hs with ⟨h1, h2, h3⟩ | ⟨h1, h2⟩
  · rw [h3]
    exact ⟨fun q => absurd q (nI_ne_m1 (by omega)), fun q => absurd ⟨h1, h2⟩ q⟩
  · exact ⟨fun _ => h1, fun _ => h2⟩
/-- the order of a row: lines, then u, then numbers -/
def gBf (g : PgT) (la : Nat → Nat) (s t : Nat) : Prop := la s < la t ∨ (la s = la t ∧ (gU g s < gU g t ∨ (gU g s = gU g t ∧ s < t)))
theorem gBf.ir {g : PgT} {la : Nat → Nat} (a : Nat) : ¬ gBf g la a a := by unfold gBf; omega
theorem gBf.as {g : PgT} {la : Nat → Nat} (a b : Nat) (h : gBf g la a b) : ¬ gBf g la b a := by unfold gBf at *; omega
theorem gBf.tr {g : PgT} {la : Nat → Nat} (a b c : Nat) (h : gBf g la a b) (h2 : gBf g la b c) : gBf g la a c := by unfold gBf at *; omega
theorem gBf.tot {g : PgT} {la : Nat → Nat} (a b : Nat) (h : a ≠ b) : gBf g la a b ∨ gBf g la b a := by unfold gBf; omega
-- the class
set_option maxHeartbeats 1000000 in
theorem hs_leads {g : PgT} {μ : MemT} (hg : PgOk g) {s k : Nat} (hs : s < pN g) (hk : k < pN g) (as : AatC μ g s) (ak : AatC μ g k) : sp_X1_leads (nI s) (nI k) μ (fun r μ' => μ' = μ ∧ ((r = 1 ∧ (gV g k < gV g s ∨ (gV g s = gV g k ∧ gU g s < gU g k))) ∨ (r = 0 ∧ ¬ (gV g k < gV g s ∨ (gV g s = gV g k ∧ gU g s < gU g k))))) := by
  have hn := hg.1
  obtain ⟨us, vs, -, -⟩ := as
  obtain ⟨uk, vk, -, -⟩ := ak
  have is : vp_in (nI s) 200 := inI (by omega) (by decide)
  have ik : vp_in (nI k) 200 := inI (by omega) (by decide)
  unfold sp_X1_leads t_X1_leads_0
  rw [cI (by omega : s < 2147483648), cI (by omega : k < 2147483648), eq64, le64, le64, us, vs, uk, vk]
  refine ⟨is, ik, fun h => ⟨is, ik, fun h2 => ⟨rfl, Or.inr ⟨rfl, by omega⟩⟩, fun h2 => ⟨rfl, Or.inl ⟨rfl, by omega⟩⟩⟩, fun h => ⟨is, ik, fun h2 => ⟨rfl, Or.inr ⟨rfl, by omega⟩⟩, fun h2 => ⟨rfl, Or.inl ⟨rfl, by omega⟩⟩⟩⟩
theorem hs_isLeft {μ : MemT} {s : Nat} (hs : s < 200) : sp_X1_isLeft (nI s) μ (fun r μ' => μ' = μ ∧ ((r = 1 ∧ μ.1 23 s = -1 ∧ μ.1 26 s = -1) ∨ (r = 0 ∧ ¬ (μ.1 23 s = -1 ∧ μ.1 26 s = -1)))) := by
  have is : vp_in (nI s) 200 := inI (by omega) (by decide)
  unfold sp_X1_isLeft t_X1_isLeft_0
  rw [cI (by omega)]
  exact ⟨is, fun h => ⟨rfl, Or.inr ⟨rfl, fun q => h q.1⟩⟩, fun h => ⟨is, fun h2 => ⟨rfl, Or.inr ⟨rfl, fun q => h2 q.2⟩⟩, fun h2 => ⟨rfl, Or.inl ⟨rfl, h, h2⟩⟩⟩⟩
/-- a candidate for the next head -/
def Cnd (μ : MemT) (g : PgT) (t : Bool) (s : Nat) : Prop := s < pN g ∧ μ.1 23 s = -1 ∧ μ.1 26 s = -1 ∧ pT g s = t
set_option maxHeartbeats 1000000 in
theorem hs_nextHead {g : PgT} {μ : MemT} (hg : PgOk g) (hC : HasC μ g) (hA : ∀ s, s < pN g → AatC μ g s) (t : Bool) : sp_X1_nextHead (b01 t) μ (fun r μ' => μ' = μ ∧ ((r = -1 ∧ ∀ s, ¬ Cnd μ g t s) ∨ ∃ h, r = nI h ∧ Cnd μ g t h ∧ ∀ s, Cnd μ g t s → s = h ∨ gBet g h s)) := by
  have hn := hg.1
  intro K hK
  have key : ∀ q i (r : Int32), q + i = pN g → ((r = -1 ∧ ∀ s, s < i → ¬ Cnd μ g t s) ∨ ∃ h, h < i ∧ r = nI h ∧ Cnd μ g t h ∧ ∀ s, s < i → Cnd μ g t s → s = h ∨ gBet g h s) → K (b01 t) r (nI i) μ := by
    intro q
    induction q with
    | zero =>
      intro i r hi hr
      have e : i = pN g := by omega
      subst e
      apply hK
      unfold t_X1_nextHead_6
      rw [hC.1]
      refine ⟨fun _ => ⟨rfl, ?_⟩, fun h => absurd (by rw [nI_leI (by omega) (by omega)]; omega) h⟩
      rcases hr with ⟨h1, h2⟩ | ⟨h, h1, h2, h3, h4⟩
      · exact Or.inl ⟨h1, fun s hs => h2 s hs.1 hs⟩
      · exact Or.inr ⟨h, h2, h3, fun s hs => h4 s hs.1 hs⟩
    | succ q ih =>
      intro i r hi hr
      have hin : i < pN g := by omega
      have skip : ¬ Cnd μ g t i → K (b01 t) r (nI i + 1) μ := fun hz => by
        rw [nI_1]
        refine ih (i + 1) r (by omega) ?_
        rcases hr with ⟨h1, h2⟩ | ⟨h, h1, h2, h3, h4⟩
        · refine Or.inl ⟨h1, fun s hs => ?_⟩
          by_cases e : s = i
          · rw [e]; exact hz
          · exact h2 s (by omega)
        · refine Or.inr ⟨h, by omega, h2, h3, fun s hs hc => ?_⟩
          by_cases e : s = i
          · rw [e] at hc; exact absurd hc hz
          · exact h4 s (by omega) hc
      apply hK
      unfold t_X1_nextHead_6
      rw [hC.1]
      refine ⟨fun h => ?_, fun _ => ⟨_, hs_isLeft (by omega), fun r4 μ2 h4 => ?_⟩⟩
      · exfalso
        rw [nI_leI (by omega) (by omega)] at h
        omega
      obtain ⟨rfl, h4⟩ := h4
      refine ⟨fun h => skip (fun z => ?_), fun h => ?_⟩
      · rcases h4 with ⟨a, -, -⟩ | ⟨-, a⟩
        · rw [h] at a; exact absurd a (by decide)
        · exact a ⟨z.2.1, z.2.2.1⟩
      obtain ⟨l1, l2⟩ : μ2.1 23 i = -1 ∧ μ2.1 26 i = -1 := by
        rcases h4 with ⟨-, a⟩ | ⟨a, -⟩
        · exact a
        · exact absurd a h
      rw [cI (by omega), (hC.2.1 i hin).2.2.2.2.2.1, b01_iff]
      refine ⟨inI (by omega) (by decide), fun h5 => skip (fun z => h5 z.2.2.2), fun h5 => ?_⟩
      have ci : Cnd μ2 g t i := ⟨hin, l1, l2, h5⟩
      refine ⟨fun h6 => ?_, fun h6 => ?_⟩
      · rw [nI_1]
        refine ih (i + 1) (nI i) (by omega) (Or.inr ⟨i, by omega, rfl, ci, fun s hs hc => ?_⟩)
        rcases hr with ⟨h7, h8⟩ | ⟨h, h7, h8, -, -⟩
        · by_cases e : s = i
          · exact Or.inl e
          · exact absurd hc (h8 s (by omega))
        · rw [h8] at h6; exact absurd h6 (nI_pos (by omega))
      · rcases hr with ⟨h7, h8⟩ | ⟨h, h7, h8, h9, h10⟩
        · rw [h7] at h6; exact absurd (by decide) h6
        rw [h8]
        refine ⟨_, hs_leads hg hin (by omega) (hA i hin) (hA h (by omega)), fun r9 μ7 h11 => ?_⟩
        obtain ⟨rfl, h11⟩ := h11
        have hT : pT g h = pT g i := h9.2.2.2.trans h5.symm
        refine ⟨fun h12 => ?_, fun h12 => ?_⟩
        · rw [nI_1, ← h8]
          refine ih (i + 1) r (by omega) (Or.inr ⟨h, by omega, h8, h9, fun s hs hc => ?_⟩)
          by_cases e : s = i
          · refine Or.inr ?_
            rw [e]
            rcases h11 with ⟨a, -⟩ | ⟨-, a⟩
            · rw [h12] at a; exact absurd a (by decide)
            · refine Or.inr ⟨hT, ?_⟩
              omega
          · exact h10 s (by omega) hc
        · rw [nI_1]
          have hb : gBet g i h := by
            rcases h11 with ⟨-, a⟩ | ⟨a, -⟩
            · refine Or.inr ⟨hT.symm, ?_⟩
              omega
            · exact absurd a h12
          refine ih (i + 1) (nI i) (by omega) (Or.inr ⟨i, by omega, rfl, ci, fun s hs hc => ?_⟩)
          by_cases e : s = i
          · exact Or.inl e
          · rcases h10 s (by omega) hc with a | a
            · rw [a]; exact Or.inr hb
            · exact Or.inr (hb.tr a)
  exact key (pN g) 0 (-1) (by omega) (Or.inl ⟨rfl, fun s hs => absurd hs (by omega)⟩)
