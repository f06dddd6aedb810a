/-! The page as plain numbers, and what the document derives of it. -/
/-- count, codes, x, y, widths, sizes, turned, tags, first letters of the maps, second ones -/
abbrev PgT : Type := Nat × (Nat → Nat) × (Nat → Int) × (Nat → Int) × (Nat → Int) × (Nat → Int) × (Nat → Bool) × (Nat → Int) × (Nat → Int32) × (Nat → Int32)
def pN (g : PgT) : Nat := g.1
def pC (g : PgT) : Nat → Nat := g.2.1
def pX (g : PgT) : Nat → Int := g.2.2.1
def pY (g : PgT) : Nat → Int := g.2.2.2.1
def pW (g : PgT) : Nat → Int := g.2.2.2.2.1
def pZ (g : PgT) : Nat → Int := g.2.2.2.2.2.1
def pT (g : PgT) : Nat → Bool := g.2.2.2.2.2.2.1
def pG (g : PgT) : Nat → Int := g.2.2.2.2.2.2.2.1
def pM (g : PgT) : Nat → Int32 := g.2.2.2.2.2.2.2.2.1
def pO (g : PgT) : Nat → Int32 := g.2.2.2.2.2.2.2.2.2
def PgOk (g : PgT) : Prop := pN g ≤ 200 ∧ ∀ i, i < pN g → pC g i < 256 ∧ (-1000000 ≤ pX g i ∧ pX g i ≤ 1000000) ∧ (-1000000 ≤ pY g i ∧ pY g i ≤ 1000000) ∧ (0 ≤ pW g i ∧ pW g i ≤ 1000000) ∧ (1 ≤ pZ g i ∧ pZ g i ≤ 1000) ∧ (-1 ≤ pG g i ∧ pG g i ≤ 100)
def b01 (b : Bool) : Int32 := if b then 1 else 0
theorem b01_t : b01 true = 1 := rfl
theorem b01_f : b01 false = 0 := rfl
theorem b01_inj {a b : Bool} (h : b01 a = b01 b) : a = b := by
  cases a <;> cases b <;> first | rfl | (exact absurd h (by decide))
theorem b01_0 {a : Bool} : b01 a = 0 ↔ a = false := by cases a <;> simp [b01]
theorem b01_iff {a b : Bool} : b01 a = b01 b ↔ a = b := ⟨b01_inj, fun h => by rw [h]⟩
/-- a memory holds the page in these rows: codes cC, longs cX cY cW, sizes cZ, turned cT, tags cG, maps cM cO, the count in field f -/
def Has (μ : MemT) (g : PgT) (f cC cX cY cW cZ cT cG cM cO : Nat) : Prop := μ.2.2.1 f = nI (pN g) ∧ (∀ i, i < pN g → μ.1 cC i = nI (pC g i) ∧ (μ.2.1 cX i).toInt = pX g i ∧ (μ.2.1 cY i).toInt = pY g i ∧ (μ.2.1 cW i).toInt = pW g i ∧ (μ.1 cZ i).toInt = pZ g i ∧ μ.1 cT i = b01 (pT g i) ∧ (μ.1 cG i).toInt = pG g i) ∧ μ.1 cM = pM g ∧ μ.1 cO = pO g
def HasC (μ : MemT) (g : PgT) : Prop := Has μ g 1 10 11 12 13 14 15 16 17 18
def HasM (μ : MemT) (g : PgT) : Prop := Has μ g 10 45 46 47 48 49 50 51 52 53
theorem HasC.fr {SI SL SF : List Nat} {g' : Bool} {μ μ' : MemT} {g : PgT} (h : HasC μ g) (hf : Fr SI SL SF g' μ μ') (h1 : ∀ k ∈ [10, 14, 15, 16, 17, 18], k ∉ SI) (h2 : ∀ k ∈ [11, 12, 13], k ∉ SL) (h3 : 1 ∉ SF) : HasC μ' g := by
  obtain ⟨a, b, c, d⟩ := h
  have e := fun k hk => hf.1 k (h1 k hk)
  have e2 := fun k hk => hf.2.1 k (h2 k hk)
  refine ⟨(hf.2.2.1 1 h3).trans a, fun i hi => ?_, (e 17 (by decide)).trans c, (e 18 (by decide)).trans d⟩
  rw [e 10 (by decide), e 14 (by decide), e 15 (by decide), e 16 (by decide), e2 11 (by decide), e2 12 (by decide), e2 13 (by decide)]
  exact b i hi
theorem HasM.fr {SI SL SF : List Nat} {g' : Bool} {μ μ' : MemT} {g : PgT} (h : HasM μ g) (hf : Fr SI SL SF g' μ μ') (h1 : ∀ k ∈ [45, 49, 50, 51, 52, 53], k ∉ SI) (h2 : ∀ k ∈ [46, 47, 48], k ∉ SL) (h3 : 10 ∉ SF) : HasM μ' g := by
  obtain ⟨a, b, c, d⟩ := h
  have e := fun k hk => hf.1 k (h1 k hk)
  have e2 := fun k hk => hf.2.1 k (h2 k hk)
  refine ⟨(hf.2.2.1 10 h3).trans a, fun i hi => ?_, (e 52 (by decide)).trans c, (e 53 (by decide)).trans d⟩
  rw [e 45 (by decide), e 49 (by decide), e 50 (by decide), e 51 (by decide), e2 46 (by decide), e2 47 (by decide), e2 48 (by decide)]
  exact b i hi
def gU (g : PgT) (s : Nat) : Int := if pT g s = true then pY g s else pX g s
def gV (g : PgT) (s : Nat) : Int := if pT g s = true then -(pX g s) else pY g s
theorem gU_bd {g : PgT} (hg : PgOk g) {s : Nat} (hs : s < pN g) : -1000000 ≤ gU g s ∧ gU g s ≤ 1000000 := by
  obtain ⟨-, a, b, -⟩ := hg.2 s hs
  unfold gU
  split <;> omega
theorem gV_bd {g : PgT} (hg : PgOk g) {s : Nat} (hs : s < pN g) : -1000000 ≤ gV g s ∧ gV g s ≤ 1000000 := by
  obtain ⟨-, a, b, -⟩ := hg.2 s hs
  unfold gV
  split <;> omega
/-- the first of the four maps that tells the code c; 4 if none does -/
def kdF (m : Nat → Int32) (c : Nat) : Nat := if m c ≠ 0 then 0 else if m (256 + c) ≠ 0 then 1 else if m (512 + c) ≠ 0 then 2 else if m (768 + c) ≠ 0 then 3 else 4
theorem kdF_le (m : Nat → Int32) (c : Nat) : kdF m c ≤ 4 := by
  unfold kdF
  repeat' split
  all_goals omega
theorem kdF_of {m : Nat → Int32} {c k : Nat} (hk : k ≤ 4) (h0 : ∀ j, j < k → m (256 * j + c) = 0) (h1 : k < 4 → m (256 * k + c) ≠ 0) : kdF m c = k := by
  have e0 : 0 < k → m c = 0 := fun h => by have := h0 0 h; simpa using this
  have e1 : 1 < k → m (256 + c) = 0 := fun h => by have := h0 1 h; simpa using this
  have e2 : 2 < k → m (512 + c) = 0 := fun h => by have := h0 2 h; simpa using this
  have e3 : 3 < k → m (768 + c) = 0 := fun h => by have := h0 3 h; simpa using this
  unfold kdF
  match k, hk with
  | 0, _ => rw [if_pos (by have := h1 (by omega); simpa using this)]
  | 1, _ => rw [if_neg (by simp [e0]), if_pos (by have := h1 (by omega); simpa using this)]
  | 2, _ => rw [if_neg (by simp [e0]), if_neg (by simp [e1]), if_pos (by have := h1 (by omega); simpa using this)]
  | 3, _ => rw [if_neg (by simp [e0]), if_neg (by simp [e1]), if_neg (by simp [e2]), if_pos (by have := h1 (by omega); simpa using this)]
  | 4, _ => rw [if_neg (by simp [e0]), if_neg (by simp [e1]), if_neg (by simp [e2]), if_neg (by simp [e3])]
def gL1 (g : PgT) (s : Nat) : Int32 := if kdF (pM g) (pC g s) < 4 then pM g (256 * kdF (pM g) (pC g s) + pC g s) else 65533
def gL2 (g : PgT) (s : Nat) : Int32 := if kdF (pM g) (pC g s) < 4 then pO g (256 * kdF (pM g) (pC g s) + pC g s) else 0
/-- s lies so near to k, and is so like it, that it is its double if k is none -/
def gNr (g : PgT) (s k : Nat) : Prop := gL1 g s = gL1 g k ∧ gL2 g s = gL2 g k ∧ pT g s = pT g k ∧ (4 * (gU g s - gU g k) ≤ pW g k ∧ 4 * (gU g k - gU g s) ≤ pW g k) ∧ (4 * (gV g s - gV g k) ≤ pZ g k ∧ 4 * (gV g k - gV g s) ≤ pZ g k)
def DblAt (g : PgT) (d : Nat → Int32) (s : Nat) (r : Int32) : Prop := (∃ k, k < s ∧ r = nI k ∧ d k = -1 ∧ gNr g s k ∧ ∀ j, j < k → ¬ (d j = -1 ∧ gNr g s j)) ∨ (r = -1 ∧ ∀ j, j < s → ¬ (d j = -1 ∧ gNr g s j))
def DblOk (g : PgT) (m : Nat) (d : Nat → Int32) : Prop := ∀ s, s < m → DblAt g d s (d s)
theorem DblAt.cong {g : PgT} {d d' : Nat → Int32} {s : Nat} {r : Int32} (h : DblAt g d s r) (e : ∀ j, j < s → d' j = d j) : DblAt g d' s r := by
  rcases h with ⟨k, h1, h2, h3, h4, h5⟩ | ⟨h1, h2⟩
  · exact Or.inl ⟨k, h1, h2, by rw [e k h1]; exact h3, h4, fun j hj => by rw [e j (by omega)]; exact h5 j hj⟩
  · exact Or.inr ⟨h1, fun j hj => by rw [e j hj]; exact h2 j hj⟩
theorem DblAt.one {g : PgT} {d : Nat → Int32} {s : Nat} {r r' : Int32} (h : DblAt g d s r) (h' : DblAt g d s r') : r = r' := by
  rcases h with ⟨k, h1, h2, h3, h4, h5⟩ | ⟨h1, h2⟩ <;> rcases h' with ⟨k', g1, g2, g3, g4, g5⟩ | ⟨g1, g2⟩
  · rcases Nat.lt_trichotomy k k' with q | q | q
    · exact absurd ⟨h3, h4⟩ (g5 k q)
    · rw [h2, g2, q]
    · exact absurd ⟨g3, g4⟩ (h5 k' q)
  · exact absurd ⟨h3, h4⟩ (g2 k h1)
  · exact absurd ⟨g3, g4⟩ (h2 k' g1)
  · rw [h1, g1]
theorem DblOk.one {g : PgT} {m : Nat} {d d' : Nat → Int32} (h : DblOk g m d) (h' : DblOk g m d') : ∀ s, s < m → d s = d' s := by
  intro s
  induction s using Nat.strongRecOn with
  | ind s ih => exact fun hs => (h s hs).one ((h' s hs).cong (fun j hj => ih j hj (by omega)))
