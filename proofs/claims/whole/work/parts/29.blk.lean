/-! Parting: what a cut is; how groups follow from each other. -/
def Far (m : Nat → Prop) (S E : Nat → Int) (N : Nat) (x f : Int) : Prop := (∃ k, k < N ∧ m k ∧ S k < x ∧ E k = f) ∧ ∀ k, k < N → m k → S k < x → E k ≤ f
theorem Far.one {m : Nat → Prop} {S E : Nat → Int} {N : Nat} {x f f' : Int} (h : Far m S E N x f) (h' : Far m S E N x f') : f = f' := by
  obtain ⟨⟨k, a1, a2, a3, a4⟩, a5⟩ := h
  obtain ⟨⟨k', b1, b2, b3, b4⟩, b5⟩ := h'
  have := a5 k' b1 b2 b3
  have := b5 k a1 a2 a3
  omega
def GpA (m : Nat → Prop) (S E : Nat → Int) (N q : Nat) (w : Int) : Prop := q < N ∧ m q ∧ ∃ f, Far m S E N (S q) f ∧ w = S q - f
def CtA2 (m : Nat → Prop) (S E : Nat → Int) (N : Nat) (lam c : Int) : Prop := ∃ q w, GpA m S E N q w ∧ S q = c ∧ lam ≤ w ∧ ∀ q' w', GpA m S E N q' w' → w' < w ∨ (w' = w ∧ c ≤ S q')
def NoCt (m : Nat → Prop) (S E : Nat → Int) (N : Nat) (lam : Int) : Prop := ∀ q w, GpA m S E N q w → w < lam
theorem CtA2.one {m : Nat → Prop} {S E : Nat → Int} {N : Nat} {lam c c' : Int} (h : CtA2 m S E N lam c) (h' : CtA2 m S E N lam c') : c = c' := by
  obtain ⟨q, w, a1, a2, a3, a4⟩ := h
  obtain ⟨q', w', b1, b2, b3, b4⟩ := h'
  have := a4 q' w' b1
  have := b4 q w a1
  omega
theorem CtA2.no {m : Nat → Prop} {S E : Nat → Int} {N : Nat} {lam c : Int} (h : CtA2 m S E N lam c) : ¬ NoCt m S E N lam := by
  obtain ⟨q, w, a1, a2, a3, a4⟩ := h
  intro h
  have := h q w a1
  omega
/-- there are some before the cut, and some behind it -/
theorem CtA2.two {m : Nat → Prop} {S E : Nat → Int} {N : Nat} {lam c : Int} (h : CtA2 m S E N lam c) : (∃ q, q < N ∧ m q ∧ S q < c) ∧ ∃ q, q < N ∧ m q ∧ c ≤ S q := by
  obtain ⟨q, w, ⟨a1, a2, f, ⟨⟨k, k1, k2, k3, -⟩, -⟩, -⟩, a3, -, -⟩ := h
  exact ⟨⟨k, k1, k2, by omega⟩, ⟨q, a1, a2, by omega⟩⟩
theorem GpA.cg {m m' : Nat → Prop} {S S' E E' : Nat → Int} {N q : Nat} {w : Int} (hm : ∀ k, k < N → (m k ↔ m' k)) (hS : ∀ k, k < N → S' k = S k) (hE : ∀ k, k < N → E' k = E k) (h : GpA m S E N q w) : GpA m' S' E' N q w := by
  obtain ⟨a1, a2, f, ⟨⟨k, k1, k2, k3, k4⟩, k5⟩, a3⟩ := h
  refine ⟨a1, (hm q a1).mp a2, f, ⟨⟨k, k1, (hm k k1).mp k2, by rw [hS k k1, hS q a1]; exact k3, by rw [hE k k1]; exact k4⟩, fun j j1 j2 j3 => ?_⟩, by rw [hS q a1]; exact a3⟩
  rw [hS j j1, hS q a1] at j3
  rw [hE j j1]
  exact k5 j j1 ((hm j j1).mpr j2) j3
theorem CtA2.cg {m m' : Nat → Prop} {S S' E E' : Nat → Int} {N : Nat} {lam c : Int} (hm : ∀ k, k < N → (m k ↔ m' k)) (hS : ∀ k, k < N → S' k = S k) (hE : ∀ k, k < N → E' k = E k) (h : CtA2 m S E N lam c) : CtA2 m' S' E' N lam c := by
  obtain ⟨q, w, a1, a2, a3, a4⟩ := h
  refine ⟨q, w, a1.cg hm hS hE, by rw [hS q a1.1]; exact a2, a3, fun q' w' h' => ?_⟩
  have := a4 q' w' (h'.cg (fun k hk => (hm k hk).symm) (fun k hk => (hS k hk).symm) (fun k hk => (hE k hk).symm))
  rw [hS q' h'.1]
  exact this
theorem NoCt.cg {m m' : Nat → Prop} {S S' E E' : Nat → Int} {N : Nat} {lam : Int} (hm : ∀ k, k < N → (m k ↔ m' k)) (hS : ∀ k, k < N → S' k = S k) (hE : ∀ k, k < N → E' k = E k) (h : NoCt m S E N lam) : NoCt m' S' E' N lam := fun q w h' => h q w (h'.cg (fun k hk => (hm k hk).symm) (fun k hk => (hS k hk).symm) (fun k hk => (hE k hk).symm))
/-- the greatest size of a group -/
def Mst (m : Nat → Prop) (Z : Nat → Int) (N : Nat) (z : Int) : Prop := (∃ q, q < N ∧ m q ∧ Z q = z) ∧ ∀ q, q < N → m q → Z q ≤ z
theorem Mst.one {m : Nat → Prop} {Z : Nat → Int} {N : Nat} {z z' : Int} (h : Mst m Z N z) (h' : Mst m Z N z') : z = z' := by
  obtain ⟨⟨q, a1, a2, a3⟩, a4⟩ := h
  obtain ⟨⟨q', b1, b2, b3⟩, b4⟩ := h'
  have := a4 q' b1 b2
  have := b4 q a1 a2
  omega
def mvA (al : Nat → Nat) (b : Nat) (S : Nat → Int) (c : Int) : Nat → Nat := fun q => if b < al q ∨ (al q = b ∧ c ≤ S q) then al q + 1 else al q
/-- the segments: how many, their starts and ends (from left to right, from top to bottom), sizes -/
abbrev SgT : Type := Nat × (Nat → Int) × (Nat → Int) × (Nat → Int) × (Nat → Int) × (Nat → Int)
def BStp (x : SgT) (al : Nat → Nat) (b : Nat) (al' : Nat → Nat) (b' : Nat) : Prop := ∃ z, Mst (fun q => al q = b) x.2.2.2.2.2 x.1 z ∧
  ((∃ c, CtA2 (fun q => al q = b) x.2.1 x.2.2.1 x.1 (2 * z) c ∧ al' = mvA al b x.2.1 c ∧ b' = b) ∨
   (NoCt (fun q => al q = b) x.2.1 x.2.2.1 x.1 (2 * z) ∧ ∃ c, CtA2 (fun q => al q = b) x.2.2.2.1 x.2.2.2.2.1 x.1 z c ∧ al' = mvA al b x.2.2.2.1 c ∧ b' = b) ∨
   (NoCt (fun q => al q = b) x.2.1 x.2.2.1 x.1 (2 * z) ∧ NoCt (fun q => al q = b) x.2.2.2.1 x.2.2.2.2.1 x.1 z ∧ al' = al ∧ b' = b + 1))
theorem BStp.one {x : SgT} {al al1 al2 : Nat → Nat} {b b1 b2 : Nat} (h : BStp x al b al1 b1) (h' : BStp x al b al2 b2) : al1 = al2 ∧ b1 = b2 := by
  obtain ⟨z, hz, h⟩ := h
  obtain ⟨z', hz', h'⟩ := h'
  have e := hz.one hz'
  subst e
  rcases h with ⟨c, a1, a2, a3⟩ | ⟨a0, c, a1, a2, a3⟩ | ⟨a0, a1, a2, a3⟩ <;> rcases h' with ⟨c', d1, d2, d3⟩ | ⟨d0, c', d1, d2, d3⟩ | ⟨d0, d1, d2, d3⟩
  · rw [a2, d2, a3, d3, a1.one d1]; exact ⟨rfl, rfl⟩
  · exact absurd d0 a1.no
  · exact absurd d0 a1.no
  · exact absurd a0 d1.no
  · rw [a2, d2, a3, d3, a1.one d1]; exact ⟨rfl, rfl⟩
  · exact absurd d1 a1.no
  · exact absurd a0 d1.no
  · exact absurd a1 d1.no
  · rw [a2, d2, a3, d3]; exact ⟨rfl, rfl⟩
def BRch (x : SgT) : Nat → (Nat → Nat) → Nat → (Nat → Nat) → Nat → Prop
  | 0, al, b, al', b' => al = al' ∧ b = b'
  | n + 1, al, b, al', b' => ∃ al1 b1, BStp x al b al1 b1 ∧ BRch x n al1 b1 al' b'
theorem BRch.snoc {x : SgT} : ∀ {n : Nat} {al al' al2 : Nat → Nat} {b b' b2 : Nat}, BRch x n al b al' b' → BStp x al' b' al2 b2 → BRch x (n + 1) al b al2 b2
  | 0, al, al', al2, b, b', b2, h, hs => by
    obtain ⟨rfl, rfl⟩ := h
    exact ⟨al2, b2, hs, rfl, rfl⟩
  | n + 1, al, al', al2, b, b', b2, h, hs => by
    obtain ⟨al1, b1, h1, h2⟩ := h
    exact ⟨al1, b1, h1, BRch.snoc h2 hs⟩
theorem BRch.one {x : SgT} : ∀ {n n' : Nat} {al al1 al2 : Nat → Nat} {b b1 b2 : Nat}, BRch x n al b al1 b1 → BRch x n' al b al2 b2 → (∀ q, q < x.1 → al1 q < b1) → (∀ q, q < x.1 → al2 q < b2) → al1 = al2 ∧ b1 = b2
  | 0, 0, al, al1, al2, b, b1, b2, h, h', _, _ => by
    obtain ⟨rfl, rfl⟩ := h
    exact h'
  | 0, n' + 1, al, al1, al2, b, b1, b2, h, h', t, _ => by
    obtain ⟨rfl, rfl⟩ := h
    obtain ⟨al3, b3, ⟨z, ⟨⟨q, q1, q2, -⟩, -⟩, -⟩, -⟩ := h'
    have := t q q1
    have q2 : al q = b := q2
    omega
  | n + 1, 0, al, al1, al2, b, b1, b2, h, h', _, t => by
    obtain ⟨rfl, rfl⟩ := h'
    obtain ⟨al3, b3, ⟨z, ⟨⟨q, q1, q2, -⟩, -⟩, -⟩, -⟩ := h
    have := t q q1
    have q2 : al q = b := q2
    omega
  | n + 1, n' + 1, al, al1, al2, b, b1, b2, h, h', t, t' => by
    obtain ⟨al3, b3, s1, h⟩ := h
    obtain ⟨al4, b4, s2, h'⟩ := h'
    obtain ⟨rfl, rfl⟩ := s1.one s2
    exact BRch.one h h' t t'
def iniA (N : Nat) (tn : Nat → Bool) : Nat → Nat := fun q => if tn q = true ∧ ((List.range N).any (fun k => !(tn k))) = true then 1 else 0
