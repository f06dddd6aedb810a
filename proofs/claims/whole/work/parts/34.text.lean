/-! The order of reading; the text. -/
def sX (r : Nat → Nat) : Nat → Nat → Nat
  | 0, _ => 0
  | P + 1, s => if r P = s then P else sX r P s
theorem sX_at {r : Nat → Nat} : ∀ {P p : Nat}, (∀ i j, i < P → j < P → r i = r j → i = j) → p < P → sX r P (r p) = p
  | 0, p, _, hp => absurd hp (by omega)
  | P + 1, p, hi, hp => by
    unfold sX
    by_cases e : r P = r p
    · rw [if_pos e]; exact hi P p (by omega) hp e
    · rw [if_neg e]
      have : p ≠ P := fun z => e (by rw [z])
      exact sX_at (fun i j h1 h2 => hi i j (by omega) (by omega)) (by omega)
theorem sX_cg {r r' : Nat → Nat} : ∀ {P : Nat}, (∀ p, p < P → r' p = r p) → ∀ s, sX r' P s = sX r P s
  | 0, _, _ => rfl
  | P + 1, h, s => by
    unfold sX
    rw [h P (by omega), sX_cg (fun p hp => h p (by omega)) s]
def trN (g : PgT) (s : Nat) : Nat := if pG g s < 0 then 101 else (pG g s).toNat
def bkN (g : PgT) (la r : Nat → Nat) (P : Nat) (al : Nat → Nat) (s : Nat) : Nat := al (sgF g la r (sX r P s))
/-- s is read before t -/
def rdB (g : PgT) (la r : Nat → Nat) (P : Nat) (al : Nat → Nat) (s t : Nat) : Prop := trN g s < trN g t ∨ (trN g s = trN g t ∧ (bkN g la r P al s < bkN g la r P al t ∨ (bkN g la r P al s = bkN g la r P al t ∧ gBf g la s t)))
theorem rdB.ir {g : PgT} {la r : Nat → Nat} {P : Nat} {al : Nat → Nat} (a : Nat) : ¬ rdB g la r P al a a := by unfold rdB gBf; omega
theorem rdB.as {g : PgT} {la r : Nat → Nat} {P : Nat} {al : Nat → Nat} (a b : Nat) (h : rdB g la r P al a b) : ¬ rdB g la r P al b a := by unfold rdB gBf at *; omega
theorem rdB.tr {g : PgT} {la r : Nat → Nat} {P : Nat} {al : Nat → Nat} (a b c : Nat) (h : rdB g la r P al a b) (h2 : rdB g la r P al b c) : rdB g la r P al a c := by unfold rdB gBf at *; omega
theorem rdB.tot {g : PgT} {la r : Nat → Nat} {P : Nat} {al : Nat → Nat} (a b : Nat) (h : a ≠ b) : rdB g la r P al a b ∨ rdB g la r P al b a := by unfold rdB gBf; omega
abbrev TxT : Type := List (Int32 × Int32)
def hyp : TxT → Bool
  | [] => false
  | x :: _ => x.1 == 45
def jnF (x : Int32) (T : TxT) : TxT := if ((97 : Int32) ≤ x ∧ x ≤ 122) ∧ hyp T = true then T.tail else (32, -1) :: T
/-- the text, the last letter first, when b is read behind a, before b's own letters -/
def lnkF (g : PgT) (la r : Nat → Nat) (P : Nat) (al : Nat → Nat) (a b : Nat) (T : TxT) : TxT :=
  if sgF g la r (sX r P a) = sgF g la r (sX r P b) ∧ sX r P b = sX r P a + 1 then (if spF g la r (sX r P a) = true then (32, -1) :: T else T)
  else if ¬ sgF g la r (sX r P a) = sgF g la r (sX r P b) ∧ pG g a = pG g b ∧ bkN g la r P al a = bkN g la r P al b then jnF (gL1 g b) T else (10, -1) :: T
def putF (g : PgT) (s : Nat) (T : TxT) : TxT := if gL2 g s = 0 then (gL1 g s, nI s) :: T else (gL2 g s, nI s) :: (gL1 g s, nI s) :: T
def txF (g : PgT) (la r : Nat → Nat) (P : Nat) (al : Nat → Nat) (τ : Nat → Nat) : Nat → TxT
  | 0 => []
  | k + 1 => putF g (τ k) (if k = 0 then [] else lnkF g la r P al (τ (k - 1)) (τ k) (txF g la r P al τ k))
theorem jnF_len (x : Int32) (T : TxT) : (jnF x T).length ≤ T.length + 1 := by
  unfold jnF
  split
  · rw [List.length_tail]; omega
  · exact Nat.le_refl _
theorem lnkF_len (g : PgT) (la r : Nat → Nat) (P : Nat) (al : Nat → Nat) (a b : Nat) (T : TxT) : (lnkF g la r P al a b T).length ≤ T.length + 1 := by
  unfold lnkF
  split
  · split
    · exact Nat.le_refl _
    · omega
  · split
    · exact jnF_len _ _
    · exact Nat.le_refl _
theorem putF_len (g : PgT) (s : Nat) (T : TxT) : T.length < (putF g s T).length ∧ (putF g s T).length ≤ T.length + 2 := by
  unfold putF
  split <;> simp only [List.length_cons] <;> omega
theorem txF_len (g : PgT) (la r : Nat → Nat) (P : Nat) (al : Nat → Nat) (τ : Nat → Nat) : ∀ k, (txF g la r P al τ k).length ≤ 3 * k
  | 0 => Nat.le_refl 0
  | k + 1 => by
    have ih := txF_len g la r P al τ k
    have h1 := putF_len g (τ k) (if k = 0 then [] else lnkF g la r P al (τ (k - 1)) (τ k) (txF g la r P al τ k))
    show (putF g (τ k) (if k = 0 then [] else lnkF g la r P al (τ (k - 1)) (τ k) (txF g la r P al τ k))).length ≤ 3 * (k + 1)
    by_cases c : k = 0
    · rw [if_pos c] at h1 ⊢
      have e : ([] : TxT).length = 0 := rfl
      rw [e] at h1
      omega
    · rw [if_neg c] at h1 ⊢
      have := lnkF_len g la r P al (τ (k - 1)) (τ k) (txF g la r P al τ k)
      omega
theorem txF_pos (g : PgT) (la r : Nat → Nat) (P : Nat) (al : Nat → Nat) (τ : Nat → Nat) (k : Nat) : 0 < (txF g la r P al τ (k + 1)).length := by
  have h1 := putF_len g (τ k) (if k = 0 then [] else lnkF g la r P al (τ (k - 1)) (τ k) (txF g la r P al τ k))
  show 0 < (putF g (τ k) (if k = 0 then [] else lnkF g la r P al (τ (k - 1)) (τ k) (txF g la r P al τ k))).length
  omega
theorem txF_cg {g : PgT} {la r : Nat → Nat} {P : Nat} {al : Nat → Nat} {τ τ' : Nat → Nat} : ∀ k, (∀ i, i < k → τ' i = τ i) → txF g la r P al τ' k = txF g la r P al τ k
  | 0, _ => rfl
  | k + 1, h => by
    show putF g (τ' k) (if k = 0 then [] else lnkF g la r P al (τ' (k - 1)) (τ' k) (txF g la r P al τ' k)) = putF g (τ k) (if k = 0 then [] else lnkF g la r P al (τ (k - 1)) (τ k) (txF g la r P al τ k))
    rw [h k (by omega), h (k - 1) (by omega), txF_cg k (fun i hi => h i (by omega))]
/-- two rows hold the text -/
def TxR (L S : Nat → Int32) : TxT → Prop
  | [] => True
  | x :: T => L T.length = x.1 ∧ S T.length = x.2 ∧ TxR L S T
theorem TxR.cg {L S L' S' : Nat → Int32} : ∀ {T : TxT}, TxR L S T → (∀ i, i < T.length → L' i = L i ∧ S' i = S i) → TxR L' S' T
  | [], _, _ => trivial
  | x :: T, h, e => by
    have e0 := e T.length (by simp)
    exact ⟨e0.1.trans h.1, e0.2.trans h.2.1, TxR.cg h.2.2 (fun i hi => e i (by simp only [List.length_cons]; omega))⟩
theorem TxR.push {L S : Nat → Int32} {T : TxT} (h : TxR L S T) (a b : Int32) : TxR (upd L T.length a) (upd S T.length b) ((a, b) :: T) := ⟨udE _ _ _, udE _ _ _, h.cg (fun i hi => ⟨udN _ _ (by omega), udN _ _ (by omega)⟩)⟩
theorem TxR.tl {L S : Nat → Int32} : ∀ {T : TxT}, TxR L S T → TxR L S T.tail
  | [], _ => trivial
  | _ :: _, h => h.2.2
theorem TxR.eq {L S L' S' : Nat → Int32} : ∀ {T : TxT}, TxR L S T → TxR L' S' T → ∀ i, i < T.length → L i = L' i ∧ S i = S' i
  | [], _, _, i, hi => absurd hi (by simp)
  | x :: T, h, h', i, hi => by
    by_cases e : i = T.length
    · rw [e]; exact ⟨h.1.trans h'.1.symm, h.2.1.trans h'.2.1.symm⟩
    · exact TxR.eq h.2.2 h'.2.2 i (by simp only [List.length_cons] at hi; omega)
theorem TxR.hyp {L S : Nat → Int32} : ∀ {T : TxT}, TxR L S T → 0 < T.length → (hyp T = true ↔ L (T.length - 1) = 45)
  | [], _, h => absurd h (by simp)
  | x :: T, h, _ => by
    have e : (x :: T).length - 1 = T.length := by simp
    rw [e, h.1]
    show (x.1 == 45) = true ↔ x.1 = 45
    exact beq_iff_eq
-- the class
def ScA (μ : MemT) (g : PgT) (la r : Nat → Nat) (P : Nat) (al : Nat → Nat) : Prop := CtA μ g ∧ P ≤ 200 ∧ μ.2.2.1 3 = nI P ∧ (∀ p, p < P → r p < pN g ∧ μ.1 24 p = nI (r p) ∧ μ.1 25 (r p) = nI p ∧ μ.1 27 (r p) = nI (sgF g la r p) ∧ μ.1 28 (r p) = b01 (decide (p + 1 < P) && spF g la r p) ∧ μ.1 35 (sgF g la r p) = nI (al (sgF g la r p)) ∧ al (sgF g la r p) < 200) ∧ ∀ i j, i < P → j < P → r i = r j → i = j
theorem ScA.fr {SI SL SF : List Nat} {g' : Bool} {μ μ' : MemT} {g : PgT} {la r : Nat → Nat} {P : Nat} {al : Nat → Nat} (h : ScA μ g la r P al) (hf : Fr SI SL SF g' μ μ') (h1 : ∀ k ∈ [10, 14, 15, 16, 17, 18, 21, 22, 24, 25, 27, 28, 35], k ∉ SI) (h2 : ∀ k ∈ [11, 12, 13, 19, 20], k ∉ SL) (h3 : ∀ k ∈ [1, 3], k ∉ SF) : ScA μ' g la r P al := by
  obtain ⟨a, b, c, d, e⟩ := h
  refine ⟨a.fr hf (fun k hk => h1 k ?_) h2 (h3 1 (by decide)), b, (hf.2.2.1 3 (h3 3 (by decide))).trans c, ?_, e⟩
  · simp only [List.mem_cons, List.not_mem_nil, or_false] at hk ⊢
    omega
  · rw [hf.1 24 (h1 24 (by decide)), hf.1 25 (h1 25 (by decide)), hf.1 27 (h1 27 (by decide)), hf.1 28 (h1 28 (by decide)), hf.1 35 (h1 35 (by decide))]
    exact d
theorem nI_0le {i : Nat} (h : i < 2147483648) : (0 : Int32) ≤ nI i := by
  rw [le32, tI h]
  show (0 : Int) ≤ (i : Int)
  omega
theorem hs_blockOfSign {g : PgT} {μ : MemT} {la r : Nat → Nat} {P : Nat} {al : Nat → Nat} (hS : ScA μ g la r P al) {p : Nat} (hp : p < P) : sp_X0_blockOfSign (nI (r p)) μ (fun v μ' => μ' = μ ∧ v = nI (al (sgF g la r p))) := by
  have hn := hS.1.1.1
  obtain ⟨a1, a2, a3, a4, a5, a6, a7⟩ := hS.2.2.2.1 p hp
  have hq := sgF_le g la r p
  have hP := hS.2.1
  unfold sp_X0_blockOfSign t_X0_blockOfSign_0
  rw [cI (by omega), a4, cI (by omega), a6]
  exact ⟨inI (by omega) (by decide), fun _ => ⟨inI (by omega) (by decide), rfl, rfl⟩, fun h => absurd (nI_0le (by omega)) h⟩
theorem hs_areOfOne {g : PgT} {μ : MemT} {la r : Nat → Nat} {P : Nat} {al : Nat → Nat} (hS : ScA μ g la r P al) {p q : Nat} (hp : p < P) (hq : q < P) : sp_X0_areOfOne (nI (r p)) (nI (r q)) μ (fun v μ' => μ' = μ ∧ ((v = 1 ∧ al (sgF g la r p) = al (sgF g la r q)) ∨ (v = 0 ∧ ¬ al (sgF g la r p) = al (sgF g la r q)))) := by
  have b1 := (hS.2.2.2.1 p hp).2.2.2.2.2.2
  have b2 := (hS.2.2.2.1 q hq).2.2.2.2.2.2
  unfold sp_X0_areOfOne t_X0_areOfOne_0
  refine ⟨_, hs_blockOfSign hS hp, fun v μ1 h1 => ?_⟩
  obtain ⟨rfl, rfl⟩ := h1
  refine ⟨_, hs_blockOfSign hS hq, fun v μ2 h2 => ?_⟩
  obtain ⟨rfl, rfl⟩ := h2
  refine ⟨fun h => ⟨rfl, Or.inr ⟨rfl, fun e => h (by rw [e])⟩⟩, fun h => ⟨rfl, Or.inl ⟨rfl, nI_inj (by omega) (by omega) h⟩⟩⟩
theorem trN_le {g : PgT} (hg : PgOk g) {s : Nat} (hs : s < pN g) : trN g s ≤ 101 := by
  have := (hg.2 s hs).2.2.2.2.2
  unfold trN
  split <;> omega
theorem nI_add' (a b : Nat) : nI a + nI b = nI (a + b) := (Int32.ofNat_add a b).symm
theorem nI_mul' (a b : Nat) : nI a * nI b = nI (a * b) := (Int32.ofNat_mul a b).symm
theorem hs_rank {g : PgT} {μ : MemT} (hg : PgOk g) {s b p : Nat} (hs : s < pN g) {x : Int32} (hx : x.toInt = pG g s) : sp_X4_rank x (nI b) (nI p) μ (fun v μ' => μ' = μ ∧ v = nI ((trN g s * 200 + b) * 200 + p)) := by
  have hG := (hg.2 s hs).2.2.2.2.2
  have key : ∀ y, y = nI (trN g s) → t_X4_rank_10 (fun v μ' => μ' = μ ∧ v = nI ((trN g s * 200 + b) * 200 + p)) x (nI b) (nI p) y μ := fun y hy => by
    unfold t_X4_rank_10
    refine ⟨rfl, ?_⟩
    rw [hy, lit32, nI_mul', nI_add', nI_mul', nI_add']
  unfold sp_X4_rank t_X4_rank_0
  refine ⟨fun h => key _ ?_, fun h => key _ ?_⟩
  · rw [le32, hx] at h
    have h : (0 : Int) ≤ pG g s := h
    unfold trN
    rw [if_neg (by omega), eq32, hx, tI (by omega)]
    omega
  · rw [le32, hx] at h
    have h : ¬ (0 : Int) ≤ pG g s := h
    unfold trN
    rw [if_pos (by omega)]
    rfl
