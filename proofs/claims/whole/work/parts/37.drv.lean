/-! All that follows from a page; the class finds it. -/
def sgX (g : PgT) (la r : Nat → Nat) (P : Nat) : SgT := (sgC g la r P, (agF g la r P).1, (agF g la r P).2.1, fun q => -((agF g la r P).2.2.1 q), fun q => -((agF g la r P).2.2.2.1 q), (agF g la r P).2.2.2.2.1)
def Drv (g : PgT) (d : Nat → Int32) (c : Nat) (la r : Nat → Nat) (P n : Nat) (al : Nat → Nat) (b : Nat) (τ : Nat → Nat) : Prop :=
  DblOk g (pN g) d ∧ (LnSt g (Lv g d) c la ∧ ∀ s, Lv g d s → la s < c) ∧ Enm (Lv g d) (gBf g la) r P ∧ (BRch (sgX g la r P) n (iniA (sgC g la r P) (agF g la r P).2.2.2.2.2) 0 al b ∧ ∀ q, q < sgC g la r P → al q < b) ∧ Enm (Lv g d) (rdB g la r P al) τ P ∧ (∀ s, ¬ Lv g d s → la s = 0) ∧ ∀ p, P ≤ p → r p = 0
theorem Lv_cg {g : PgT} {d d' : Nat → Int32} (e : ∀ s, s < pN g → d s = d' s) : Lv g d = Lv g d' := by
  funext s
  refine propext ⟨fun h => ⟨h.1, ?_⟩, fun h => ⟨h.1, ?_⟩⟩
  · rw [← e s h.1]; exact h.2
  · rw [e s h.1]; exact h.2
theorem la_one {g : PgT} {lv : Nat → Prop} {c c' : Nat} {la la' : Nat → Nat} (H : LnSt g lv c la ∧ ∀ s, lv s → la s < c) (H' : LnSt g lv c' la' ∧ ∀ s, lv s → la' s < c') (z : ∀ s, ¬ lv s → la s = 0) (z' : ∀ s, ¬ lv s → la' s = 0) : la = la' := by
  funext s
  by_cases q : lv s
  · exact H.1.one H'.1 H.2 H'.2 s q
  · rw [z s q, z' s q]
theorem r_one {S : Nat → Prop} {bf : Nat → Nat → Prop} {r r' : Nat → Nat} {P P' : Nat} (hir : ∀ a, ¬ bf a a) (has : ∀ a b, bf a b → ¬ bf b a) (h : Enm S bf r P) (h' : Enm S bf r' P') (z : ∀ p, P ≤ p → r p = 0) (z' : ∀ p, P' ≤ p → r' p = 0) : P = P' ∧ r = r' := by
  obtain ⟨e1, e2⟩ := h.one hir has h'
  refine ⟨e1, ?_⟩
  funext p
  by_cases q : p < P
  · exact (e2 p q).symm
  · rw [z p (by omega), z' p (by omega)]
theorem Drv.one {g : PgT} {d d' : Nat → Int32} {c c' : Nat} {la la' r r' : Nat → Nat} {P P' n n' : Nat} {al al' : Nat → Nat} {b b' : Nat} {τ τ' : Nat → Nat} (h : Drv g d c la r P n al b τ) (h' : Drv g d' c' la' r' P' n' al' b' τ') : (∀ s, s < pN g → d s = d' s) ∧ la = la' ∧ r = r' ∧ P = P' ∧ al = al' ∧ ∀ i, i < P → τ' i = τ i := by
  obtain ⟨a1, a2, a3, a4, a5, a6, a7⟩ := h
  obtain ⟨b1, b2, b3, b4, b5, b6, b7⟩ := h'
  have e := a1.one b1
  rw [← Lv_cg e] at b2 b3 b5 b6
  have el := la_one a2 b2 a6 b6
  subst el
  obtain ⟨eP, er⟩ := r_one gBf.ir gBf.as a3 b3 a7 b7
  subst eP
  subst er
  obtain ⟨ea, eb⟩ := BRch.one a4.1 b4.1 a4.2 b4.2
  subst ea
  exact ⟨e, rfl, rfl, rfl, rfl, (a5.one rdB.ir rdB.as b5).2⟩
def nrL (g : PgT) (d : Nat → Int32) (la : Nat → Nat) : Nat → Nat := fun s => if s < pN g ∧ d s = -1 then la s else 0
def nrR (P : Nat) (r : Nat → Nat) : Nat → Nat := fun p => if p < P then r p else 0
theorem nrL_at {g : PgT} {d : Nat → Int32} {la : Nat → Nat} {s : Nat} (h : Lv g d s) : nrL g d la s = la s := by
  unfold nrL
  exact if_pos h
theorem nrR_at {P p : Nat} {r : Nat → Nat} (h : p < P) : nrR P r p = r p := by
  unfold nrR
  rw [if_pos h]
theorem LnSt.nrm {g : PgT} {d : Nat → Int32} {c : Nat} {la : Nat → Nat} (H : LnSt g (Lv g d) c la) : LnSt g (Lv g d) c (nrL g d la) := by
  refine ⟨fun s hs => by rw [nrL_at hs]; exact H.1 s hs, fun j hj => ?_⟩
  obtain ⟨h, a1, a2, a3, a4⟩ := H.2 j hj
  exact ⟨h, a1, by rw [nrL_at a1]; exact a2, fun s hs => by rw [nrL_at hs]; exact a3 s hs, fun s hs => by rw [nrL_at hs]; exact a4 s hs⟩
theorem LnC.nrm {μ : MemT} {g : PgT} {c : Nat} {la r : Nat → Nat} {P : Nat} (h : LnC μ g c la r P) : LnC μ g c (nrL g (μ.1 23) la) (nrR P r) P := by
  obtain ⟨a1, a2, a3, a4, a5, a6⟩ := h
  refine ⟨a1.nrm, fun s hs => ?_, a3.cg (fun s => ⟨fun q => ⟨q.1, by rw [nrL_at q.1]; exact q.2⟩, fun q => ⟨q.1, by have := q.2; rw [nrL_at q.1] at this; exact this⟩⟩) (fun s t hs ht q => ?_) (fun p hp => nrR_at hp), fun p hp => by rw [nrR_at hp]; exact a4 p hp, a5, a6⟩
  · rcases a2 s hs with ⟨q1, q2, q3⟩ | ⟨q1, q2⟩
    · exact Or.inl ⟨q1, by rw [nrL_at q1]; exact q2, by rw [nrL_at q1]; exact q3⟩
    · exact Or.inr ⟨fun z => q1 ⟨z.1, by have := z.2; rw [nrL_at z.1] at this; exact this⟩, q2⟩
  · unfold gBf at q ⊢
    rw [nrL_at hs.1, nrL_at ht.1]
    exact q
/-- what can be seen of a page's rows: doubles, lines, blocks, spaces, the text -/
def Ob (g : PgT) (tw ln bk sp : Nat → Int32) (z : Int32) (L S : Nat → Int32) (d : Nat → Int32) (la r : Nat → Nat) (P : Nat) (al τ : Nat → Nat) : Prop :=
  (∀ s, s < pN g → tw s = d s ∧ ln s = (if d s = -1 then nI (la s) else -1) ∧ bk s = (if d s = -1 then nI (bkN g la r P al s) else -1) ∧ sp s = (if d s = -1 then b01 (decide (sX r P s + 1 < P) && spF g la r (sX r P s)) else 0)) ∧ z = nI (txF g la r P al τ P).length ∧ TxR L S (txF g la r P al τ P)
/-- two that show the same page show the same -/
theorem Ob.one {g : PgT} {tw ln bk sp tw' ln' bk' sp' : Nat → Int32} {z z' : Int32} {L S L' S' : Nat → Int32} {d d' : Nat → Int32} {c c' : Nat} {la la' r r' : Nat → Nat} {P P' n n' : Nat} {al al' : Nat → Nat} {b b' : Nat} {τ τ' : Nat → Nat} (hg : PgOk g) (h : Drv g d c la r P n al b τ) (h' : Drv g d' c' la' r' P' n' al' b' τ') (o : Ob g tw ln bk sp z L S d la r P al τ) (o' : Ob g tw' ln' bk' sp' z' L' S' d' la' r' P' al' τ') :
    (∀ s, s < pN g → tw s = tw' s ∧ ln s = ln' s ∧ bk s = bk' s ∧ sp s = sp' s) ∧ ∃ m, m ≤ 600 ∧ z = nI m ∧ z' = nI m ∧ ∀ i, i < m → L i = L' i ∧ S i = S' i := by
  obtain ⟨e1, rfl, rfl, rfl, rfl, e2⟩ := h.one h'
  refine ⟨fun s hs => ?_, (txF g la r P al τ P).length, ?_, o.2.1, ?_, ?_⟩
  · obtain ⟨q1, q2, q3, q4⟩ := o.1 s hs
    obtain ⟨p1, p2, p3, p4⟩ := o'.1 s hs
    rw [q1, q2, q3, q4, p1, p2, p3, p4, e1 s hs]
    exact ⟨rfl, rfl, rfl, rfl⟩
  · have := txF_len g la r P al τ P
    have hP := h.2.2.1.len gBf.ir (fun s hs => hs.1)
    have h1 := hg.1
    omega
  · rw [o'.2.1, txF_cg P e2]
  · have h2 := o'.2.2
    rw [txF_cg P e2] at h2
    exact o.2.2.eq h2
/-- the sources of a text's letters -/
theorem tx_src {g : PgT} {la r : Nat → Nat} {P : Nat} {al τ : Nat → Nat} {m : Nat} : ∀ k, (∀ i, i < k → τ i < m) → ∀ x ∈ txF g la r P al τ k, x.2 = -1 ∨ ∃ s, s < m ∧ x.2 = nI s := by
  have jn : ∀ y (T : TxT), (∀ x ∈ T, x.2 = -1 ∨ ∃ s, s < m ∧ x.2 = nI s) → ∀ x ∈ jnF y T, x.2 = -1 ∨ ∃ s, s < m ∧ x.2 = nI s := by
    intro y T hT x hx
    unfold jnF at hx
    split at hx
    · exact hT x (List.mem_of_mem_tail hx)
    · rcases List.mem_cons.mp hx with e | e
      · rw [e]; exact Or.inl rfl
      · exact hT x e
  have cn : ∀ (y : Int32 × Int32) (T : TxT), (y.2 = -1 ∨ ∃ s, s < m ∧ y.2 = nI s) → (∀ x ∈ T, x.2 = -1 ∨ ∃ s, s < m ∧ x.2 = nI s) → ∀ x ∈ y :: T, x.2 = -1 ∨ ∃ s, s < m ∧ x.2 = nI s := by
    intro y T hy hT x hx
    rcases List.mem_cons.mp hx with e | e
    · rw [e]; exact hy
    · exact hT x e
  have lk : ∀ a b (T : TxT), (∀ x ∈ T, x.2 = -1 ∨ ∃ s, s < m ∧ x.2 = nI s) → ∀ x ∈ lnkF g la r P al a b T, x.2 = -1 ∨ ∃ s, s < m ∧ x.2 = nI s := by
    intro a b T hT
    unfold lnkF
    split
    · split
      · exact cn _ _ (Or.inl rfl) hT
      · exact hT
    · split
      · exact jn _ _ hT
      · exact cn _ _ (Or.inl rfl) hT
  intro k
  induction k with
  | zero => intro _ x hx; exact absurd hx (by simp [txF])
  | succ k ih =>
    intro hk
    have ih := ih (fun i hi => hk i (by omega))
    have hb : ∀ x ∈ (if k = 0 then [] else lnkF g la r P al (τ (k - 1)) (τ k) (txF g la r P al τ k)), x.2 = -1 ∨ ∃ s, s < m ∧ x.2 = nI s := by
      split
      · intro x hx; exact absurd hx (by simp)
      · exact lk _ _ _ ih
    have ht : ∃ s, s < m ∧ nI (τ k) = nI s := ⟨τ k, hk k (by omega), rfl⟩
    show ∀ x ∈ putF g (τ k) (if k = 0 then [] else lnkF g la r P al (τ (k - 1)) (τ k) (txF g la r P al τ k)), x.2 = -1 ∨ ∃ s, s < m ∧ x.2 = nI s
    unfold putF
    split
    · exact cn _ _ (Or.inr ht) hb
    · exact cn _ _ (Or.inr ht) (cn _ _ (Or.inr ht) hb)
theorem TxR.src {L S : Nat → Int32} {Q : Int32 → Prop} : ∀ {T : TxT}, TxR L S T → (∀ x ∈ T, Q x.2) → ∀ i, i < T.length → Q (S i)
  | [], _, _, i, hi => absurd hi (by simp)
  | x :: T, h, hq, i, hi => by
    by_cases e : i = T.length
    · rw [e, h.2.1]; exact hq x (by simp)
    · exact TxR.src h.2.2 (fun y hy => hq y (List.mem_cons_of_mem _ hy)) i (by simp only [List.length_cons] at hi; omega)
/-- what the class has found of the page -/
def bkC (μ : MemT) : Nat → Int32 := fun s => if 0 ≤ μ.1 27 s then μ.1 35 (μ.1 27 s).toNatClampNeg else -1
def DvC (μ : MemT) (g : PgT) : Prop := ∃ d c la r P n al b τ, Drv g d c la r P n al b τ ∧ Ob g (μ.1 23) (μ.1 26) (bkC μ) (μ.1 28) (μ.2.2.1 6) (μ.1 39) (μ.1 40) d la r P al τ ∧ (∀ s, s < pN g → μ.1 27 s = -1 ∨ ∃ q, q < 200 ∧ μ.1 27 s = nI q) ∧ ∀ i, i < (txF g la r P al τ P).length → μ.1 40 i = -1 ∨ ∃ s, s < pN g ∧ μ.1 40 i = nI s
set_option maxHeartbeats 4000000 in
theorem hs_refresh {g : PgT} {μ : MemT} (hg : PgOk g) (hC : HasC μ g) (hfr : ¬ μ.2.2.1 0 = 0 → DvC μ g) : sp_X8_refresh μ (fun μ' => Fr [21, 22, 23, 24, 25, 26, 27, 28, 29, 34, 35, 36, 37, 38, 39, 40, 41, 42] [19, 20, 30, 31, 32, 33] [0, 2, 3, 4, 5, 6] false μ μ' ∧ ¬ μ'.2.2.1 0 = 0 ∧ DvC μ' g) := by
  have hn := hg.1
  unfold sp_X8_refresh t_X8_refresh_0
  refine ⟨fun _ => ?_, fun h => ⟨Fr.rf μ, h, hfr h⟩⟩
  refine ⟨_, hs_settle hg hC, fun μ2 h2 => ?_⟩
  obtain ⟨f2, A2, D2⟩ := h2
  have hC2 : HasC μ2 g := hC.fr f2 (by decide) (by decide) (by decide)
  refine ⟨_, hs_gather hg hC2 A2, fun μ5 h5 => ?_⟩
  obtain ⟨f5, c, la', r', P, L5', al5', s5'⟩ := h5
  have e23 : μ5.1 23 = μ2.1 23 := f5.1 23 (by decide)
  have L5 := L5'.nrm
  have al5 : ∀ s, Lv g (μ5.1 23) s → nrL g (μ5.1 23) la' s < c := fun s hs => by rw [nrL_at hs]; rw [e23] at hs; exact al5' s hs
  have s5 : ∀ p, p < P → μ5.1 25 (nrR P r' p) = nI p := fun p hp => by rw [nrR_at hp]; exact s5' p hp
  have zl : ∀ s, ¬ Lv g (μ5.1 23) s → nrL g (μ5.1 23) la' s = 0 := fun s hs => by unfold nrL; exact if_neg hs
  have zr : ∀ p, P ≤ p → nrR P r' p = 0 := fun p hp => by unfold nrR; rw [if_neg (by omega)]
  generalize nrL g (μ5.1 23) la' = la at L5 al5 zl
  generalize nrR P r' = r at L5 s5 zr
  have hA5 : CtA μ5 g := ⟨hg, hC2.fr f5 (by decide) (by decide) (by decide), fun s hs => by
    have := A2 s hs
    unfold AatC at this ⊢
    rw [f5.1 21 (by decide), f5.1 22 (by decide), f5.2.1 19 (by decide), f5.2.1 20 (by decide)]
    exact this⟩
  have D5 : DblOk g (pN g) (μ5.1 23) := by rw [e23]; exact D2
  have En : Enm (Lv g (μ5.1 23)) (gBf g la) r P := L5.2.2.1.cg (fun s => ⟨fun q => q.1, fun q => ⟨q, al5 s q⟩⟩) (fun _ _ _ _ q => q) (fun _ _ => rfl)
  have hP : P ≤ pN g := En.len gBf.ir (fun s hs => hs.1)
  refine ⟨_, hs_cut hA5 L5, fun μ8 h8 => ?_⟩
  obtain ⟨f8, S8⟩ := h8
  have hA8 : CtA μ8 g := hA5.fr f8 (by decide) (by decide) (by decide)
  have hN8 : (sgX g la r P).1 ≤ P := sgC_le g la r P
  have bd := ag_bd (la := la) hg P (fun i hi => (En.1 i hi).1)
  refine ⟨_, hs_arrange (x := sgX g la r P) (tn := (agF g la r P).2.2.2.2.2) (by omega) S8.1 (fun q hq => ?_) (fun q hq => (S8.2.1 q hq).2.2.2.2.2) (fun q hq => ?_), fun μ11 h11 => ?_⟩
  · obtain ⟨q1, q2, q3, q4, q5, -⟩ := S8.2.1 q hq
    exact ⟨q1.symm, q2.symm, q3.symm, q4.symm, q5.symm⟩
  · have := bd q hq
    unfold agB at this
    show (((agF g la r P).1 q ≤ (agF g la r P).2.1 q ∧ -((agF g la r P).2.2.1 q) ≤ -((agF g la r P).2.2.2.1 q)) ∧ ((-3000000 ≤ (agF g la r P).1 q ∧ (agF g la r P).1 q ≤ 3000000) ∧ (-3000000 ≤ (agF g la r P).2.1 q ∧ (agF g la r P).2.1 q ≤ 3000000)) ∧ ((-3000000 ≤ -((agF g la r P).2.2.1 q) ∧ -((agF g la r P).2.2.1 q) ≤ 3000000) ∧ (-3000000 ≤ -((agF g la r P).2.2.2.1 q) ∧ -((agF g la r P).2.2.2.1 q) ≤ 3000000)) ∧ 1 ≤ (agF g la r P).2.2.2.2.1 q ∧ (agF g la r P).2.2.2.2.1 q ≤ 1000)
    omega
  obtain ⟨f11, n, al, b, R, hSur, hal⟩ := h11
  have hbl := hSur.le
  have inj : ∀ i j, i < P → j < P → r i = r j → i = j := fun i j hi hj e => En.inj gBf.ir hi hj e
  have e24 : μ11.1 24 = μ5.1 24 := (f11.1 24 (by decide)).trans (f8.1 24 (by decide))
  have e25 : μ11.1 25 = μ5.1 25 := (f11.1 25 (by decide)).trans (f8.1 25 (by decide))
  have hsgl : ∀ p, p < P → sgF g la r p < sgC g la r P := by
    have key : ∀ m p, p < m → sgF g la r p < sgC g la r m := by
      intro m
      induction m with
      | zero => intro p hp; omega
      | succ m ih =>
        intro p hp
        show sgF g la r p < sgF g la r m + 1
        by_cases e : p = m
        · rw [e]; omega
        · have h1 := ih p (by omega)
          by_cases hN : sgN g la r m = true
          · have := sg_new hN; omega
          · have := sg_old hN; omega
    exact key P
  have hSc : ScA μ11 g la r P al := by
    refine ⟨hA8.fr f11 (by decide) (by decide) (by decide), by omega, ?_, fun p hp => ⟨(En.1 p hp).1, ?_, ?_, ?_, ?_, ?_, ?_⟩, inj⟩
    · rw [f11.2.2.1 3 (by decide), f8.2.2.1 3 (by decide)]; exact L5.2.2.2.2.2
    · rw [e24]; exact L5.2.2.2.1 p hp
    · rw [e25]; exact s5 p hp
    · rw [f11.1 27 (by decide)]; exact S8.2.2.1 p hp
    · rw [f11.1 28 (by decide)]; exact S8.2.2.2.2 p hp
    · exact (hal _ (hsgl p hp)).2
    · have := (hal _ (hsgl p hp)).1
      omega
  refine ⟨_, hs_write hSc En.2.2, fun μ14 h14 μ16 e16 => ?_⟩
  obtain ⟨f14, τ, Eτ', T14⟩ := h14
  have Eτ : Enm (Lv g (μ5.1 23)) (rdB g la r P al) τ P := Eτ'.cg (fun s => ⟨fun ⟨p, p1, p2⟩ => p2 ▸ En.1 p p1, fun q => En.2.1 s q⟩) (fun _ _ _ _ q => q) (fun _ _ => rfl)
  have f16 : Fr [] [] [0] false μ14 μ16 := by rw [e16]; exact Fr.wF _ _ (by decide)
  have T16 : TxC μ16 (txF g la r P al τ P) := T14.fr f16 (by decide) (by decide)
  have S16 : ScA μ16 g la r P al := (hSc.fr f14 (by decide) (by decide) (by decide)).fr f16 (by decide) (by decide) (by decide)
  have k23 : μ16.1 23 = μ5.1 23 := (f16.1 23 (by decide)).trans ((f14.1 23 (by decide)).trans ((f11.1 23 (by decide)).trans (f8.1 23 (by decide))))
  have k26 : μ16.1 26 = μ5.1 26 := (f16.1 26 (by decide)).trans ((f14.1 26 (by decide)).trans ((f11.1 26 (by decide)).trans (f8.1 26 (by decide))))
  have k27 : μ16.1 27 = μ8.1 27 := (f16.1 27 (by decide)).trans ((f14.1 27 (by decide)).trans (f11.1 27 (by decide)))
  have k28 : μ16.1 28 = μ8.1 28 := (f16.1 28 (by decide)).trans ((f14.1 28 (by decide)).trans (f11.1 28 (by decide)))
  refine ⟨?_, by rw [e16, mF_221, upE]; decide, μ5.1 23, c, la, r, P, n, al, b, τ, ⟨D5, ⟨L5.1, al5⟩, En, ⟨R, fun q hq => (hal q hq).1⟩, Eτ, zl, zr⟩, ⟨fun s hs => ?_, T16.1, T16.2⟩, fun s hs => ?_, ?_⟩
  · exact (((((f2.mono (by decide) (by decide) (by decide) (fun h => h)).tr (f5.mono (by decide) (by decide) (by decide) (fun h => h))).tr (f8.mono (by decide) (by decide) (by decide) (fun h => h))).tr (f11.mono (by decide) (by decide) (by decide) (fun h => h))).tr (f14.mono (by decide) (by decide) (by decide) (fun h => h))).tr (f16.mono (by decide) (by decide) (by decide) (fun h => h))
  · by_cases hd : μ5.1 23 s = -1
    · obtain ⟨p, p1, p2⟩ := En.2.1 s ⟨hs, hd⟩
      obtain ⟨a1, a2, a3, a4, a5, a6, a7⟩ := S16.2.2.2.1 p p1
      have ex : sX r P s = p := by rw [← p2]; exact sX_at inj p1
      have hq := sgF_le g la r p
      rw [if_pos hd, if_pos hd, if_pos hd, k23, k26]
      refine ⟨rfl, ?_, ?_, ?_⟩
      · rcases L5.2.1 s hs with ⟨q1, q2, q3⟩ | ⟨q1, q2⟩
        · exact q3
        · exact absurd ⟨⟨hs, hd⟩, al5 s ⟨hs, hd⟩⟩ q1
      · unfold bkC bkN
        rw [ex, ← p2, a4, if_pos (nI_0le (by omega)), cI (by omega), a6]
      · rw [ex, ← p2, a5]
    · rw [if_neg hd, if_neg hd, if_neg hd, k23, k26]
      obtain ⟨w1, w2⟩ := S8.2.2.2.1 s hs (fun p hp e => hd (by have := (En.1 p hp).2; rw [e] at this; exact this))
      refine ⟨rfl, ?_, ?_, ?_⟩
      · rcases L5.2.1 s hs with ⟨q1, q2, q3⟩ | ⟨q1, q2⟩
        · exact absurd q1.2 hd
        · exact q2
      · unfold bkC
        rw [k27, w1, if_neg (by decide)]
      · rw [k28]; exact w2
  · rw [k27]
    by_cases hd : μ5.1 23 s = -1
    · obtain ⟨p, p1, p2⟩ := En.2.1 s ⟨hs, hd⟩
      have hq := sgF_le g la r p
      exact Or.inr ⟨sgF g la r p, by omega, by rw [← p2]; exact S8.2.2.1 p p1⟩
    · exact Or.inl (S8.2.2.2.1 s hs (fun p hp e => hd (by have := (En.1 p hp).2; rw [e] at this; exact this))).1
  · exact TxR.src (Q := fun y => y = -1 ∨ ∃ s, s < pN g ∧ y = nI s) T16.2 (tx_src P (fun i hi => (Eτ.1 i hi).1))
