/-! Between the calls: class and model hold the same page. -/
def Sr (μ : MemT) : Prop := (∃ k, k ≤ 20 ∧ μ.2.2.1 7 = nI k ∧ μ.2.2.1 16 = nI k ∧ ∀ i, i < k → μ.1 44 i = μ.1 74 i) ∧ ∃ h, h ≤ 600 ∧ μ.2.2.1 8 = nI h ∧ μ.2.2.1 17 = nI h ∧ ∀ i, i < h → μ.1 43 i = μ.1 75 i
def RR (μ : MemT) (g : PgT) : Prop := PgOk g ∧ MpOk g ∧ HasC μ g ∧ HasM μ g ∧ (∀ i, pN g ≤ i → i < 200 → μ.1 15 i = 0 ∧ μ.1 50 i = 0) ∧ (¬ μ.2.2.1 0 = 0 → DvC μ g) ∧ (¬ μ.2.2.1 11 = 0 → DvM μ g) ∧ Sr μ
theorem DvC.fr {SI SL SF : List Nat} {g' : Bool} {μ μ' : MemT} {g : PgT} (h : DvC μ g) (hf : Fr SI SL SF g' μ μ') (h1 : ∀ k ∈ [23, 26, 27, 28, 35, 39, 40], k ∉ SI) (h3 : 6 ∉ SF) : DvC μ' g := by
  obtain ⟨d, c, la, r, P, n, al, b, τ, D, O, A, B⟩ := h
  have e : bkC μ' = bkC μ := by
    unfold bkC
    rw [hf.1 27 (h1 27 (by decide)), hf.1 35 (h1 35 (by decide))]
  refine ⟨d, c, la, r, P, n, al, b, τ, D, ?_, ?_, ?_⟩
  · rw [e, hf.1 23 (h1 23 (by decide)), hf.1 26 (h1 26 (by decide)), hf.1 28 (h1 28 (by decide)), hf.1 39 (h1 39 (by decide)), hf.1 40 (h1 40 (by decide)), hf.2.2.1 6 h3]
    exact O
  · rw [hf.1 27 (h1 27 (by decide))]; exact A
  · rw [hf.1 40 (h1 40 (by decide))]; exact B
theorem DvM.fr {SI SL SF : List Nat} {g' : Bool} {μ μ' : MemT} {g : PgT} (h : DvM μ g) (hf : Fr SI SL SF g' μ μ') (h1 : ∀ k ∈ [58, 59, 60, 62, 70, 72, 73], k ∉ SI) (h3 : 15 ∉ SF) : DvM μ' g := by
  obtain ⟨d, c, la, r, P, n, al, b, τ, D, O, A, B⟩ := h
  have e : bkM μ' = bkM μ := by
    unfold bkM
    rw [hf.1 60 (h1 60 (by decide)), hf.1 70 (h1 70 (by decide))]
  refine ⟨d, c, la, r, P, n, al, b, τ, D, ?_, ?_, ?_⟩
  · rw [e, hf.1 58 (h1 58 (by decide)), hf.1 59 (h1 59 (by decide)), hf.1 62 (h1 62 (by decide)), hf.1 72 (h1 72 (by decide)), hf.1 73 (h1 73 (by decide)), hf.2.2.1 15 h3]
    exact O
  · rw [hf.1 60 (h1 60 (by decide))]; exact A
  · rw [hf.1 73 (h1 73 (by decide))]; exact B
def baI : List Nat := [10, 14, 15, 16, 17, 18, 43, 44, 45, 49, 50, 51, 52, 53, 74, 75]
def baL : List Nat := [11, 12, 13, 46, 47, 48]
def baF : List Nat := [1, 7, 8, 10, 16, 17]
theorem RR.st {SI SL SF : List Nat} {g' : Bool} {μ μ' : MemT} {g : PgT} (h : RR μ g) (hf : Fr SI SL SF g' μ μ') (h1 : ∀ k ∈ baI, k ∉ SI) (h2 : ∀ k ∈ baL, k ∉ SL) (h3 : ∀ k ∈ baF, k ∉ SF) (hc : ¬ μ'.2.2.1 0 = 0 → DvC μ' g) (hm : ¬ μ'.2.2.1 11 = 0 → DvM μ' g) : RR μ' g := by
  obtain ⟨a1, a2, a3, a4, a5, -, -, a8, a9⟩ := h
  have mi : ∀ {l : List Nat}, (∀ k ∈ l, k ∈ baI) → ∀ k ∈ l, k ∉ SI := fun hl k hk => h1 k (hl k hk)
  refine ⟨a1, a2, a3.fr hf (mi (by decide)) (fun k hk => h2 k ?_) (h3 1 (by decide)), a4.fr hf (mi (by decide)) (fun k hk => h2 k ?_) (h3 10 (by decide)), ?_, hc, hm, ?_, ?_⟩
  · revert k; decide
  · revert k; decide
  · rw [hf.1 15 (h1 15 (by decide)), hf.1 50 (h1 50 (by decide))]; exact a5
  · rw [hf.1 44 (h1 44 (by decide)), hf.1 74 (h1 74 (by decide)), hf.2.2.1 7 (h3 7 (by decide)), hf.2.2.1 16 (h3 16 (by decide))]; exact a8
  · rw [hf.1 43 (h1 43 (by decide)), hf.1 75 (h1 75 (by decide)), hf.2.2.1 8 (h3 8 (by decide)), hf.2.2.1 17 (h3 17 (by decide))]; exact a9
/-- only out, thrown or what nobody reads has changed -/
theorem RR.o {μ μ' : MemT} {g : PgT} (h : RR μ g) (hf : Fr [] [76] [9] true μ μ') : RR μ' g := h.st hf (by decide) (by decide) (by decide) (fun z => (h.2.2.2.2.2.1 (by rw [hf.2.2.1 0 (by decide)] at z; exact z)).fr hf (by decide) (by decide)) (fun z => (h.2.2.2.2.2.2.1 (by rw [hf.2.2.1 11 (by decide)] at z; exact z)).fr hf (by decide) (by decide))
def rfI : List Nat := [21, 22, 23, 24, 25, 26, 27, 28, 29, 34, 35, 36, 37, 38, 39, 40, 41, 42]
def rfL : List Nat := [19, 20, 30, 31, 32, 33]
def rfF : List Nat := [0, 2, 3, 4, 5, 6]
theorem c_refresh {μ : MemT} {g : PgT} (h : RR μ g) : sp_X8_refresh μ (fun μ' => Fr rfI rfL rfF false μ μ' ∧ ¬ μ'.2.2.1 0 = 0 ∧ RR μ' g) := by
  have k := hs_refresh h.1 h.2.2.1 h.2.2.2.2.2.1
  unfold sp_X8_refresh t_X8_refresh_0 at k ⊢
  have w : ∀ μ', (Fr rfI rfL rfF false μ μ' ∧ ¬ μ'.2.2.1 0 = 0 ∧ DvC μ' g) → (Fr rfI rfL rfF false μ μ' ∧ ¬ μ'.2.2.1 0 = 0 ∧ RR μ' g) := fun μ' q => ⟨q.1, q.2.1, h.st q.1 (by decide) (by decide) (by decide) (fun _ => q.2.2) (fun z => (h.2.2.2.2.2.2.1 (by rw [q.1.2.2.1 11 (by decide)] at z; exact z)).fr q.1 (by decide) (by decide))⟩
  refine ⟨fun z => ?_, fun z => w μ (k.2 z)⟩
  obtain ⟨P1, s1, k1⟩ := k.1 z
  refine ⟨P1, s1, fun μ2 h2 => ?_⟩
  obtain ⟨P4, s4, k4⟩ := k1 μ2 h2
  refine ⟨P4, s4, fun μ5 h5 => ?_⟩
  obtain ⟨P7, s7, k7⟩ := k4 μ5 h5
  refine ⟨P7, s7, fun μ8 h8 => ?_⟩
  obtain ⟨P10, s10, k10⟩ := k7 μ8 h8
  refine ⟨P10, s10, fun μ11 h11 => ?_⟩
  obtain ⟨P13, s13, k13⟩ := k10 μ11 h11
  exact ⟨P13, s13, fun μ14 h14 μ16 e16 => w μ16 (k13 μ14 h14 μ16 e16)⟩
theorem RR.look {μ μ' : MemT} {g : PgT} (h : RR μ g) (q : Fr lkI lkL lkF true μ μ' ∧ ¬ μ'.2.2.1 11 = 0 ∧ DvM μ' g) : RR μ' g := h.st q.1 (by decide) (by decide) (by decide) (fun z => (h.2.2.2.2.2.1 (by rw [q.1.2.2.1 0 (by decide)] at z; exact z)).fr q.1 (by decide) (by decide)) (fun _ => q.2.2)
theorem m_look {μ : MemT} {g : PgT} (h : RR μ g) : sp_X9_look μ (fun μ' => Fr lkI lkL lkF true μ μ' ∧ ¬ μ'.2.2.1 11 = 0 ∧ DvM μ' g) := hm_look h.1 h.2.1 h.2.2.2.1 h.2.2.2.2.2.2.1
/-- what both show -/
theorem both {μ : MemT} {g : PgT} (hg : PgOk g) (hc : DvC μ g) (hm : DvM μ g) : (∀ s, s < pN g → μ.1 23 s = μ.1 58 s ∧ μ.1 26 s = μ.1 59 s ∧ bkC μ s = bkM μ s ∧ μ.1 28 s = μ.1 62 s) ∧ ∃ m, m ≤ 600 ∧ μ.2.2.1 6 = nI m ∧ μ.2.2.1 15 = nI m ∧ ∀ i, i < m → μ.1 39 i = μ.1 72 i ∧ μ.1 40 i = μ.1 73 i := by
  obtain ⟨d, c, la, r, P, n, al, b, τ, D, O, A, B⟩ := hc
  obtain ⟨d', c', la', r', P', n', al', b', τ', D', O', A', B'⟩ := hm
  exact Ob.one hg D D' O O'
theorem tlen {μ : MemT} {g : PgT} (hg : PgOk g) (hc : DvC μ g) : ∃ m, m ≤ 600 ∧ μ.2.2.1 6 = nI m ∧ ∀ i, i < m → μ.1 40 i = -1 ∨ ∃ s, s < pN g ∧ μ.1 40 i = nI s := by
  obtain ⟨d, c, la, r, P, n, al, b, τ, D, O, A, B⟩ := hc
  have h1 := txF_len g la r P al τ P
  have h2 := D.2.2.1.len gBf.ir (fun s hs => hs.1)
  have h3 := hg.1
  exact ⟨_, by omega, O.2.1, B⟩
theorem tlenM {μ : MemT} {g : PgT} (hg : PgOk g) (hc : DvM μ g) : ∃ m, m ≤ 600 ∧ μ.2.2.1 15 = nI m ∧ ∀ i, i < m → μ.1 73 i = -1 ∨ ∃ s, s < pN g ∧ μ.1 73 i = nI s := by
  obtain ⟨d, c, la, r, P, n, al, b, τ, D, O, A, B⟩ := hc
  have h1 := txF_len g la r P al τ P
  have h2 := D.2.2.1.len gBf.ir (fun s hs => hs.1)
  have h3 := hg.1
  exact ⟨_, by omega, O.2.1, B⟩
theorem ixI {x : Int32} {n : Nat} (hn : n < 2147483648) (h0 : ¬ x < 0) (h1 : x < nI n) : ∃ i, i < n ∧ x = nI i := by
  rw [lt32] at h0
  rw [lt32, tI hn] at h1
  have h0 : ¬ x.toInt < 0 := h0
  refine ⟨x.toInt.toNat, by omega, ?_⟩
  rw [eq32, tI (by omega)]
  omega
theorem vp0 : vp_in (0 : Int32) 1 := (inI (by decide : 0 < 1) (by decide) : vp_in (nI 0) 1)
theorem endK {K : Prop} {r5 r14 : Int32} {o v : Int64} (h1 : r14 = r5) (h2 : r5 = 0 → o = v) (hk : K) : ((r14 = r5 → ((¬ r5 = 0 → K) ∧ (r5 = 0 → (vp_in (0 : Int32) 1 ∧ ((o = v → K) ∧ (¬ o = v → False)))))) ∧ (¬ r14 = r5 → False)) :=
  ⟨fun _ => ⟨fun _ => hk, fun h => ⟨vp0, fun _ => hk, fun z => z (h2 h)⟩⟩, fun z => z h1⟩
theorem m_refused {μ : MemT} (a b : Int32) : sp_X9_refused a b μ (fun r μ' => Fr [] [] [9] false μ μ' ∧ μ'.2.2.1 9 = (if a = 0 then (if b = 0 then 0 else 2) else 1) ∧ (r = 0 ↔ (a = 0 ∧ b = 0))) := by
  have st : ∀ y : Int32, (y = 0 ∨ y = 1 ∨ y = 2) → y = (if a = 0 then (if b = 0 then 0 else 2) else 1) → (y = 0 ↔ (a = 0 ∧ b = 0)) → t_X9_refused_18 (fun r μ' => Fr [] [] [9] false μ μ' ∧ μ'.2.2.1 9 = (if a = 0 then (if b = 0 then 0 else 2) else 1) ∧ (r = 0 ↔ (a = 0 ∧ b = 0))) a b y μ := fun y hy e hz => by
    unfold t_X9_refused_18
    intro μ1 e1
    have f : Fr [] [] [9] false μ μ1 := by rw [e1]; exact Fr.wF _ _ (by decide)
    have v : μ1.2.2.1 9 = y := by rw [e1, mF_221, upE]
    rw [v]
    refine ⟨fun h => ⟨f, v.trans e, fun _ => hz.mp ?_, fun _ => rfl⟩, fun h => ⟨f, v.trans e, fun q => absurd q (by decide), fun q => absurd (by rw [hz.mpr q]; decide) h⟩⟩
    rcases hy with rfl | rfl | rfl
    · rfl
    · exact absurd h (by decide)
    · exact absurd h (by decide)
  unfold sp_X9_refused t_X9_refused_0
  refine ⟨fun h1 => ⟨fun h2 => st 0 (Or.inl rfl) (by rw [if_pos h1, if_pos h2]) ⟨fun _ => ⟨h1, h2⟩, fun _ => rfl⟩, fun h2 => st 2 (Or.inr (Or.inr rfl)) (by rw [if_pos h1, if_neg h2]) ⟨fun z => absurd z (by decide), fun z => absurd z.2 h2⟩⟩, fun h1 => st 1 (Or.inr (Or.inl rfl)) (by rw [if_neg h1]) ⟨fun z => absurd z (by decide), fun z => absurd z.1 h1⟩⟩
theorem m_isNoSign {μ : MemT} {g : PgT} (h : HasM μ g) (x : Int32) : sp_X9_isNoSign x μ (fun r μ' => μ' = μ ∧ ((r = 1 ∧ ¬ (¬ x < 0 ∧ x < nI (pN g))) ∨ (r = 0 ∧ ¬ x < 0 ∧ x < nI (pN g)))) := by
  unfold sp_X9_isNoSign t_X9_isNoSign_0
  rw [h.1]
  exact ⟨fun h1 => ⟨rfl, Or.inl ⟨rfl, fun z => z.1 h1⟩⟩, fun h1 => ⟨fun h2 => ⟨rfl, Or.inr ⟨rfl, h1, h2⟩⟩, fun h2 => ⟨rfl, Or.inl ⟨rfl, fun z => h2 z.2⟩⟩⟩⟩
theorem c_reqSign {μ : MemT} {g : PgT} (h : HasC μ g) (x : Int32) : sx_X8_requireSign x μ (fun μ' => μ' = μ ∧ ¬ x < 0 ∧ x < nI (pN g)) (fun X μ' => X = "java/util/NoSuchElementException" ∧ μ' = μ ∧ ¬ (¬ x < 0 ∧ x < nI (pN g))) := by
  unfold sx_X8_requireSign tx_X8_requireSign_0
  rw [h.1]
  exact ⟨fun h1 => ⟨rfl, rfl, fun z => z.1 h1⟩, fun h1 => ⟨fun h2 => ⟨rfl, h1, h2⟩, fun h2 => ⟨rfl, rfl, fun z => h2 z.2⟩⟩⟩
theorem c_reqWithin {μ : MemT} (x n : Int32) : sx_X8_requireWithin x n μ (fun μ' => μ' = μ ∧ ¬ x < 0 ∧ x < n) (fun X μ' => X = "java/lang/IndexOutOfBoundsException" ∧ μ' = μ ∧ ¬ (¬ x < 0 ∧ x < n)) := by
  unfold sx_X8_requireWithin tx_X8_requireWithin_0
  exact ⟨fun h1 => ⟨rfl, rfl, fun z => z.1 h1⟩, fun h1 => ⟨fun h2 => ⟨rfl, h1, h2⟩, fun h2 => ⟨rfl, rfl, fun z => h2 z.2⟩⟩⟩
theorem m_thrown {μ : MemT} : sp_X9_thrown μ (fun r μ' => μ' = μ ∧ r = μ.2.2.1 9) := ⟨rfl, rfl⟩
abbrev KR : MemT → Prop := fun μ => ∃ g, RR μ g
theorem k_length {μ : MemT} {g : PgT} (h : RR μ g) {xs : Nat → Int32} {L : Nat} {x4 : Int32} : tw_570 KR xs L x4 μ := by
  unfold tw_570
  refine ⟨fun r μ' => ¬ μ'.2.2.1 0 = 0 ∧ RR μ' g ∧ r = μ'.2.2.1 6, ?_, fun r μ2 h2 => ?_⟩
  · unfold sp_X8_length t_X8_length_0
    exact ⟨_, c_refresh h, fun μ2 q => ⟨q.2.1, q.2.2, rfl⟩⟩
  obtain ⟨n2, R2, rfl⟩ := h2
  refine ⟨fun r μ' => RR μ' g ∧ r = μ2.2.2.1 6, ?_, fun r μ6 h6 => ?_⟩
  · unfold sp_X9_length t_X9_length_0
    intro μ1 e1
    have f1 : Fr [] [76] [9] true μ2 μ1 := by rw [e1]; exact Fr.wF _ _ (by decide)
    have R1 := R2.o f1
    refine ⟨_, m_look R1, fun μ3 q => ?_⟩
    have R3 := R1.look q
    have n3 : ¬ μ3.2.2.1 0 = 0 := by rw [q.1.2.2.1 0 (by decide), f1.2.2.1 0 (by decide)]; exact n2
    obtain ⟨-, m, -, e6, e15, -⟩ := both R3.1 (R3.2.2.2.2.2.1 n3) q.2.2
    refine ⟨R3, ?_⟩
    rw [e15, ← e6, q.1.2.2.1 6 (by decide), f1.2.2.1 6 (by decide)]
  · obtain ⟨R6, e6⟩ := h6
    exact ⟨fun _ => ⟨g, R6⟩, fun z => z e6.symm⟩
