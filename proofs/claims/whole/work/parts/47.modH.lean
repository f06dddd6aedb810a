/-! The model: order of reading, joining. -/
def ScM (μ : MemT) (g : PgT) (la r : Nat → Nat) (P : Nat) (al : Nat → Nat) : Prop := MtA μ g ∧ P ≤ 200 ∧ (∀ p, p < P → r p < pN g ∧ (μ.1 59 (r p) = nI (la (r p)) ∧ la (r p) < 200) ∧ μ.1 60 (r p) = nI (sgF g la r p) ∧ μ.1 61 (r p) = (if p + 1 < P ∧ sgN g la r (p + 1) = false then nI (r (p + 1)) else -1) ∧ μ.1 62 (r p) = b01 (decide (p + 1 < P) && spF g la r p) ∧ μ.1 70 (sgF g la r p) = nI (al (sgF g la r p)) ∧ al (sgF g la r p) < 200) ∧ ∀ i j, i < P → j < P → r i = r j → i = j
theorem ScM.fr {SI SL SF : List Nat} {g' : Bool} {μ μ' : MemT} {g : PgT} {la r : Nat → Nat} {P : Nat} {al : Nat → Nat} (h : ScM μ g la r P al) (hf : Fr SI SL SF g' μ μ') (h1 : ∀ k ∈ [45, 49, 50, 51, 52, 53, 56, 57, 59, 60, 61, 62, 70], k ∉ SI) (h2 : ∀ k ∈ [46, 47, 48, 54, 55], k ∉ SL) (h3 : 10 ∉ SF) : ScM μ' g la r P al := by
  obtain ⟨a, b, d, e⟩ := h
  refine ⟨a.fr hf (fun k hk => h1 k ?_) h2 h3, b, ?_, e⟩
  · simp only [List.mem_cons, List.not_mem_nil, or_false] at hk ⊢
    omega
  · rw [hf.1 59 (h1 59 (by decide)), hf.1 60 (h1 60 (by decide)), hf.1 61 (h1 61 (by decide)), hf.1 62 (h1 62 (by decide)), hf.1 70 (h1 70 (by decide))]
    exact d
theorem hm_rank {g : PgT} {μ : MemT} (hg : PgOk g) {s : Nat} (hs : s < pN g) {x : Int32} (hx : x.toInt = pG g s) : sp_X9_rank x μ (fun v μ' => μ' = μ ∧ v = nI (trN g s)) := by
  have hG := (hg.2 s hs).2.2.2.2.2
  unfold sp_X9_rank t_X9_rank_0
  refine ⟨fun h => ⟨rfl, ?_⟩, fun h => ⟨rfl, ?_⟩⟩
  · rw [eq32, hx, t_m1] at h
    unfold trN
    rw [if_neg (by omega), eq32, hx, tI (by omega)]
    omega
  · rw [eq32, hx, t_m1] at h
    unfold trN
    rw [if_pos (by omega)]
    rfl
theorem hm_groupOf {g : PgT} {μ : MemT} {la r : Nat → Nat} {P : Nat} {al : Nat → Nat} (hS : ScM μ g la r P al) {p : Nat} (hp : p < P) : sp_X9_groupOf (nI (r p)) μ (fun v μ' => μ' = μ ∧ v = nI (al (sgF g la r p))) := by
  have hn := hS.1.1.1
  obtain ⟨a1, a2, a3, a4, a5, a6, a7⟩ := hS.2.2.1 p hp
  have hq := sgF_le g la r p
  have hP := hS.2.1
  unfold sp_X9_groupOf t_X9_groupOf_0
  rw [cI (by omega), a3, cI (by omega), a6]
  exact ⟨inI (by omega) (by decide), fun _ => ⟨inI (by omega) (by decide), inI (by omega) (by decide), rfl, rfl⟩, fun h => absurd h (nI_ne_m1 (by omega))⟩
set_option maxHeartbeats 1000000 in
theorem hm_isBefore {g : PgT} {μ : MemT} {la r : Nat → Nat} {P : Nat} {al : Nat → Nat} (hS : ScM μ g la r P al) {p q : Nat} (hp : p < P) (hq : q < P) : sp_X9_isBefore (nI (r p)) (nI (r q)) μ (fun v μ' => μ' = μ ∧ ((v = 1 ∧ rdB g la r P al (r p) (r q)) ∨ (v = 0 ∧ ¬ rdB g la r P al (r p) (r q)))) := by
  have hn := hS.1.1.1
  have hg := hS.1.1
  have hi := hS.2.2.2
  obtain ⟨a1, ⟨a2, b2⟩, -, -, -, -, a7⟩ := hS.2.2.1 p hp
  obtain ⟨c1, ⟨c2, d2⟩, -, -, -, -, c7⟩ := hS.2.2.1 q hq
  have ip : vp_in (nI (r p)) 200 := inI (by omega) (by decide)
  have iq : vp_in (nI (r q)) 200 := inI (by omega) (by decide)
  have cp : (nI (r p)).toNatClampNeg = r p := cI (by omega)
  have cq : (nI (r q)).toNatClampNeg = r q := cI (by omega)
  have bp : bkN g la r P al (r p) = al (sgF g la r p) := by unfold bkN; rw [sX_at hi hp]
  have bq : bkN g la r P al (r q) = al (sgF g la r q) := by unfold bkN; rw [sX_at hi hq]
  have tp := (hS.1.2.1.2.1 (r p) a1).2.2.2.2.2.2
  have tq := (hS.1.2.1.2.1 (r q) c1).2.2.2.2.2.2
  have lp := trN_le hg a1
  have lq := trN_le hg c1
  have up := (hS.1.2.2 (r p) a1).1
  have uq := (hS.1.2.2 (r q) c1).1
  unfold rdB gBf
  rw [bp, bq]
  unfold sp_X9_isBefore t_X9_isBefore_0
  rw [cp, cq]
  refine ⟨ip, _, hm_rank hg a1 tp, fun v1 μ1 h1 => ?_⟩
  obtain ⟨rfl, rfl⟩ := h1
  refine ⟨iq, _, hm_rank hg c1 tq, fun v2 μ2 h2 => ?_⟩
  obtain ⟨rfl, rfl⟩ := h2
  rw [nI_eqI (by omega) (by omega)]
  refine ⟨fun h3 => ⟨_, hm_groupOf hS hp, fun v4 μ4 h4 => ?_⟩, fun h3 => ⟨ip, _, hm_rank hg a1 tp, fun v4 μ4 h4 => ?_⟩⟩
  · obtain ⟨rfl, rfl⟩ := h4
    refine ⟨_, hm_groupOf hS hq, fun v5 μ5 h5 => ?_⟩
    obtain ⟨rfl, rfl⟩ := h5
    rw [nI_eqI (by omega) (by omega)]
    refine ⟨fun h6 => ⟨ip, iq, ?_⟩, fun h6 => ⟨_, hm_groupOf hS hp, fun v7 μ7 h7 => ?_⟩⟩
    · rw [a2, c2, nI_eqI (by omega) (by omega), eq64, le64, up, uq, nI_leI (by omega) (by omega), nI_leI (by omega) (by omega)]
      refine ⟨fun h8 => ⟨ip, iq, fun h9 => ⟨fun h10 => ⟨rfl, Or.inr ⟨rfl, by omega⟩⟩, fun h10 => ⟨rfl, Or.inl ⟨rfl, by omega⟩⟩⟩, fun h9 => ⟨ip, iq, fun h10 => ⟨rfl, Or.inr ⟨rfl, by omega⟩⟩, fun h10 => ⟨rfl, Or.inl ⟨rfl, by omega⟩⟩⟩⟩, fun h8 => ⟨ip, iq, fun h10 => ⟨rfl, Or.inr ⟨rfl, by omega⟩⟩, fun h10 => ⟨rfl, Or.inl ⟨rfl, by omega⟩⟩⟩⟩
    · obtain ⟨rfl, rfl⟩ := h7
      refine ⟨_, hm_groupOf hS hq, fun v8 μ8 h8 => ?_⟩
      obtain ⟨rfl, rfl⟩ := h8
      rw [nI_leI (by omega) (by omega)]
      exact ⟨fun h10 => ⟨rfl, Or.inr ⟨rfl, by omega⟩⟩, fun h10 => ⟨rfl, Or.inl ⟨rfl, by omega⟩⟩⟩
  · obtain ⟨rfl, rfl⟩ := h4
    refine ⟨iq, _, hm_rank hg c1 tq, fun v5 μ5 h5 => ?_⟩
    obtain ⟨rfl, rfl⟩ := h5
    rw [nI_leI (by omega) (by omega)]
    exact ⟨fun h10 => ⟨rfl, Or.inr ⟨rfl, by omega⟩⟩, fun h10 => ⟨rfl, Or.inl ⟨rfl, by omega⟩⟩⟩
def TxM (μ : MemT) (T : TxT) : Prop := μ.2.2.1 15 = nI T.length ∧ TxR (μ.1 72) (μ.1 73) T
theorem hm_put {μ : MemT} {T : TxT} (h : TxM μ T) (hT : T.length < 600) (a b : Int32) : sp_X9_put a b μ (fun μ' => Fr [72, 73] [] [15] false μ μ' ∧ TxM μ' ((a, b) :: T)) := by
  unfold sp_X9_put t_X9_put_0
  rw [h.1]
  refine ⟨inI (by omega) (by decide), fun μ2 e2 => ?_⟩
  have g2 : μ2.2.2.1 15 = nI T.length := by rw [e2, mI_2]; exact h.1
  rw [g2]
  refine ⟨inI (by omega) (by decide), fun μ4 e4 μ5 e5 => ⟨?_, ?_, ?_⟩⟩
  · rw [e5, e4, e2]
    exact ((Fr.wI _ _ _ (by decide)).tr (Fr.wI _ _ _ (by decide))).tr (Fr.wF _ _ (by decide))
  · rw [e5, mF_221, upE, e4, mI_2, g2]
    exact nI_1 _
  · rw [e5, mF_1, e4, mI_1, upE, upN _ _ (by decide), e2, mI_1, upE, upN _ _ (by decide), cI (by omega)]
    exact h.2.push a b
theorem sg_adj {g : PgT} {la r : Nat → Nat} {p : Nat} : sgF g la r p = sgF g la r (p + 1) ↔ sgN g la r (p + 1) = false := by
  have e : sgF g la r (p + 1) = if sgN g la r (p + 1) = true then sgF g la r p + 1 else sgF g la r p := rfl
  rw [e]
  cases sgN g la r (p + 1) with
  | true => exact ⟨fun z => by rw [if_pos rfl] at z; omega, fun z => by cases z⟩
  | false => exact ⟨fun _ => rfl, fun _ => by rw [if_neg (by decide)]⟩
set_option maxHeartbeats 2000000 in
theorem hm_join {g : PgT} {μ : MemT} {la r : Nat → Nat} {P : Nat} {al : Nat → Nat} (hS : ScM μ g la r P al) {T : TxT} (h : TxM μ T) (hT : T.length < 600) (hT0 : 0 < T.length) {p q : Nat} (hp : p < P) (hq : q < P) : sp_X9_join (nI (r p)) (nI (r q)) μ (fun μ' => Fr [72, 73] [] [15] false μ μ' ∧ TxM μ' (lnkF g la r P al (r p) (r q) T)) := by
  have hn := hS.1.1.1
  have hP := hS.2.1
  have hi := hS.2.2.2
  have ep : sX r P (r p) = p := sX_at hi hp
  have eq : sX r P (r q) = q := sX_at hi hq
  have bp : bkN g la r P al (r p) = al (sgF g la r p) := by unfold bkN; rw [ep]
  have bq : bkN g la r P al (r q) = al (sgF g la r q) := by unfold bkN; rw [eq]
  obtain ⟨a1, -, a4, a3, a5, a6, a7⟩ := hS.2.2.1 p hp
  obtain ⟨b1, -, b4, b3, b5, b6, b7⟩ := hS.2.2.1 q hq
  have sp := sgF_le g la r p
  have sq := sgF_le g la r q
  have tp := (hS.1.2.1.2.1 (r p) a1).2.2.2.2.2.2
  have tq := (hS.1.2.1.2.1 (r q) b1).2.2.2.2.2.2
  have oq := (hS.1.2.2 (r q) b1).2.2.1
  have ip : vp_in (nI (r p)) 200 := inI (by omega) (by decide)
  have iq : vp_in (nI (r q)) 200 := inI (by omega) (by decide)
  have cp : (nI (r p)).toNatClampNeg = r p := cI (by omega)
  have cq : (nI (r q)).toNatClampNeg = r q := cI (by omega)
  have adj : μ.1 61 (r p) = nI (r q) ↔ (sgF g la r p = sgF g la r q ∧ q = p + 1) := by
    rw [a3]
    constructor
    · intro z
      by_cases c : p + 1 < P ∧ sgN g la r (p + 1) = false
      · rw [if_pos c] at z
        have := (hS.2.2.1 (p + 1) c.1).1
        have e := hi (p + 1) q c.1 hq (nI_inj (by omega) (by omega) z)
        subst e
        exact ⟨sg_adj.mpr c.2, rfl⟩
      · rw [if_neg c] at z
        exact absurd z.symm (nI_ne_m1 (by omega))
    · intro z
      obtain ⟨z1, rfl⟩ := z
      rw [if_pos ⟨hq, sg_adj.mp z1⟩]
  have e1 : nI T.length - (1 : Int32) = nI (T.length - 1) := by
    have : T.length = (T.length - 1) + 1 := by omega
    rw [this, nIp, Nat.add_sub_cancel]
  have hy := h.2.hyp hT0
  -- with a known likeness
  have go : ∀ y : Int32, (¬ y = 0 ↔ (¬ sgF g la r p = sgF g la r q ∧ pG g (r p) = pG g (r q) ∧ al (sgF g la r p) = al (sgF g la r q))) → t_X9_join_48 (fun μ' => Fr [72, 73] [] [15] false μ μ' ∧ TxM μ' (lnkF g la r P al (r p) (r q) T)) (nI (r p)) (nI (r q)) y μ := by
    intro y hy0
    unfold t_X9_join_48
    rw [cp, cq, adj, oq, a5, b01_0]
    refine ⟨ip, fun h1 => ?_, fun h1 => ⟨ip, fun h2 => ?_, fun h2 => ?_⟩⟩
    · have e0 : lnkF g la r P al (r p) (r q) T = if ¬ sgF g la r p = sgF g la r q ∧ pG g (r p) = pG g (r q) ∧ al (sgF g la r p) = al (sgF g la r q) then jnF (gL1 g (r q)) T else (10, -1) :: T := by
        unfold lnkF
        rw [ep, eq, bp, bq, if_neg h1]
      have put : (¬ y = 0 → jnF (gL1 g (r q)) T = (32, -1) :: T) → t_X9_join_133 (fun μ' => Fr [72, 73] [] [15] false μ μ' ∧ TxM μ' (lnkF g la r P al (r p) (r q) T)) (nI (r p)) (nI (r q)) y μ := fun hz => by
        unfold t_X9_join_133 t_X9_join_145
        refine ⟨fun h3 => ⟨_, hm_put h hT 10 (-1), fun μ2 h2 => ?_⟩, fun h3 => ⟨_, hm_put h hT 32 (-1), fun μ2 h2 => ?_⟩⟩
        · rw [e0, if_neg (fun z => hy0.mpr z h3)]; exact h2
        · rw [e0, if_pos (hy0.mp h3), hz h3]; exact h2
      rw [h.1, e1, cI (by omega)]
      refine ⟨fun h2 => put (fun z => absurd h2 z), fun h2 => ⟨inI (by omega) (by decide), fun h3 => put (fun _ => ?_), fun h3 => ⟨iq, fun h4 => put (fun _ => ?_), fun h4 => ⟨iq, fun h5 => put (fun _ => ?_), fun h5 μ5 e5 => ?_⟩⟩⟩⟩
      · unfold jnF; rw [if_neg (fun z => h3 (hy.mp z.2))]
      · unfold jnF
        rw [if_neg (fun z => by have := z.1.1; rw [le32] at this; rw [lt32] at h4; omega)]
      · unfold jnF
        rw [if_neg (fun z => by have := z.1.2; rw [le32] at this; rw [lt32] at h5; omega)]
      · rw [e0, if_pos (hy0.mp h2)]
        unfold jnF
        rw [if_pos ⟨by rw [lt32] at h4 h5; rw [le32, le32]; omega, hy.mpr h3⟩]
        refine ⟨by rw [e5]; exact Fr.wF _ _ (by decide), ?_, ?_⟩
        · rw [e5, mF_221, upE, List.length_tail]
        · rw [e5, mF_1]; exact h.2.tl
    · have e0 : lnkF g la r P al (r p) (r q) T = T := by
        unfold lnkF
        rw [ep, eq, if_pos h1, if_neg]
        intro z
        rw [z, decide_eq_true (by omega)] at h2
        cases h2
      rw [e0]
      exact ⟨Fr.rf μ, h⟩
    · have e0 : lnkF g la r P al (r p) (r q) T = (32, -1) :: T := by
        unfold lnkF
        rw [ep, eq, if_pos h1, if_pos]
        cases c : spF g la r p with
        | true => rfl
        | false => exact absurd (by rw [c, Bool.and_false]) h2
      rw [e0]
      exact ⟨_, hm_put h hT 32 (-1), fun μ2 h2 => h2⟩
  unfold sp_X9_join t_X9_join_0
  refine ⟨_, hm_groupOf hS hp, fun v1 μ1 h1 => ?_⟩
  obtain ⟨rfl, rfl⟩ := h1
  refine ⟨_, hm_groupOf hS hq, fun v2 μ2 h2 => ?_⟩
  obtain ⟨rfl, rfl⟩ := h2
  rw [nI_eqI (by omega) (by omega), cp, cq, a4, b4, nI_eqI (by omega) (by omega), eq32, tp, tq]
  unfold t_X9_join_47
  exact ⟨fun h3 => go 0 ⟨fun z => absurd rfl z, fun z => absurd z.2.2 h3⟩, fun h3 => ⟨ip, iq, fun h4 => go 0 ⟨fun z => absurd rfl z, fun z => absurd h4 z.1⟩, fun h4 => ⟨ip, iq, fun h5 => go 0 ⟨fun z => absurd rfl z, fun z => absurd z.2.1 h5⟩, fun h5 => go 1 ⟨fun _ => ⟨h4, h5, h3⟩, fun _ => by decide⟩⟩⟩⟩
