/-! The class's text. -/
theorem TxC.fr {SI SL SF : List Nat} {g' : Bool} {μ μ' : MemT} {T : TxT} (h : TxC μ T) (hf : Fr SI SL SF g' μ μ') (h1 : ∀ k ∈ [39, 40], k ∉ SI) (h3 : 6 ∉ SF) : TxC μ' T := by
  unfold TxC
  rw [hf.1 39 (h1 39 (by decide)), hf.1 40 (h1 40 (by decide)), hf.2.2.1 6 h3]
  exact h
theorem hs_joinOrPart {μ : MemT} {T : TxT} (h : TxC μ T) (hT : T.length < 600) (x : Int32) : sp_X4_joinOrPart x μ (fun μ' => Fr [39, 40] [] [6] false μ μ' ∧ TxC μ' (jnF x T)) := by
  have blank : ∀ y, jnF x T = (32, -1) :: T → t_X4_joinOrPart_58 (fun μ' => Fr [39, 40] [] [6] false μ μ' ∧ TxC μ' (jnF x T)) x y μ := fun y e => by
    unfold t_X4_joinOrPart_58
    rw [e]
    exact ⟨_, hs_put h hT 32 (-1), fun μ2 h2 => h2⟩
  have no : ¬ ((97 : Int32) ≤ x ∧ x ≤ 122) → t_X4_joinOrPart_16 (fun μ' => Fr [39, 40] [] [6] false μ μ' ∧ TxC μ' (jnF x T)) x μ := fun hz => by
    unfold t_X4_joinOrPart_16 t_X4_joinOrPart_17
    exact ⟨fun _ => blank _ (by unfold jnF; rw [if_neg (fun z => hz z.1)]), fun z => absurd rfl z⟩
  unfold sp_X4_joinOrPart t_X4_joinOrPart_0
  refine ⟨fun h1 => no (fun z => ?_), fun h1 => ⟨fun h2 => no (fun z => ?_), fun h2 => ?_⟩⟩
  · have := z.1
    rw [le32] at this
    rw [lt32] at h1
    omega
  · have := z.2
    rw [le32] at this
    rw [lt32] at h2
    omega
  have sm : (97 : Int32) ≤ x ∧ x ≤ 122 := by
    rw [lt32] at h1 h2
    rw [le32, le32]
    omega
  unfold t_X4_joinOrPart_17
  refine ⟨fun z => absurd z (by decide), fun _ => ?_⟩
  rw [h.1]
  refine ⟨fun h3 => blank _ ?_, fun h3 => ?_⟩
  · rw [le32, tI (by omega)] at h3
    have h3 : (T.length : Int) ≤ 0 := h3
    have : T = [] := List.length_eq_zero_iff.mp (by omega)
    unfold jnF
    rw [if_neg (fun z => by rw [this] at z; exact absurd z.2 (by decide))]
  have pos : 0 < T.length := by
    rw [le32, tI (by omega)] at h3
    have h3 : ¬ (T.length : Int) ≤ 0 := h3
    omega
  have e1 : nI T.length - (1 : Int32) = nI (T.length - 1) := by
    have : T.length = (T.length - 1) + 1 := by omega
    rw [this, ← nI_1]
    simp
  rw [e1, cI (by omega)]
  have hy := h.2.hyp pos
  refine ⟨inI (by omega) (by decide), fun h4 => blank _ ?_, fun h4 μ2 e2 => ?_⟩
  · unfold jnF
    rw [if_neg (fun z => h4 (hy.mp z.2))]
  · unfold jnF
    rw [if_pos ⟨sm, hy.mpr h4⟩]
    refine ⟨by rw [e2]; exact Fr.wF _ _ (by decide), ?_, ?_⟩
    · rw [e2, mF_221, upE, List.length_tail]
    · rw [e2, mF_1]
      exact h.2.tl
theorem nI_eqI {a b : Nat} (ha : a < 2147483648) (hb : b < 2147483648) : (nI a = nI b) ↔ a = b := nI_eq ha hb
set_option maxHeartbeats 2000000 in
theorem hs_link {g : PgT} {μ : MemT} {la r : Nat → Nat} {P : Nat} {al : Nat → Nat} (hS : ScA μ g la r P al) {T : TxT} (h : TxC μ T) (hT : T.length < 600) {p q : Nat} (hp : p < P) (hq : q < P) : sp_X4_link (nI (r p)) (nI (r q)) μ (fun μ' => Fr [39, 40] [] [6] false μ μ' ∧ TxC μ' (lnkF g la r P al (r p) (r q) T)) := by
  have hn := hS.1.1.1
  have hP := hS.2.1
  have hi := hS.2.2.2.2
  have ep : sX r P (r p) = p := sX_at hi hp
  have eq : sX r P (r q) = q := sX_at hi hq
  have bp : bkN g la r P al (r p) = al (sgF g la r p) := by unfold bkN; rw [ep]
  have bq : bkN g la r P al (r q) = al (sgF g la r q) := by unfold bkN; rw [eq]
  obtain ⟨a1, a2, a3, a4, a5, a6, a7⟩ := hS.2.2.2.1 p hp
  obtain ⟨b1, b2, b3, b4, b5, b6, b7⟩ := hS.2.2.2.1 q hq
  have sp := sgF_le g la r p
  have sq := sgF_le g la r q
  have tp := (hS.1.2.1.2.1 (r p) a1).2.2.2.2.2.2
  have tq := (hS.1.2.1.2.1 (r q) b1).2.2.2.2.2.2
  have ip : vp_in (nI (r p)) 200 := inI (by omega) (by decide)
  have iq : vp_in (nI (r q)) 200 := inI (by omega) (by decide)
  have cp : (nI (r p)).toNatClampNeg = r p := cI (by omega)
  have cq : (nI (r q)).toNatClampNeg = r q := cI (by omega)
  have feed : ∀ y, lnkF g la r P al (r p) (r q) T = (10, -1) :: T → t_X4_link_114 (fun μ' => Fr [39, 40] [] [6] false μ μ' ∧ TxC μ' (lnkF g la r P al (r p) (r q) T)) (nI (r p)) (nI (r q)) y μ := fun y e => by
    unfold t_X4_link_114
    rw [e]
    exact ⟨_, hs_put h hT 10 (-1), fun μ2 h2 => h2⟩
  have rest : ∀ y : Int32, (y = 0 ↔ ¬ sgF g la r p = sgF g la r q) → ¬ (sgF g la r p = sgF g la r q ∧ q = p + 1) → t_X4_link_68 (fun μ' => Fr [39, 40] [] [6] false μ μ' ∧ TxC μ' (lnkF g la r P al (r p) (r q) T)) (nI (r p)) (nI (r q)) y μ := fun y hy hz => by
    have e0 : lnkF g la r P al (r p) (r q) T = if ¬ sgF g la r p = sgF g la r q ∧ pG g (r p) = pG g (r q) ∧ al (sgF g la r p) = al (sgF g la r q) then jnF (gL1 g (r q)) T else (10, -1) :: T := by
      unfold lnkF
      rw [ep, eq, bp, bq, if_neg hz]
    unfold t_X4_link_68
    rw [cp, cq]
    refine ⟨fun h1 => feed _ ?_, fun h1 => ⟨ip, iq, fun h2 => feed _ ?_, fun h2 => ⟨_, hs_areOfOne hS hp hq, fun v μ4 h4 => ?_⟩⟩⟩
    · rw [e0, if_neg (fun z => h1 (hy.mpr z.1))]
    · rw [e0, if_neg (fun z => h2 (by rw [eq32, tp, tq]; exact z.2.1))]
    obtain ⟨rfl, h4⟩ := h4
    refine ⟨fun h5 => feed _ ?_, fun h5 => ⟨iq, _, hs_joinOrPart h hT _, fun μ9 h9 => ?_⟩⟩
    · rcases h4 with ⟨c, -⟩ | ⟨-, c⟩
      · rw [h5] at c; exact absurd c (by decide)
      · rw [e0, if_neg (fun z => c z.2.2)]
    · rcases h4 with ⟨-, c⟩ | ⟨c, -⟩
      · rw [e0, if_pos ⟨hy.mp h1, by rw [eq32, tp, tq] at h2; exact h2, c⟩, ← (hS.1.2.2 (r q) b1).2.2.1]
        exact h9
      · exact absurd c h5
  unfold sp_X4_link t_X4_link_0
  rw [cp, cq, a4, b4, nI_eqI (by omega) (by omega)]
  refine ⟨ip, iq, fun h1 => ?_, fun h1 => ?_⟩
  · unfold t_X4_link_22
    exact ⟨fun _ => rest 0 ⟨fun _ => h1, fun _ => rfl⟩ (fun z => h1 z.1), fun z => absurd rfl z⟩
  · unfold t_X4_link_22
    rw [cp, cq, a3, b3, nI_1, nI_eqI (by omega) (by omega)]
    refine ⟨fun z => absurd z (by decide), fun _ => ⟨iq, ip, fun h2 => rest 1 ⟨fun z => absurd z (by decide), fun z => absurd h1 z⟩ (fun z => h2 z.2), fun h2 => ⟨ip, fun h3 => ?_, fun h3 => ?_⟩⟩⟩
    · rw [a5, b01_0] at h3
      have e0 : lnkF g la r P al (r p) (r q) T = T := by
        unfold lnkF
        rw [ep, eq, if_pos ⟨h1, h2⟩, if_neg]
        intro z
        rw [z, decide_eq_true (by omega)] at h3
        cases h3
      rw [e0]
      exact ⟨Fr.rf μ, h⟩
    · rw [a5, b01_0] at h3
      have e0 : lnkF g la r P al (r p) (r q) T = (32, -1) :: T := by
        unfold lnkF
        rw [ep, eq, if_pos ⟨h1, h2⟩, if_pos]
        cases c : spF g la r p with
        | true => rfl
        | false => exact absurd (by rw [c, Bool.and_false]) h3
      rw [e0]
      exact ⟨_, hs_put h hT 32 (-1), fun μ2 h2 => h2⟩
set_option maxHeartbeats 2000000 in
theorem hs_write {g : PgT} {μ : MemT} {la r : Nat → Nat} {P : Nat} {al : Nat → Nat} (hS : ScA μ g la r P al) (hE : ∀ p q, p < q → q < P → gBf g la (r p) (r q)) : sp_X4_write μ (fun μ' => Fr [39, 40, 41, 42] [] [6] false μ μ' ∧ ∃ τ, Enm (fun s => ∃ p, p < P ∧ r p = s) (rdB g la r P al) τ P ∧ TxC μ' (txF g la r P al τ P)) := by
  have hn := hS.1.1.1
  have hP := hS.2.1
  intro K hK
  unfold t_X4_write_0
  refine ⟨_, hs_bringInOrder hS hE, fun μ2 h2 μ4 e4 => ?_⟩
  obtain ⟨f2, τ, En, ho⟩ := h2
  have f4 : Fr [39, 40, 41, 42] [] [6] false μ μ4 := (f2.mono (by decide) (by decide) (by decide) (fun h => h)).tr (by rw [e4]; exact Fr.wF _ _ (by decide))
  have o4 : μ4.1 41 = μ2.1 41 := by rw [e4, mF_1]
  have key : ∀ q i μ1, q + i = P → Fr [39, 40, 41, 42] [] [6] false μ μ1 → μ1.1 41 = μ2.1 41 → TxC μ1 (txF g la r P al τ i) → K (nI i) μ1 := by
    intro q
    induction q with
    | zero =>
      intro i μ1 hi hf ho1 hT
      have e : i = P := by omega
      subst e
      apply hK
      unfold t_X4_write_18
      rw [hf.2.2.1 3 (by decide), hS.2.2.1]
      exact ⟨fun _ => ⟨hf, τ, En, hT⟩, fun h => absurd (by rw [nI_leI (by omega) (by omega)]; omega) h⟩
    | succ q ih =>
      intro i μ1 hi hf ho1 hT
      have hS1 : ScA μ1 g la r P al := hS.fr hf (by decide) (by decide) (by decide)
      obtain ⟨k, k1, k2⟩ := En.1 i (by omega)
      have kn := (hS1.2.2.2.1 k k1).1
      have hl := txF_len g la r P al τ i
      -- a sign's letters
      have put : ∀ μ5 T, T.length + 2 ≤ 600 → Fr [39, 40, 41, 42] [] [6] false μ μ5 → μ5.1 41 = μ2.1 41 → TxC μ5 T → putF g (τ i) T = txF g la r P al τ (i + 1) → t_X4_write_63 K (fun μ' => Fr [39, 40, 41, 42] [] [6] false μ μ' ∧ ∃ τ, Enm (fun s => ∃ p, p < P ∧ r p = s) (rdB g la r P al) τ P ∧ TxC μ' (txF g la r P al τ P)) (nI i) (nI (τ i)) μ5 := by
        intro μ5 T hTl hf5 ho5 hT5 he
        have hS5 : ScA μ5 g la r P al := hS.fr hf5 (by decide) (by decide) (by decide)
        have hA5 := hS5.1.2.2 (r k) kn
        unfold t_X4_write_63
        rw [← k2, cI (by omega), hA5.2.2.1]
        refine ⟨inI (by omega) (by decide), _, hs_put hT5 (by omega) _ _, fun μ6 h6 => ⟨inI (by omega) (by decide), ?_⟩⟩
        obtain ⟨f6, t6⟩ := h6
        have e6 : μ6.1 22 (r k) = gL2 g (r k) := by rw [f6.1 22 (by decide)]; exact hA5.2.2.2
        have f6' := hf5.tr (f6.mono (by decide) (by decide) (by decide) (fun h => h))
        rw [e6, nI_1]
        refine ⟨fun h7 => ih (i + 1) μ6 (by omega) f6' ((f6.1 41 (by decide)).trans ho5) ?_, fun h7 => ⟨inI (by omega) (by decide), _, hs_put t6 (by simp only [List.length_cons]; omega) _ _, fun μ8 h8 => ?_⟩⟩
        · rw [← he, ← k2]
          unfold putF
          rw [if_pos h7]
          exact t6
        · obtain ⟨f8, t8⟩ := h8
          refine ih (i + 1) μ8 (by omega) (f6'.tr (f8.mono (by decide) (by decide) (by decide) (fun h => h))) ((f8.1 41 (by decide)).trans ((f6.1 41 (by decide)).trans ho5)) ?_
          rw [← he, ← k2]
          unfold putF
          rw [if_neg h7]
          exact t8
      apply hK
      unfold t_X4_write_18
      rw [hS1.2.2.1, cI (by omega : i < 2147483648), ho1, ho i (by omega)]
      refine ⟨fun h => ?_, fun _ => ⟨inI (by omega) (by decide), fun h => ?_, fun h => ?_⟩⟩
      · exfalso
        rw [nI_leI (by omega) (by omega)] at h
        omega
      · have i0 : i = 0 := by
          rw [le32, tI (by omega)] at h
          have h : (i : Int) ≤ 0 := h
          omega
        refine put μ1 [] (by simp) hf ho1 ?_ ?_
        · rw [i0] at hT; exact hT
        · rw [i0]; rfl
      · have i0 : i ≠ 0 := fun z => h (by rw [z]; decide)
        have e1 : nI i - (1 : Int32) = nI (i - 1) := by
          have : i = (i - 1) + 1 := by omega
          rw [this, ← nI_1]
          simp
        obtain ⟨k', k1', k2'⟩ := En.1 (i - 1) (by omega)
        rw [e1, cI (by omega : i - 1 < 2147483648), ho (i - 1) (by omega), ← k2, ← k2']
        refine ⟨inI (by omega) (by decide), _, hs_link hS1 hT (by omega) k1' k1, fun μ5 h5 => ?_⟩
        obtain ⟨f5, t5⟩ := h5
        have hl2 := lnkF_len g la r P al (r k') (r k) (txF g la r P al τ i)
        rw [k2] at t5 hl2 ⊢
        rw [k2'] at t5 hl2
        refine put μ5 _ (by omega) (hf.tr (f5.mono (by decide) (by decide) (by decide) (fun h => h))) ((f5.1 41 (by decide)).trans ho1) t5 ?_
        show _ = putF g (τ i) (if i = 0 then [] else lnkF g la r P al (τ (i - 1)) (τ i) (txF g la r P al τ i))
        rw [if_neg i0]
  exact key P 0 μ4 (by omega) f4 o4 ⟨by rw [e4, mF_221, upE]; rfl, trivial⟩
