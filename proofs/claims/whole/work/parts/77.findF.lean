/-! Finding: both together. -/
set_option maxHeartbeats 2000000 in
theorem k_find {μ : MemT} {g : PgT} (h : RR μ g) {xs : Nat → Int32} {L : Nat} {x4 : Int32} (hv : ∀ k, k < 9 → vp_in (x4 + nI k) L) : tw_1125 KR xs L x4 μ := by
  obtain ⟨k, hk, h7, h16, hkk⟩ := h.2.2.2.2.2.2.2.1
  unfold tw_1125
  generalize xs (x4 + (1 : Int32)).toNatClampNeg = x
  refine ⟨hv 1 (by decide), _, c_find h hk h7 x, fun r5 μ3 h3 => ⟨hv 1 (by decide), ?_⟩⟩
  have M3 : HasM μ3 g ∧ (¬ μ3.2.2.1 11 = 0 → DvM μ3 g) ∧ μ3.2.2.1 16 = nI k := by
    rcases h3 with ⟨-, -, rfl⟩ | ⟨-, -, -, -, rfl⟩ | ⟨-, -, -, -, f3, -⟩ | ⟨-, -, μ2, f2, -, R2, f3, -⟩
    · exact ⟨h.2.2.2.1, h.2.2.2.2.2.2.1, h16⟩
    · exact ⟨h.2.2.2.1, h.2.2.2.2.2.2.1, h16⟩
    · exact ⟨h.2.2.2.1.fr f3 (by decide) (by decide) (by decide), fun u => (h.2.2.2.2.2.2.1 (by rw [f3.2.2.1 11 (by decide)] at u; exact u)).fr f3 (by decide) (by decide), by rw [f3.2.2.1 16 (by decide)]; exact h16⟩
    · exact ⟨R2.2.2.2.1.fr f3 (by decide) (by decide) (by decide), fun u => (R2.2.2.2.2.2.2.1 (by rw [f3.2.2.1 11 (by decide)] at u; exact u)).fr f3 (by decide) (by decide), by rw [f3.2.2.1 16 (by decide), f2.2.2.1 16 (by decide)]; exact h16⟩
  refine ⟨_, m_find h.1 h.2.1 M3.1 M3.2.1 hk M3.2.2 x, fun r10 μ8 h8 => ⟨_, m_thrown, fun r14 μ12 h12 => ?_⟩⟩
  obtain ⟨rfl, rfl⟩ := h12
  rcases h3 with ⟨rfl, no, rfl⟩ | ⟨rfl, ok, x0, k20, rfl⟩ | ⟨rfl, ok, x0, k20, f3, u44, u7, o3⟩ | ⟨rfl, x0, μ2, f2, n2, R2, f3, z7, m, n, m1, m2, n1, n8, o3, ne, nh⟩
  · rcases h8 with ⟨v, -, f8⟩ | ⟨v, ok, -⟩ | ⟨v, ok, -⟩ | ⟨v, x0, -⟩
    · exact endK v (fun z => absurd z (by decide)) ⟨g, h.o (f8.mono (by decide) (by decide) (by decide) (fun h => by cases h))⟩
    · exact absurd ok no
    · exact absurd ok no
    · exact absurd (by rw [x0]; decide) no
  · rcases h8 with ⟨v, no, -⟩ | ⟨v, -, -, -, f8⟩ | ⟨v, -, -, lt, -⟩ | ⟨v, e, -⟩
    · exact absurd ok no
    · exact endK v (fun z => absurd z (by decide)) ⟨g, h.o (f8.mono (by decide) (by decide) (by decide) (fun h => by cases h))⟩
    · omega
    · exact absurd e x0
  · rcases h8 with ⟨v, no, -⟩ | ⟨v, -, -, full, -⟩ | ⟨v, -, -, -, f8, u74, u16, rfl⟩ | ⟨v, e, -⟩
    · exact absurd ok no
    · omega
    · refine endK v (fun _ => ?_) ⟨g, ?_⟩
      · rw [show μ12.2.1 76 (0 : Int32).toNatClampNeg = μ12.2.1 76 0 from rfl, f8.2.1 76 (by decide), o3]
      · obtain ⟨a1, a2, a3, a4, a5, a6, a7, -, hh, b1, b2, b3, b4⟩ := h
        refine ⟨a1, a2, (a3.fr f3 (by decide) (by decide) (by decide)).fr f8 (by decide) (by decide) (by decide), (a4.fr f3 (by decide) (by decide) (by decide)).fr f8 (by decide) (by decide) (by decide), ?_, fun u => ((a6 (by rw [f8.2.2.1 0 (by decide), f3.2.2.1 0 (by decide)] at u; exact u)).fr f3 (by decide) (by decide)).fr f8 (by decide) (by decide), fun u => ((a7 (by rw [f8.2.2.1 11 (by decide), f3.2.2.1 11 (by decide)] at u; exact u)).fr f3 (by decide) (by decide)).fr f8 (by decide) (by decide), ⟨k + 1, by omega, by rw [f8.2.2.1 7 (by decide)]; exact u7, u16, fun i hi => ?_⟩, hh, b1, by rw [f8.2.2.1 8 (by decide), f3.2.2.1 8 (by decide)]; exact b2, by rw [f8.2.2.1 17 (by decide), f3.2.2.1 17 (by decide)]; exact b3, by rw [f8.1 43 (by decide), f3.1 43 (by decide), f8.1 75 (by decide), f3.1 75 (by decide)]; exact b4⟩
        · rw [f8.1 15 (by decide), f3.1 15 (by decide), f8.1 50 (by decide), f3.1 50 (by decide)]; exact a5
        · rw [f8.1 44 (by decide), u44, u74, f3.1 74 (by decide)]
          by_cases e : i = k
          · rw [e, udE, udE]
          · rw [udN _ _ e, udN _ _ e]; exact hkk i (by omega)
    · exact absurd e x0
  · rcases h8 with ⟨v, no, -⟩ | ⟨v, -, e, -⟩ | ⟨v, -, e, -⟩ | ⟨v, -, μ7, f7, n7, D7, f8, z16, m', n', m1', m2', n1', n17, rfl, ne', nh'⟩
    · exact absurd (by rw [x0]; decide) no
    · exact absurd x0 e
    · exact absurd x0 e
    · -- the same text
      have D2 : DvC μ7 g := ((R2.2.2.2.2.2.1 n2).fr f3 (by decide) (by decide)).fr f7 (by decide) (by decide)
      obtain ⟨-, q, q1, q2, q3, B⟩ := both h.1 D2 D7
      rw [f7.2.2.1 6 (by decide), f3.2.2.1 6 (by decide), m2] at q2
      rw [m2'] at q3
      have em : m = q := nI_inj (by omega) (by omega) q2
      have em' : m' = q := nI_inj (by omega) (by omega) q3
      subst em
      subst em'
      have eL : ∀ j, j < m' → μ2.1 39 j = μ7.1 72 j := fun j hj => by
        have := (B j hj).1
        rw [f7.1 39 (by decide), f3.1 39 (by decide)] at this
        exact this
      have k74 : μ3.1 74 = μ.1 74 := by rw [f3.1 74 (by decide), f2.1 74 (by decide)]
      have eS : ∀ j, j < k → μ.1 44 j = μ3.1 74 j := fun j hj => by rw [k74]; exact hkk j hj
      have en : n = n' := by
        rw [ne, ne']
        by_cases c : k = 0
        · rw [if_pos c, if_pos c]
        · rw [if_neg c, if_neg c, hcF_cg eL eS]
      subst en
      have F : Fr [43] [76] [7, 8] false μ2 μ3 := f3
      have fa : ∀ c, c ∉ [43] → c ∉ lkI → c ∉ [75] → μ12.1 c = μ2.1 c := fun c c1 c2 c3 => by rw [f8.1 c c3, f7.1 c c2, f3.1 c c1]
      refine endK v (fun _ => ?_) ⟨g, ?_⟩
      · rw [show μ12.2.1 76 (0 : Int32).toNatClampNeg = μ12.2.1 76 0 from rfl, f8.2.1 76 (by decide), f7.2.1 76 (by decide), o3]
      · obtain ⟨a1, a2, a3, a4, a5, a6, a7, -⟩ := R2
        refine ⟨a1, a2, ((a3.fr f3 (by decide) (by decide) (by decide)).fr f7 (by decide) (by decide) (by decide)).fr f8 (by decide) (by decide) (by decide), ((a4.fr f3 (by decide) (by decide) (by decide)).fr f7 (by decide) (by decide) (by decide)).fr f8 (by decide) (by decide) (by decide), ?_, fun _ => D2.fr f8 (by decide) (by decide), fun _ => D7.fr f8 (by decide) (by decide), ⟨0, by omega, ?_, z16, fun i hi => absurd hi (by omega)⟩, n, n1, ?_, n17, fun i hi => ?_⟩
        · rw [fa 15 (by decide) (by decide) (by decide), fa 50 (by decide) (by decide) (by decide)]; exact a5
        · rw [f8.2.2.1 7 (by decide), f7.2.2.1 7 (by decide)]; exact z7
        · rw [f8.2.2.1 8 (by decide), f7.2.2.1 8 (by decide)]; exact n8
        · have hk0 : 0 < k := by
            rcases Nat.eq_zero_or_pos k with c | c
            · rw [if_pos c] at ne; omega
            · exact c
          rw [f8.1 43 (by decide), f7.1 43 (by decide)]
          have H1 := (nh hk0).cgL eL eS
          have H2 := nh' hk0
          refine H1.one H2 i ?_
          rw [if_neg (by omega)] at ne'
          rw [← ne']
          exact hi
/-- a turn of the law's loop -/
theorem k_33 {μ : MemT} (hμ : KR μ) {xs : Nat → Int32} {L : Nat} {x4 : Int32} (hv0 : vp_in x4 L) (hv : ∀ k, k < 9 → vp_in (x4 + nI k) L) : tw_33 KR xs L x4 μ := by
  obtain ⟨g, h⟩ := hμ
  unfold tw_33
  exact ⟨hv0, fun _ => k_sign h hv, fun _ => k_turn h hv, fun _ => k_map h hv, fun _ => k_tag h hv, fun _ => k_length h, fun _ => k_letter h hv, fun _ => k_from h hv, fun _ => k_line h hv, fun _ => k_block h hv, fun _ => k_twice h hv, fun _ => k_space h hv, fun _ => k_share h hv, fun _ => k_word h hv, fun _ => k_find h hv, fun _ => k_found h hv, fun _ => k_area h hv⟩
