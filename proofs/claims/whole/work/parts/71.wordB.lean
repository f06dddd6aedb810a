/-! Asking of a word. -/
def WN (L : Nat → Int32) (m : Nat) (x1 x2 : Int32) : Prop := x1 ≠ -1 ∧ ((∀ k, k < m → stW L k = true → nI (wcF L k) ≠ x1) ∨ ¬ (0 ≤ x2.toInt ∧ x2.toInt ≤ 1))
def WV (L : Nat → Int32) (m : Nat) (x1 x2 v : Int32) : Prop := (x1 = -1 ∧ v = nI (wcF L m)) ∨ (x1 ≠ -1 ∧ (0 ≤ x2.toInt ∧ x2.toInt ≤ 1) ∧ ∃ k, k < m ∧ stW L k = true ∧ nI (wcF L k) = x1 ∧ ((x2 = 0 ∧ v = nI k) ∨ (¬ x2 = 0 ∧ ∃ e, k ≤ e ∧ e ≤ m ∧ v = nI (e - k) ∧ (∀ j, k ≤ j → j < e → inW L j = true) ∧ (e < m → inW L e = false))))
theorem WV.no {L : Nat → Int32} {m : Nat} {x1 x2 v : Int32} (h : WV L m x1 x2 v) : ¬ WN L m x1 x2 := by
  intro hn
  rcases h with ⟨a, -⟩ | ⟨a, b, k, k1, k2, k3, -⟩
  · exact hn.1 a
  · rcases hn.2 with c | c
    · exact c k k1 k2 k3
    · exact c b
theorem WV.one {L : Nat → Int32} {m : Nat} {x1 x2 v v' : Int32} (hm : m ≤ 600) (h : WV L m x1 x2 v) (h' : WV L m x1 x2 v') : v = v' := by
  rcases h with ⟨a, rfl⟩ | ⟨a, b, k, k1, k2, k3, k4⟩ <;> rcases h' with ⟨a', rfl⟩ | ⟨a', b', k', k1', k2', k3', k4'⟩
  · rfl
  · exact absurd a a'
  · exact absurd a' a
  · have w1 := wcF_le L k
    have w2 := wcF_le L k'
    have e : wcF L k = wcF L k' := nI_inj (by omega) (by omega) (k3.trans k3'.symm)
    have ek : k = k' := by
      rcases Nat.lt_trichotomy k k' with c | c | c
      · have := wcF_lt L c k2; omega
      · exact c
      · have := wcF_lt L c k2'; omega
    subst ek
    rcases k4 with ⟨z, rfl⟩ | ⟨z, e1, p1, p2, rfl, p4, p5⟩ <;> rcases k4' with ⟨z', rfl⟩ | ⟨z', e1', p1', p2', rfl, p4', p5'⟩
    · rfl
    · exact absurd z z'
    · exact absurd z' z
    · have : e1 = e1' := by
        rcases Nat.lt_trichotomy e1 e1' with c | c | c
        · have u := p5 (by omega)
          rw [p4' e1 p1 c] at u
          cases u
        · exact c
        · have u := p5' (by omega)
          rw [p4 e1' p1' c] at u
          cases u
      rw [this]
theorem WV.cg {L L' : Nat → Int32} {m : Nat} {x1 x2 v : Int32} (h : WV L m x1 x2 v) (e : ∀ j, j < m → L j = L' j) : WV L' m x1 x2 v := by
  rcases h with ⟨a, b⟩ | ⟨a, b, k, k1, k2, k3, k4⟩
  · exact Or.inl ⟨a, by rw [← wcF_cg m e]; exact b⟩
  · refine Or.inr ⟨a, b, k, k1, by rw [← stW_cg (fun j hj => e j (by omega))]; exact k2, by rw [← wcF_cg k (fun j hj => e j (by omega))]; exact k3, ?_⟩
    rcases k4 with z | ⟨z, e1, p1, p2, p3, p4, p5⟩
    · exact Or.inl z
    · exact Or.inr ⟨z, e1, p1, p2, p3, fun j h1 h2 => by rw [← inW_cg (e j (by omega))]; exact p4 j h1 h2, fun q => by rw [← inW_cg (e e1 q)]; exact p5 q⟩
set_option maxHeartbeats 1000000 in
theorem c_word {μ : MemT} {g : PgT} (h : RR μ g) (x1 x2 : Int32) : sl_L_word x1 x2 μ (fun r μ' => RR μ' g ∧ ¬ μ'.2.2.1 0 = 0 ∧ ∃ m, m ≤ 600 ∧ μ'.2.2.1 6 = nI m ∧ ((r = 1 ∧ WN (μ'.1 39) m x1 x2) ∨ (r = 0 ∧ ∃ v, WV (μ'.1 39) m x1 x2 v ∧ μ'.2.1 76 0 = v.toInt64))) := by
  have e1 : (1 : Int32).toInt = 1 := by decide
  unfold sl_L_word tl_L_word_0
  refine ⟨fun r μ' => RR μ' g ∧ ¬ μ'.2.2.1 0 = 0 ∧ ∃ m, m ≤ 600 ∧ μ'.2.2.1 6 = nI m ∧ WV (μ'.1 39) m x1 x2 r, fun X μ' => X = "java/lang/IndexOutOfBoundsException" ∧ RR μ' g ∧ ¬ μ'.2.2.1 0 = 0 ∧ ∃ m, m ≤ 600 ∧ μ'.2.2.1 6 = nI m ∧ WN (μ'.1 39) m x1 x2, ?_, fun X μ0 hX => ?_, fun r μ2 h2 => ?_⟩
  · unfold sx_X8_word tx_X8_word_0
    refine ⟨_, c_refresh h, fun μ2 q => ?_⟩
    obtain ⟨-, n2, R2⟩ := q
    obtain ⟨m, m1, m2, -⟩ := tlen R2.1 (R2.2.2.2.2.2.1 n2)
    refine ⟨fun z => ?_, fun z => ⟨_, c_countWords m1 m2, fun r μ4 h4 => by obtain ⟨rfl, rfl⟩ := h4; exact ⟨R2, n2, m, m1, m2, Or.inl ⟨z, rfl⟩⟩⟩⟩
    have bad : ¬ (0 ≤ x2.toInt ∧ x2.toInt ≤ 1) → ("java/lang/IndexOutOfBoundsException" = "java/lang/IndexOutOfBoundsException" ∧ RR μ2 g ∧ ¬ μ2.2.2.1 0 = 0 ∧ ∃ m, m ≤ 600 ∧ μ2.2.2.1 6 = nI m ∧ WN (μ2.1 39) m x1 x2) := fun u => ⟨rfl, R2, n2, m, m1, m2, z, Or.inr u⟩
    rw [lt32, lt32, le32, t_0, e1]
    refine ⟨fun z1 => ⟨rfl, R2, n2, m, m1, m2, z, Or.inl (fun k k1 k2 k3 => ?_)⟩, fun z1 => ⟨fun z2 => bad (by omega), fun z2 => ⟨fun z3 => ⟨_, c_startOfWord m1 m2 x1, fun r7 μ5 h5 => ?_⟩, fun z3 => bad (by omega)⟩⟩⟩
    · have := wcF_le (μ2.1 39) k
      rw [← k3, tI (by omega)] at z1
      omega
    · obtain ⟨rfl, h5⟩ := h5
      rcases h5 with ⟨rfl, no⟩ | ⟨k, k1, k2, k3, rfl⟩
      · exact ⟨fun u => absurd u (by decide), fun _ => ⟨rfl, R2, n2, m, m1, m2, z, Or.inl no⟩⟩
      · refine ⟨fun _ => ⟨fun z4 => ⟨_, c_endOfWord m1 (by omega) m2, fun r11 μ9 h9 => ?_⟩, fun z4 => ⟨R2, n2, m, m1, m2, Or.inr ⟨z, by omega, k, k1, k2, k3, Or.inl ⟨z4, rfl⟩⟩⟩⟩, fun u => absurd (nI_0le (by omega)) u⟩
        obtain ⟨rfl, e, p1, p2, rfl, p4, p5⟩ := h9
        refine ⟨R2, n2, m, m1, m2, Or.inr ⟨z, by omega, k, k1, k2, k3, Or.inr ⟨z4, e, p1, p2, ?_, p4, p5⟩⟩⟩
        rw [eq32, fb_subI (by rw [tI (by omega), tI (by omega)]; omega) (by rw [tI (by omega), tI (by omega)]; omega), tI (by omega), tI (by omega), tI (by omega)]
        omega
  · obtain ⟨p1, p2, p3, m, m1, m2, p4⟩ := hX
    exact ⟨p1, p2, p3, m, m1, m2, Or.inl ⟨rfl, p4⟩⟩
  · obtain ⟨R2, n2, m, m1, m2, w⟩ := h2
    refine ⟨vp0, fun μ6 e6 => ?_⟩
    obtain ⟨f6, R6, o6⟩ := R2.fin e6
    rw [f6.2.2.1 0 (by decide), f6.2.2.1 6 (by decide), f6.1 39 (by decide)]
    exact ⟨R6, n2, m, m1, m2, Or.inr ⟨rfl, r, w, o6⟩⟩
set_option maxHeartbeats 2000000 in
theorem m_word {μ : MemT} {g : PgT} (h : RR μ g) (x1 x2 : Int32) : sp_X9_word x1 x2 μ (fun r μ' => RR μ' g ∧ Fr lkI lkL [9, 11, 12, 13, 14, 15] true μ μ' ∧ DvM μ' g ∧ ∃ m, m ≤ 600 ∧ μ'.2.2.1 15 = nI m ∧ ((μ'.2.2.1 9 = 1 ∧ WN (μ'.1 72) m x1 x2) ∨ (μ'.2.2.1 9 = 0 ∧ WV (μ'.1 72) m x1 x2 r))) := by
  intro K12 K124 h12 h124
  unfold t_X9_word_0
  refine ⟨_, m_look h, fun μ2 q2 => ?_⟩
  have R2 := h.look q2
  have F2 : Fr lkI lkL [9, 11, 12, 13, 14, 15] true μ μ2 := q2.1.mono (by decide) (by decide) (by decide) (fun h => h)
  obtain ⟨m, m1, m2, -⟩ := tlenM R2.1 q2.2.2
  generalize hP : (fun r μ' => RR μ' g ∧ Fr lkI lkL [9, 11, 12, 13, 14, 15] true μ μ' ∧ DvM μ' g ∧ ∃ m, m ≤ 600 ∧ μ'.2.2.1 15 = nI m ∧ ((μ'.2.2.1 9 = 1 ∧ WN (μ'.1 72) m x1 x2) ∨ (μ'.2.2.1 9 = 0 ∧ WV (μ'.1 72) m x1 x2 r))) = P at h12 h124 ⊢
  -- at the end of the search
  have fin : ∀ (x4 x5 y : Int32), (y = 0 ↔ ¬ WN (μ2.1 72) m x1 x2) → (y = 0 → x1 ≠ -1 → (0 ≤ x2.toInt ∧ x2.toInt ≤ 1) ∧ ∃ k, k < m ∧ stW (μ2.1 72) k = true ∧ nI (wcF (μ2.1 72) k) = x1 ∧ x4 = nI k) → t_X9_word_91 K12 K124 P x1 x2 (nI (wcF (μ2.1 72) m)) x4 x5 y μ2 := by
    intro x4 x5 y hy hk
    unfold t_X9_word_91
    refine ⟨_, m_refused _ _, fun r6 μ6 h6 => ?_⟩
    obtain ⟨f6, v6, z6⟩ := h6
    have R6 := R2.o (f6.mono (by decide) (by decide) (by decide) (fun h => by cases h))
    have F6 : Fr lkI lkL [9, 11, 12, 13, 14, 15] true μ μ6 := F2.tr (f6.mono (by decide) (by decide) (by decide) (fun h => by cases h))
    have D6 : DvM μ6 g := q2.2.2.fr f6 (by decide) (by decide)
    have m6 : μ6.2.2.1 15 = nI m := by rw [f6.2.2.1 15 (by decide)]; exact m2
    have k72 : μ6.1 72 = μ2.1 72 := f6.1 72 (by decide)
    have done : ∀ r, μ6.2.2.1 9 = 0 → WV (μ2.1 72) m x1 x2 r → P r μ6 := fun r u w => by
      rw [← hP]
      exact ⟨R6, F6, D6, m, m1, m6, Or.inr ⟨u, by rw [k72]; exact w⟩⟩
    refine ⟨fun u => ?_, fun u => ?_⟩
    · obtain ⟨y0, -⟩ := z6.mp u
      have v0 : μ6.2.2.1 9 = 0 := by rw [v6, if_pos y0, if_pos rfl]
      unfold t_X9_word_109
      refine ⟨fun z => ⟨fun z1 => absurd z z1, fun _ => done _ v0 (Or.inl ⟨z, rfl⟩)⟩, fun z => ?_⟩
      obtain ⟨b, k, k1, k2, k3, rfl⟩ := hk y0 z
      refine ⟨fun z2 => ?_, fun z2 => ⟨fun _ => done _ v0 (Or.inr ⟨z, b, k, k1, k2, k3, Or.inl ⟨z2, rfl⟩⟩), fun z1 => absurd z1 z⟩⟩
      have many : ∀ q j, q + (k + j) = m → (∀ i, k ≤ i → i < k + j → inW (μ2.1 72) i = true) → K124 x1 x2 (nI (wcF (μ2.1 72) m)) (nI k) (nI j) μ6 := by
        intro q
        induction q with
        | zero =>
          intro j hj hall
          apply h124
          unfold t_X9_word_124
          rw [nI_add']
          refine ⟨_, m_isBlank m1 (by omega) m6, fun r μ7 h7 => ?_⟩
          obtain ⟨rfl, h7⟩ := h7
          refine ⟨fun _ => done _ v0 (Or.inr ⟨z, b, k, k1, k2, k3, Or.inr ⟨z2, m, by omega, Nat.le_refl m, by congr 1; omega, fun i i1 i2 => hall i i1 (by omega), fun w => absurd w (by omega)⟩⟩), fun w => ?_⟩
          rcases h7 with ⟨-, p, -⟩ | ⟨p, -⟩
          · omega
          · rw [w] at p; exact absurd p (by decide)
        | succ q ih =>
          intro j hj hall
          apply h124
          unfold t_X9_word_124
          rw [nI_add', nI_1]
          refine ⟨_, m_isBlank m1 (by omega) m6, fun r μ7 h7 => ?_⟩
          obtain ⟨rfl, h7⟩ := h7
          rw [k72] at h7
          refine ⟨fun w => ?_, fun w => ih (j + 1) (by omega) (fun i i1 i2 => ?_)⟩
          · rcases h7 with ⟨p, -⟩ | ⟨-, p⟩
            · exact absurd p w
            · refine done _ v0 (Or.inr ⟨z, b, k, k1, k2, k3, Or.inr ⟨z2, k + j, by omega, by omega, by congr 1; omega, hall, fun w2 => ?_⟩⟩)
              cases c : inW (μ2.1 72) (k + j)
              · rfl
              · exact absurd ⟨w2, c⟩ p
          · by_cases e : i = k + j
            · rw [e]
              rcases h7 with ⟨-, -, p⟩ | ⟨p, -⟩
              · exact p
              · rw [w] at p; exact absurd p (by decide)
            · exact hall i i1 (by omega)
      exact many (m - k) 0 (by omega) (fun i i1 i2 => absurd i2 (by omega))
    · rw [← hP]
      have : ¬ y = 0 := fun w => u (z6.mpr ⟨w, rfl⟩)
      exact ⟨R6, F6, D6, m, m1, m6, Or.inl ⟨by rw [v6, if_neg this], by rw [k72]; exact Classical.not_not.mp (fun w => this (hy.mpr w))⟩⟩
  have key : ∀ q i (x4 : Int32), q + i = m → ((x4 = -1 ∧ ∀ k, k < i → stW (μ2.1 72) k = true → nI (wcF (μ2.1 72) k) ≠ x1) ∨ ∃ k, k < i ∧ stW (μ2.1 72) k = true ∧ nI (wcF (μ2.1 72) k) = x1 ∧ x4 = nI k) → K12 x1 x2 (nI (wcF (μ2.1 72) i)) x4 (nI i) μ2 := by
    intro q
    induction q with
    | zero =>
      intro i x4 hi hx
      have e : i = m := by omega
      subst e
      apply h12
      unfold t_X9_word_12 t_X9_word_90 t_X9_word_86
      rw [m2]
      refine ⟨fun _ => ⟨fun z => fin x4 _ 0 ⟨fun _ w => w.1 z, fun _ => rfl⟩ (fun _ w => absurd z w), fun z => ⟨fun z1 => fin x4 _ 1 ⟨fun w => absurd w (by decide), fun w => absurd ⟨z, Or.inl ?_⟩ w⟩ (fun w => absurd w (by decide)), fun z1 => ⟨_, m_isIn _ _ _, fun r4 μ4 h4 => ?_⟩⟩⟩, fun z => absurd (by rw [nI_leI (by omega) (by omega)]; omega) z⟩
      · obtain ⟨rfl, h4⟩ := h4
        rw [tL64] at h4
        have h4 : (r4 = 1 ∧ 0 ≤ x2.toInt ∧ x2.toInt ≤ 1) ∨ (r4 = 0 ∧ ¬ (0 ≤ x2.toInt ∧ x2.toInt ≤ 1)) := h4
        rcases hx with ⟨p, -⟩ | ⟨k, k1, k2, k3, k4⟩
        · exact absurd p z1
        refine ⟨fun z2 => fin x4 _ 0 ⟨fun _ w => ?_, fun _ => rfl⟩ (fun _ _ => ⟨(pick01 h4).2 z2, k, k1, k2, k3, k4⟩), fun z2 => fin x4 _ 1 ⟨fun w => absurd w (by decide), fun w => absurd ⟨z, Or.inr ((pick01 h4).1 z2)⟩ w⟩ (fun w => absurd w (by decide))⟩
        rcases w.2 with u | u
        · exact u k k1 k2 k3
        · exact u ((pick01 h4).2 z2)
      · rcases hx with ⟨-, p⟩ | ⟨k, k1, -, -, p⟩
        · exact p
        · rw [p] at z1; exact absurd z1 (nI_ne_m1 (by omega))
    | succ q ih =>
      intro i x4 hi hx
      have st : wcF (μ2.1 72) (i + 1) = wcF (μ2.1 72) i + if stW (μ2.1 72) i = true then 1 else 0 := rfl
      have hst : stW (μ2.1 72) i = true ↔ (inW (μ2.1 72) i = true ∧ ¬ (0 < i ∧ inW (μ2.1 72) (i - 1) = true)) := by
        unfold stW
        by_cases e : i = 0
        · subst e; simp
        · rw [show (i == 0) = false by simpa using e]
          simp
          omega
      have no : ¬ stW (μ2.1 72) i = true → K12 x1 x2 (nI (wcF (μ2.1 72) i)) x4 (nI i + 1) μ2 := fun hz => by
        have nx := ih (i + 1) x4 (by omega) (by
          rcases hx with ⟨p, p2⟩ | ⟨k, k1, k2, k3, k4⟩
          · refine Or.inl ⟨p, fun k hk k2 => ?_⟩
            by_cases e : k = i
            · rw [e] at k2; exact absurd k2 hz
            · exact p2 k (by omega) k2
          · exact Or.inr ⟨k, by omega, k2, k3, k4⟩)
        rw [st, if_neg hz, Nat.add_zero] at nx
        rw [nI_1]
        exact nx
      apply h12
      unfold t_X9_word_12
      rw [m2]
      refine ⟨fun z => ?_, fun _ => ⟨_, m_isBlank m1 (by omega) m2, fun r11 μ9 h9 => ?_⟩⟩
      · exfalso
        rw [nI_leI (by omega) (by omega)] at z
        omega
      obtain ⟨rfl, h9⟩ := h9
      refine ⟨fun z => no (fun w => ?_), fun z => ⟨_, m_isBlankP m1 (by omega) m2, fun r15 μ13 h13 => ?_⟩⟩
      · rcases h9 with ⟨p, -⟩ | ⟨-, p⟩
        · exact z p
        · exact p ⟨by omega, (hst.mp w).1⟩
      obtain ⟨rfl, h13⟩ := h13
      have hin : inW (μ13.1 72) i = true := by
        rcases h9 with ⟨-, -, p⟩ | ⟨p, -⟩
        · exact p
        · rw [z] at p; exact absurd p (by decide)
      refine ⟨fun z2 => no (fun w => ?_), fun z2 => ?_⟩
      · rcases h13 with ⟨-, p1, -, p2⟩ | ⟨p, -⟩
        · exact (hst.mp w).2 ⟨p1, p2⟩
        · rw [z2] at p; exact absurd p (by decide)
      have hs : stW (μ13.1 72) i = true := hst.mpr ⟨hin, fun w => by
        rcases h13 with ⟨p, -⟩ | ⟨-, p⟩
        · exact z2 p
        · exact p ⟨w.1, by omega, w.2⟩⟩
      refine ⟨fun z3 => ?_, fun z3 => ?_⟩
      · have nx := ih (i + 1) x4 (by omega) (by
          rcases hx with ⟨p, p2⟩ | ⟨k, k1, k2, k3, k4⟩
          · refine Or.inl ⟨p, fun k hk k2 => ?_⟩
            by_cases e : k = i
            · rw [e]; exact z3
            · exact p2 k (by omega) k2
          · exact Or.inr ⟨k, by omega, k2, k3, k4⟩)
        rw [st, if_pos hs] at nx
        rw [nI_1, nI_1]
        exact nx
      · have nx := ih (i + 1) (nI i) (by omega) (Or.inr ⟨i, by omega, hs, z3, rfl⟩)
        rw [st, if_pos hs] at nx
        rw [nI_1, nI_1]
        exact nx
  exact key m 0 (-1) (by omega) (Or.inl ⟨rfl, fun k hk => absurd hk (by omega)⟩)
theorem k_word {μ : MemT} {g : PgT} (h : RR μ g) {xs : Nat → Int32} {L : Nat} {x4 : Int32} (hv : ∀ k, k < 9 → vp_in (x4 + nI k) L) : tw_1057 KR xs L x4 μ := by
  unfold tw_1057
  generalize xs (x4 + (1 : Int32)).toNatClampNeg = x1
  generalize xs (x4 + (2 : Int32)).toNatClampNeg = x2
  refine ⟨hv 1 (by decide), hv 2 (by decide), _, c_word h x1 x2, fun r6 μ4 h4 => ⟨hv 1 (by decide), hv 2 (by decide), ?_⟩⟩
  obtain ⟨R4, n4, m, m1, m2, h4⟩ := h4
  refine ⟨_, m_word R4 x1 x2, fun r12 μ10 h10 => ⟨_, m_thrown, fun r16 μ14 h14 => ?_⟩⟩
  obtain ⟨rfl, rfl⟩ := h14
  obtain ⟨R10, F10, D10, m', m1', m2', h10⟩ := h10
  have n10 : ¬ μ14.2.2.1 0 = 0 := by rw [F10.2.2.1 0 (by decide)]; exact n4
  obtain ⟨-, k, k1, k2, k3, B⟩ := both R10.1 (R10.2.2.2.2.2.1 n10) D10
  rw [F10.2.2.1 6 (by decide), m2] at k2
  rw [m2'] at k3
  have em : m = k := nI_inj (by omega) (by omega) k2
  have em' : m' = k := nI_inj (by omega) (by omega) k3
  subst em
  subst em'
  have o8 : μ14.2.1 76 (0 : Int32).toNatClampNeg = μ4.2.1 76 0 := by rw [F10.2.1 76 (by decide)]; rfl
  have kc : μ14.1 39 = μ4.1 39 := F10.1 39 (by decide)
  have B' : ∀ j, j < m' → μ4.1 39 j = μ14.1 72 j := fun j hj => by rw [← kc]; exact (B j hj).1
  rcases h4 with ⟨rfl, no⟩ | ⟨rfl, v, w, o⟩
  · rcases h10 with ⟨t, -⟩ | ⟨t, w⟩
    · exact endK t (fun z => absurd z (by decide)) ⟨g, R10⟩
    · exact absurd no (w.cg (fun j hj => (B' j hj).symm)).no
  · rcases h10 with ⟨t, no⟩ | ⟨t, w'⟩
    · exact absurd no (w.cg B').no
    · refine endK t (fun _ => ?_) ⟨g, R10⟩
      rw [o8, o, (w.cg B').one m1' w']
