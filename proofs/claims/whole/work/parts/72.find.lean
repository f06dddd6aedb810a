/-! Finding. -/
def plF (c : Int32) : Int32 := if c = 10 then 32 else c
def alE (L S : Nat → Int32) (i : Nat) : Nat → Bool
  | 0 => true
  | j + 1 => alE L S i j && (plF (L (i + j)) == plF (S j))
def htB (L S : Nat → Int32) (k m i : Nat) : Bool := decide (i + k ≤ m) && alE L S i k
def hcF (L S : Nat → Int32) (k m : Nat) : Nat → Nat
  | 0 => 0
  | i + 1 => hcF L S k m i + if htB L S k m i = true then 1 else 0
def HtR (L S : Nat → Int32) (k m : Nat) (f : Nat → Int32) : Nat → Prop
  | 0 => True
  | i + 1 => HtR L S k m f i ∧ (htB L S k m i = true → f (hcF L S k m i) = nI i)
theorem hcF_le (L S : Nat → Int32) (k m : Nat) : ∀ i, hcF L S k m i ≤ i
  | 0 => Nat.le_refl 0
  | i + 1 => by
    have := hcF_le L S k m i
    show hcF L S k m i + _ ≤ i + 1
    split <;> omega
theorem HtR.cg {L S : Nat → Int32} {k m : Nat} {f f' : Nat → Int32} : ∀ {n : Nat}, HtR L S k m f n → (∀ t, t < hcF L S k m n → f' t = f t) → HtR L S k m f' n
  | 0, _, _ => trivial
  | n + 1, h, e => by
    have st : hcF L S k m (n + 1) = hcF L S k m n + if htB L S k m n = true then 1 else 0 := rfl
    refine ⟨HtR.cg h.1 (fun t ht => e t (by rw [st]; omega)), fun hb => ?_⟩
    rw [e _ (by rw [st, if_pos hb]; omega)]
    exact h.2 hb
theorem HtR.one {L S : Nat → Int32} {k m : Nat} {f f' : Nat → Int32} : ∀ {n : Nat}, HtR L S k m f n → HtR L S k m f' n → ∀ t, t < hcF L S k m n → f t = f' t
  | 0, _, _, t, ht => absurd ht (by simp [hcF])
  | n + 1, h, h', t, ht => by
    have st : hcF L S k m (n + 1) = hcF L S k m n + if htB L S k m n = true then 1 else 0 := rfl
    rw [st] at ht
    by_cases hb : htB L S k m n = true
    · rw [if_pos hb] at ht
      by_cases e : t = hcF L S k m n
      · rw [e, h.2 hb, h'.2 hb]
      · exact HtR.one h.1 h'.1 t (by omega)
    · rw [if_neg hb] at ht
      exact HtR.one h.1 h'.1 t (by omega)
/-- past the last place there are no hits -/
theorem hc_past {L S : Nat → Int32} {k m n : Nat} (hn : m < n + k) : ∀ j, hcF L S k m (n + j) = hcF L S k m n ∧ ∀ f, HtR L S k m f n → HtR L S k m f (n + j)
  | 0 => ⟨rfl, fun _ h => h⟩
  | j + 1 => by
    obtain ⟨a, b⟩ := hc_past (L := L) (S := S) hn j
    have nb : ¬ htB L S k m (n + j) = true := by
      unfold htB
      rw [decide_eq_false (by omega), Bool.false_and]
      decide
    refine ⟨?_, fun f h => ⟨b f h, fun z => absurd z nb⟩⟩
    show hcF L S k m (n + j) + (if htB L S k m (n + j) = true then 1 else 0) = _
    rw [if_neg nb, Nat.add_zero]
    exact a
theorem alE_cg {L L' S S' : Nat → Int32} {i : Nat} : ∀ n, (∀ j, j < n → L (i + j) = L' (i + j) ∧ S j = S' j) → alE L S i n = alE L' S' i n
  | 0, _ => rfl
  | n + 1, h => by
    show (alE L S i n && _) = (alE L' S' i n && _)
    rw [alE_cg n (fun j hj => h j (by omega)), (h n (by omega)).1, (h n (by omega)).2]
theorem htB_cg {L L' S S' : Nat → Int32} {k m i : Nat} (hL : ∀ j, j < m → L j = L' j) (hS : ∀ j, j < k → S j = S' j) : htB L S k m i = htB L' S' k m i := by
  unfold htB
  by_cases c : i + k ≤ m
  · rw [alE_cg k (fun j hj => ⟨hL (i + j) (by omega), hS j hj⟩)]
  · rw [decide_eq_false c, Bool.false_and, Bool.false_and]
theorem hcF_cg {L L' S S' : Nat → Int32} {k m : Nat} (hL : ∀ j, j < m → L j = L' j) (hS : ∀ j, j < k → S j = S' j) : ∀ n, hcF L S k m n = hcF L' S' k m n
  | 0 => rfl
  | n + 1 => by
    show hcF L S k m n + _ = hcF L' S' k m n + _
    rw [hcF_cg hL hS n, htB_cg hL hS]
theorem HtR.cgL {L L' S S' : Nat → Int32} {k m : Nat} {f : Nat → Int32} (hL : ∀ j, j < m → L j = L' j) (hS : ∀ j, j < k → S j = S' j) : ∀ {n : Nat}, HtR L S k m f n → HtR L' S' k m f n
  | 0, _ => trivial
  | n + 1, h => ⟨HtR.cgL hL hS h.1, fun hb => by rw [← hcF_cg hL hS n]; exact h.2 (by rw [htB_cg hL hS]; exact hb)⟩
theorem alE_no {L S : Nat → Int32} {i j : Nat} (hj : ¬ plF (L (i + j)) = plF (S j)) : ∀ n, j < n → alE L S i n = false
  | 0, h => absurd h (by omega)
  | n + 1, h => by
    show (alE L S i n && (plF (L (i + n)) == plF (S n))) = false
    by_cases e : j = n
    · subst e
      rw [show (plF (L (i + j)) == plF (S j)) = false by simpa using hj, Bool.and_false]
    · rw [alE_no hj n (by omega), Bool.false_and]
theorem c_plain {μ : MemT} (x : Int32) : sp_X5_plain x μ (fun r μ' => μ' = μ ∧ r = plF x) := by
  unfold sp_X5_plain t_X5_plain_0 plF
  exact ⟨fun h => ⟨rfl, by rw [if_neg h]⟩, fun h => ⟨rfl, by rw [if_pos h]⟩⟩
theorem m_plain {μ : MemT} (x : Int32) : sp_X9_plain x μ (fun r μ' => μ' = μ ∧ r = plF x) := by
  unfold sp_X9_plain t_X9_plain_0 plF
  exact ⟨fun h => ⟨rfl, by rw [if_neg h]⟩, fun h => ⟨rfl, by rw [if_pos h]⟩⟩
theorem c_isAt {μ : MemT} {k m i : Nat} (hk : k ≤ 20) (hm : m ≤ 600) (hi : i + k ≤ m) (hF : μ.2.2.1 7 = nI k) : sp_X5_isAt (nI i) μ (fun r μ' => μ' = μ ∧ (¬ r = 0 ↔ htB (μ.1 39) (μ.1 44) k m i = true)) := by
  have ht : htB (μ.1 39) (μ.1 44) k m i = alE (μ.1 39) (μ.1 44) i k := by unfold htB; rw [decide_eq_true hi, Bool.true_and]
  rw [ht]
  intro K hK
  have key : ∀ q j, q + j = k → alE (μ.1 39) (μ.1 44) i j = true → K (nI i) (nI j) μ := by
    intro q
    induction q with
    | zero =>
      intro j hj ha
      have e : j = k := by omega
      subst e
      apply hK
      unfold t_X5_isAt_2
      rw [hF]
      exact ⟨fun _ => ⟨rfl, fun _ => ha, fun _ => by decide⟩, fun z => absurd (by rw [nI_leI (by omega) (by omega)]; omega) z⟩
    | succ q ih =>
      intro j hj ha
      apply hK
      unfold t_X5_isAt_2
      rw [hF, nI_add', cI (by omega), cI (by omega)]
      refine ⟨fun z => ?_, fun _ => ⟨inI (by omega) (by decide), _, c_plain _, fun r5 μ3 h3 => ?_⟩⟩
      · exfalso
        rw [nI_leI (by omega) (by omega)] at z
        omega
      obtain ⟨rfl, rfl⟩ := h3
      refine ⟨inI (by omega) (by decide), _, c_plain _, fun r10 μ8 h8 => ?_⟩
      obtain ⟨rfl, rfl⟩ := h8
      refine ⟨fun z => ?_, fun z => ⟨rfl, fun w => absurd rfl w, fun w => ?_⟩⟩
      · rw [nI_1]
        refine ih (j + 1) (by omega) ?_
        show (alE (μ8.1 39) (μ8.1 44) i j && (plF (μ8.1 39 (i + j)) == plF (μ8.1 44 j))) = true
        rw [ha, z]
        simp
      · rw [alE_no z k (by omega)] at w
        cases w
  exact key k 0 (by omega) rfl
set_option maxHeartbeats 1000000 in
theorem c_run {μ : MemT} {k m : Nat} (hk : k ≤ 20) (hm : m ≤ 600) (h7 : μ.2.2.1 7 = nI k) (h6 : μ.2.2.1 6 = nI m) : sp_X5_run μ (fun r μ' => Fr [43] [] [7, 8] false μ μ' ∧ μ'.2.2.1 7 = 0 ∧ ∃ h, h ≤ 600 ∧ r = nI h ∧ μ'.2.2.1 8 = nI h ∧ h = (if k = 0 then 0 else hcF (μ.1 39) (μ.1 44) k m m) ∧ (0 < k → HtR (μ.1 39) (μ.1 44) k m (μ'.1 43) m)) := by
  intro K hK
  unfold t_X5_run_0
  intro μ1 e1
  have f1 : Fr [43] [] [7, 8] false μ μ1 := by rw [e1]; exact Fr.wF _ _ (by decide)
  have k7 : μ1.2.2.1 7 = nI k := by rw [e1, mF_221, upN _ _ (by decide)]; exact h7
  have k6 : μ1.2.2.1 6 = nI m := by rw [e1, mF_221, upN _ _ (by decide)]; exact h6
  have k8 : μ1.2.2.1 8 = nI 0 := by rw [e1, mF_221, upE]; rfl
  rw [k7, k6]
  have key : ∀ q i μ2, q + i + k = m + 1 → 0 < k → Fr [43] [] [8] false μ1 μ2 → μ2.2.2.1 8 = nI (hcF (μ.1 39) (μ.1 44) k m i) → HtR (μ.1 39) (μ.1 44) k m (μ2.1 43) i → K (nI m - nI k) (nI i) μ2 := by
    intro q
    induction q with
    | zero =>
      intro i μ2 hi hk0 f2 F2 H2
      have el : (nI m - nI k).toInt = (m : Int) - k := by rw [fb_subI (by rw [tI (by omega), tI (by omega)]; omega) (by rw [tI (by omega), tI (by omega)]; omega), tI (by omega), tI (by omega)]
      obtain ⟨p1, p2⟩ := hc_past (L := μ.1 39) (S := μ.1 44) (k := k) (m := m) (n := i) (by omega) (m - i)
      rw [show i + (m - i) = m by omega] at p1 p2
      have hl := hcF_le (μ.1 39) (μ.1 44) k m m
      apply hK
      unfold t_X5_run_28
      rw [lt32, el, tI (by omega)]
      refine ⟨fun _ μ3 e3 => ⟨?_, ?_, hcF (μ.1 39) (μ.1 44) k m m, by omega, ?_, ?_, by rw [if_neg (by omega)], fun _ => ?_⟩, fun z => absurd (by omega) z⟩
      · exact f1.tr ((f2.mono (by decide) (by decide) (by decide) (fun h => h)).tr (by rw [e3]; exact Fr.wF _ _ (by decide)))
      · rw [e3, mF_221, upE]
      · rw [e3, mF_221, upN _ _ (by decide), F2, p1]
      · rw [e3, mF_221, upN _ _ (by decide), F2, p1]
      · rw [e3, mF_1]; exact p2 _ H2
    | succ q ih =>
      intro i μ2 hi hk0 f2 F2 H2
      have el : (nI m - nI k).toInt = (m : Int) - k := by rw [fb_subI (by rw [tI (by omega), tI (by omega)]; omega) (by rw [tI (by omega), tI (by omega)]; omega), tI (by omega), tI (by omega)]
      have st : hcF (μ.1 39) (μ.1 44) k m (i + 1) = hcF (μ.1 39) (μ.1 44) k m i + if htB (μ.1 39) (μ.1 44) k m i = true then 1 else 0 := rfl
      have hl := hcF_le (μ.1 39) (μ.1 44) k m i
      have k39 : μ2.1 39 = μ.1 39 := by rw [f2.1 39 (by decide), f1.1 39 (by decide)]
      have k44 : μ2.1 44 = μ.1 44 := by rw [f2.1 44 (by decide), f1.1 44 (by decide)]
      have k72 : μ2.2.2.1 7 = nI k := by rw [f2.2.2.1 7 (by decide)]; exact k7
      apply hK
      unfold t_X5_run_28
      rw [lt32, el, tI (by omega)]
      refine ⟨fun z => absurd z (by omega), fun _ => ⟨_, c_isAt hk hm (show i + k ≤ m by omega) k72, fun r5 μ3 h3 => ?_⟩⟩
      obtain ⟨rfl, h3⟩ := h3
      rw [k39, k44] at h3
      rw [nI_1]
      refine ⟨fun z => ih (i + 1) μ3 (by omega) hk0 f2 ?_ ⟨H2, fun w => absurd z (h3.mpr w)⟩, fun z => ?_⟩
      · rw [st, if_neg (fun w => (h3.mpr w) z), Nat.add_zero]; exact F2
      · rw [F2]
        refine ⟨inI (by omega) (by decide), fun μ7 e7 μ8 e8 => ih (i + 1) μ8 (by omega) hk0 (f2.tr (by rw [e8, e7]; exact (Fr.wI _ _ _ (by decide)).tr (Fr.wF _ _ (by decide)))) ?_ ⟨?_, fun _ => ?_⟩⟩
        · rw [e8, mF_221, upE, e7, mI_2, F2, st, if_pos (h3.mp z)]; exact nI_1 _
        · refine H2.cg (fun t ht => ?_)
          rw [e8, mF_1, e7, mI_1, upE, cI (by omega), udN _ _ (by omega)]
        · rw [e8, mF_1, e7, mI_1, upE, cI (by omega), udE]
  refine ⟨fun z => ?_, fun z => ?_⟩
  · have hk0 : 0 < k := by
      rcases Nat.eq_zero_or_pos k with q | q
      · exact absurd (by rw [q]; rfl) z
      · exact q
    by_cases c : k ≤ m
    · exact key (m + 1 - k) 0 μ1 (by omega) hk0 (Fr.rf μ1) k8 trivial
    · have el : (nI m - nI k).toInt = (m : Int) - k := by rw [fb_subI (by rw [tI (by omega), tI (by omega)]; omega) (by rw [tI (by omega), tI (by omega)]; omega), tI (by omega), tI (by omega)]
      obtain ⟨p1, p2⟩ := hc_past (L := μ.1 39) (S := μ.1 44) (k := k) (m := m) (n := 0) (by omega) m
      rw [Nat.zero_add] at p1 p2
      apply hK
      unfold t_X5_run_28
      rw [lt32, el]
      refine ⟨fun _ μ3 e3 => ⟨?_, ?_, 0, by omega, ?_, ?_, by rw [if_neg (by omega), p1]; rfl, fun _ => ?_⟩, fun w => absurd (by show (m : Int) - k < 0; omega) w⟩
      · exact f1.tr (by rw [e3]; exact Fr.wF _ _ (by decide))
      · rw [e3, mF_221, upE]
      · rw [e3, mF_221, upN _ _ (by decide), k8]
      · rw [e3, mF_221, upN _ _ (by decide), k8]
      · exact p2 _ trivial
  · have hk0 : k = 0 := by
      rw [eq32, tI (by omega), t_0] at z
      omega
    apply hK
    unfold t_X5_run_28
    refine ⟨fun _ μ3 e3 => ⟨?_, ?_, 0, by omega, ?_, ?_, by rw [if_pos hk0], fun w => absurd w (by omega)⟩, fun w => absurd (by decide) w⟩
    · exact f1.tr (by rw [e3]; exact Fr.wF _ _ (by decide))
    · rw [e3, mF_221, upE]
    · rw [e3, mF_221, upN _ _ (by decide), k8]
    · rw [e3, mF_221, upN _ _ (by decide), k8]
