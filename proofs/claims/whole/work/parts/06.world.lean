/-! The world: 77 cells at the addresses eAd E k; E: class ids and slots, the ids of int[], long[], boolean[], the addresses. -/
abbrev EvT : Type := va_G × (ClassId × ClassId × ClassId) × (Nat → Nat)
def eAd (E : EvT) (k : Nat) : Nat := E.2.2 k
def eTy (E : EvT) : List (ClassId × FieldType) := [(E.2.1.1, .int), (E.2.1.2.1, .long), (E.2.1.2.2, .boolean)]
def eFl (E : EvT) (μ : MemT) (k : Nat) : List Value := match k with
  | 0 => [.ref (eAd E 1), .ref (eAd E 2), .ref (eAd E 3), .ref (eAd E 4), .ref (eAd E 5), .ref (eAd E 6), .ref (eAd E 7), .ref (eAd E 8), .int (μ.2.2.1 0)]
  | 1 => [.int (μ.2.2.1 1), .ref (eAd E 10), .ref (eAd E 11), .ref (eAd E 12), .ref (eAd E 13), .ref (eAd E 14), .ref (eAd E 15), .ref (eAd E 16)]
  | 2 => [.ref (eAd E 17), .ref (eAd E 18)]
  | 3 => [.ref (eAd E 19), .ref (eAd E 20), .ref (eAd E 21), .ref (eAd E 22), .ref (eAd E 23)]
  | 4 => [.int (μ.2.2.1 2), .int (μ.2.2.1 3), .ref (eAd E 24), .ref (eAd E 25), .ref (eAd E 26)]
  | 5 => [.int (μ.2.2.1 4), .ref (eAd E 27), .ref (eAd E 28), .ref (eAd E 29), .ref (eAd E 30), .ref (eAd E 31), .ref (eAd E 32), .ref (eAd E 33), .ref (eAd E 34)]
  | 6 => [.int (μ.2.2.1 5), .ref (eAd E 35), .ref (eAd E 36), .ref (eAd E 37), .ref (eAd E 38)]
  | 7 => [.int (μ.2.2.1 6), .ref (eAd E 39), .ref (eAd E 40), .ref (eAd E 41), .ref (eAd E 42)]
  | 8 => [.int (μ.2.2.1 7), .int (μ.2.2.1 8), .ref (eAd E 43), .ref (eAd E 44)]
  | 9 => [.int (μ.2.2.1 9), .int (μ.2.2.1 10), .ref (eAd E 45), .ref (eAd E 46), .ref (eAd E 47), .ref (eAd E 48), .ref (eAd E 49), .ref (eAd E 50), .ref (eAd E 51), .ref (eAd E 52), .ref (eAd E 53), .int (μ.2.2.1 11), .ref (eAd E 54), .ref (eAd E 55), .ref (eAd E 56), .ref (eAd E 57), .ref (eAd E 58), .ref (eAd E 59), .ref (eAd E 60), .ref (eAd E 61), .ref (eAd E 62), .int (μ.2.2.1 12), .ref (eAd E 63), .ref (eAd E 64), .ref (eAd E 65), .ref (eAd E 66), .ref (eAd E 67), .ref (eAd E 68), .ref (eAd E 69), .ref (eAd E 70), .int (μ.2.2.1 13), .long μ.2.2.2, .ref (eAd E 71), .int (μ.2.2.1 14), .ref (eAd E 72), .ref (eAd E 73), .int (μ.2.2.1 15), .ref (eAd E 74), .int (μ.2.2.1 16), .ref (eAd E 75), .int (μ.2.2.1 17)]
  | _ => []
def eCiL : List Nat := [10, 9, 4, 5, 3, 8, 2, 6, 7, 11]
def eCi (k : Nat) : Nat := eCiL.getD k 0
def eEn (E : EvT) (μ : MemT) (k : Nat) : va_E := if mkd k = 1 then .inl (E.2.1.1, mln k, .inl (μ.1 k)) else if mkd k = 2 then .inl (E.2.1.2.2, mln k, .inl (μ.1 k)) else if mkd k = 3 then .inl (E.2.1.2.1, mln k, .inr (.inl (μ.2.1 k))) else .inr (eCi k, eFl E μ k)
def eWl (E : EvT) (μ : MemT) : va_W := (List.range 77).map (fun k => (eAd E k, eEn E μ k))
def eA (E : EvT) (sz : Nat) : Nat → Prop := fun q => (∃ k, k < 77 ∧ q = eAd E k) ∨ sz ≤ q
def eInj (E : EvT) : Prop := ∀ i j, i < 77 → j < 77 → eAd E i = eAd E j → i = j
theorem eWl_get (E : EvT) (μ : MemT) {k : Nat} (h : k < 77) : (eWl E μ)[k]? = some (eAd E k, eEn E μ k) := by
  simp [eWl, h]
theorem eWl_set {E : EvT} {μ μ' : MemT} {k : Nat} {en : va_E} (he : ∀ j, eEn E μ' j = if j = k then en else eEn E μ j) : (eWl E μ).set k (eAd E k, en) = eWl E μ' := by
  apply List.ext_getElem?
  intro i
  rw [List.getElem?_set]
  by_cases hi : i < 77
  · rw [eWl_get E μ' hi, eWl_get E μ hi, he i]
    by_cases hk : k = i
    · subst hk
      simp [eWl, hi]
    · rw [if_neg hk, if_neg (fun q => hk q.symm)]
  · have h1 : (eWl E μ')[i]? = none := by simp [eWl]; omega
    have h2 : (eWl E μ)[i]? = none := by simp [eWl]; omega
    have h3 : (eWl E μ).length = 77 := by simp [eWl]
    rw [h1, h2, h3]
    by_cases hk : k = i
    · subst hk; simp [hi]
    · simp [hk]
theorem eD {E : EvT} (hi : eInj E) (μ : MemT) (sz : Nat) : va_D (eA E sz) (eWl E μ) := by
  have key : ∀ (k : Nat) (q : Nat × va_E), (eWl E μ)[k]? = some q → k < 77 ∧ q.1 = eAd E k := by
    intro k q h
    by_cases hk : k < 77
    · rw [eWl_get E μ hk] at h
      cases h
      exact ⟨hk, rfl⟩
    · have h2 : (eWl E μ)[k]? = none := by simp [eWl]; omega
      rw [h2] at h
      cases h
  refine ⟨fun i j x y h1 h2 hxy => ?_, fun k q h => ?_⟩
  · obtain ⟨a1, a2⟩ := key i x h1
    obtain ⟨b1, b2⟩ := key j y h2
    exact hi i j a1 b1 (by rw [← a2, ← b2]; exact hxy)
  · obtain ⟨a1, a2⟩ := key k q h
    exact Or.inl ⟨k, a1, a2⟩
theorem eEn_I {k : Nat} (h : mkd k = 1) (E : EvT) (μ : MemT) : eEn E μ k = .inl (E.2.1.1, mln k, .inl (μ.1 k)) := by unfold eEn; rw [if_pos h]
theorem eEn_Z {k : Nat} (h : mkd k = 2) (E : EvT) (μ : MemT) : eEn E μ k = .inl (E.2.1.2.2, mln k, .inl (μ.1 k)) := by unfold eEn; rw [if_neg (by rw [h]; decide), if_pos h]
theorem eEn_L {k : Nat} (h : mkd k = 3) (E : EvT) (μ : MemT) : eEn E μ k = .inl (E.2.1.2.1, mln k, .inr (.inl (μ.2.1 k))) := by unfold eEn; rw [if_neg (by rw [h]; decide), if_neg (by rw [h]; decide), if_pos h]
theorem eEn_O {k : Nat} (h : mkd k = 0) (E : EvT) (μ : MemT) : eEn E μ k = .inr (eCi k, eFl E μ k) := by unfold eEn; rw [if_neg (by rw [h]; decide), if_neg (by rw [h]; decide), if_neg (by rw [h]; decide)]
theorem eFl_mem (E : EvT) (μ μ' : MemT) (hF : μ'.2.2 = μ.2.2) (k : Nat) : eFl E μ' k = eFl E μ k := by
  unfold eFl
  rw [hF]
theorem eEn_wI (E : EvT) (μ : MemT) (k : Nat) (i v : Int32) (hk : mkd k = 1) (j : Nat) : eEn E (mwI μ k i v) j = if j = k then .inl (E.2.1.1, mln k, .inl (upd (μ.1 k) i.toNatClampNeg v)) else eEn E μ j := by
  by_cases h : j = k
  · subst h
    rw [if_pos rfl, eEn_I hk]
    simp [mwI, va_up]
  · rw [if_neg h]
    unfold eEn
    have h1 : (mwI μ k i v).1 j = μ.1 j := by simp [mwI, va_up, h]
    have h2 : (mwI μ k i v).2 = μ.2 := rfl
    rw [h1, h2, eFl_mem E μ (mwI μ k i v) rfl]
theorem eEn_wZ (E : EvT) (μ : MemT) (k : Nat) (i v : Int32) (hk : mkd k = 2) (j : Nat) : eEn E (mwI μ k i v) j = if j = k then .inl (E.2.1.2.2, mln k, .inl (upd (μ.1 k) i.toNatClampNeg v)) else eEn E μ j := by
  by_cases h : j = k
  · subst h
    rw [if_pos rfl, eEn_Z hk]
    simp [mwI, va_up]
  · rw [if_neg h]
    unfold eEn
    have h1 : (mwI μ k i v).1 j = μ.1 j := by simp [mwI, va_up, h]
    have h2 : (mwI μ k i v).2 = μ.2 := rfl
    rw [h1, h2, eFl_mem E μ (mwI μ k i v) rfl]
theorem eEn_wL (E : EvT) (μ : MemT) (k : Nat) (i : Int32) (v : Int64) (hk : mkd k = 3) (j : Nat) : eEn E (mwL μ k i v) j = if j = k then .inl (E.2.1.2.1, mln k, .inr (.inl (vp_updL (μ.2.1 k) i.toNatClampNeg v))) else eEn E μ j := by
  by_cases h : j = k
  · subst h
    rw [if_pos rfl, eEn_L hk]
    simp [mwL, va_up]
  · rw [if_neg h]
    unfold eEn
    have h1 : (mwL μ k i v).2.1 j = μ.2.1 j := by simp [mwL, va_up, h]
    have h2 : (mwL μ k i v).1 = μ.1 := rfl
    rw [h1, h2, eFl_mem E μ (mwL μ k i v) rfl]
theorem eEn_obj (E : EvT) (μ μ' : MemT) (h1 : μ'.1 = μ.1) (h2 : μ'.2.1 = μ.2.1) (k : Nat) (hk : mkd k = 0) (fs : List Value) (hf : ∀ j, eFl E μ' j = if j = k then fs else eFl E μ j) (j : Nat) : eEn E μ' j = if j = k then .inr (eCi k, fs) else eEn E μ j := by
  by_cases h : j = k
  · subst h
    rw [if_pos rfl, eEn_O hk, hf j, if_pos rfl]
  · rw [if_neg h]
    unfold eEn
    rw [h1, h2, hf j, if_neg h]
theorem eFl_F0 (E : EvT) (μ : MemT) (v : Int32) (j : Nat) : eFl E (mwF μ 0 v) j = if j = 0 then (eFl E μ 0).set 8 (.int v) else eFl E μ j := by
  match j with
  | 0 => rfl
  | 1 => rfl
  | 2 => rfl
  | 3 => rfl
  | 4 => rfl
  | 5 => rfl
  | 6 => rfl
  | 7 => rfl
  | 8 => rfl
  | 9 => rfl
  | q + 10 => rw [if_neg (by omega)]; rfl
theorem eFl_F1 (E : EvT) (μ : MemT) (v : Int32) (j : Nat) : eFl E (mwF μ 1 v) j = if j = 1 then (eFl E μ 1).set 0 (.int v) else eFl E μ j := by
  match j with
  | 0 => rfl
  | 1 => rfl
  | 2 => rfl
  | 3 => rfl
  | 4 => rfl
  | 5 => rfl
  | 6 => rfl
  | 7 => rfl
  | 8 => rfl
  | 9 => rfl
  | q + 10 => rw [if_neg (by omega)]; rfl
theorem eFl_F2 (E : EvT) (μ : MemT) (v : Int32) (j : Nat) : eFl E (mwF μ 2 v) j = if j = 4 then (eFl E μ 4).set 0 (.int v) else eFl E μ j := by
  match j with
  | 0 => rfl
  | 1 => rfl
  | 2 => rfl
  | 3 => rfl
  | 4 => rfl
  | 5 => rfl
  | 6 => rfl
  | 7 => rfl
  | 8 => rfl
  | 9 => rfl
  | q + 10 => rw [if_neg (by omega)]; rfl
theorem eFl_F3 (E : EvT) (μ : MemT) (v : Int32) (j : Nat) : eFl E (mwF μ 3 v) j = if j = 4 then (eFl E μ 4).set 1 (.int v) else eFl E μ j := by
  match j with
  | 0 => rfl
  | 1 => rfl
  | 2 => rfl
  | 3 => rfl
  | 4 => rfl
  | 5 => rfl
  | 6 => rfl
  | 7 => rfl
  | 8 => rfl
  | 9 => rfl
  | q + 10 => rw [if_neg (by omega)]; rfl
theorem eFl_F4 (E : EvT) (μ : MemT) (v : Int32) (j : Nat) : eFl E (mwF μ 4 v) j = if j = 5 then (eFl E μ 5).set 0 (.int v) else eFl E μ j := by
  match j with
  | 0 => rfl
  | 1 => rfl
  | 2 => rfl
  | 3 => rfl
  | 4 => rfl
  | 5 => rfl
  | 6 => rfl
  | 7 => rfl
  | 8 => rfl
  | 9 => rfl
  | q + 10 => rw [if_neg (by omega)]; rfl
theorem eFl_F5 (E : EvT) (μ : MemT) (v : Int32) (j : Nat) : eFl E (mwF μ 5 v) j = if j = 6 then (eFl E μ 6).set 0 (.int v) else eFl E μ j := by
  match j with
  | 0 => rfl
  | 1 => rfl
  | 2 => rfl
  | 3 => rfl
  | 4 => rfl
  | 5 => rfl
  | 6 => rfl
  | 7 => rfl
  | 8 => rfl
  | 9 => rfl
  | q + 10 => rw [if_neg (by omega)]; rfl
theorem eFl_F6 (E : EvT) (μ : MemT) (v : Int32) (j : Nat) : eFl E (mwF μ 6 v) j = if j = 7 then (eFl E μ 7).set 0 (.int v) else eFl E μ j := by
  match j with
  | 0 => rfl
  | 1 => rfl
  | 2 => rfl
  | 3 => rfl
  | 4 => rfl
  | 5 => rfl
  | 6 => rfl
  | 7 => rfl
  | 8 => rfl
  | 9 => rfl
  | q + 10 => rw [if_neg (by omega)]; rfl
theorem eFl_F7 (E : EvT) (μ : MemT) (v : Int32) (j : Nat) : eFl E (mwF μ 7 v) j = if j = 8 then (eFl E μ 8).set 0 (.int v) else eFl E μ j := by
  match j with
  | 0 => rfl
  | 1 => rfl
  | 2 => rfl
  | 3 => rfl
  | 4 => rfl
  | 5 => rfl
  | 6 => rfl
  | 7 => rfl
  | 8 => rfl
  | 9 => rfl
  | q + 10 => rw [if_neg (by omega)]; rfl
theorem eFl_F8 (E : EvT) (μ : MemT) (v : Int32) (j : Nat) : eFl E (mwF μ 8 v) j = if j = 8 then (eFl E μ 8).set 1 (.int v) else eFl E μ j := by
  match j with
  | 0 => rfl
  | 1 => rfl
  | 2 => rfl
  | 3 => rfl
  | 4 => rfl
  | 5 => rfl
  | 6 => rfl
  | 7 => rfl
  | 8 => rfl
  | 9 => rfl
  | q + 10 => rw [if_neg (by omega)]; rfl
theorem eFl_F9 (E : EvT) (μ : MemT) (v : Int32) (j : Nat) : eFl E (mwF μ 9 v) j = if j = 9 then (eFl E μ 9).set 0 (.int v) else eFl E μ j := by
  match j with
  | 0 => rfl
  | 1 => rfl
  | 2 => rfl
  | 3 => rfl
  | 4 => rfl
  | 5 => rfl
  | 6 => rfl
  | 7 => rfl
  | 8 => rfl
  | 9 => rfl
  | q + 10 => rw [if_neg (by omega)]; rfl
theorem eFl_F10 (E : EvT) (μ : MemT) (v : Int32) (j : Nat) : eFl E (mwF μ 10 v) j = if j = 9 then (eFl E μ 9).set 1 (.int v) else eFl E μ j := by
  match j with
  | 0 => rfl
  | 1 => rfl
  | 2 => rfl
  | 3 => rfl
  | 4 => rfl
  | 5 => rfl
  | 6 => rfl
  | 7 => rfl
  | 8 => rfl
  | 9 => rfl
  | q + 10 => rw [if_neg (by omega)]; rfl
theorem eFl_F11 (E : EvT) (μ : MemT) (v : Int32) (j : Nat) : eFl E (mwF μ 11 v) j = if j = 9 then (eFl E μ 9).set 11 (.int v) else eFl E μ j := by
  match j with
  | 0 => rfl
  | 1 => rfl
  | 2 => rfl
  | 3 => rfl
  | 4 => rfl
  | 5 => rfl
  | 6 => rfl
  | 7 => rfl
  | 8 => rfl
  | 9 => rfl
  | q + 10 => rw [if_neg (by omega)]; rfl
theorem eFl_F12 (E : EvT) (μ : MemT) (v : Int32) (j : Nat) : eFl E (mwF μ 12 v) j = if j = 9 then (eFl E μ 9).set 21 (.int v) else eFl E μ j := by
  match j with
  | 0 => rfl
  | 1 => rfl
  | 2 => rfl
  | 3 => rfl
  | 4 => rfl
  | 5 => rfl
  | 6 => rfl
  | 7 => rfl
  | 8 => rfl
  | 9 => rfl
  | q + 10 => rw [if_neg (by omega)]; rfl
theorem eFl_F13 (E : EvT) (μ : MemT) (v : Int32) (j : Nat) : eFl E (mwF μ 13 v) j = if j = 9 then (eFl E μ 9).set 30 (.int v) else eFl E μ j := by
  match j with
  | 0 => rfl
  | 1 => rfl
  | 2 => rfl
  | 3 => rfl
  | 4 => rfl
  | 5 => rfl
  | 6 => rfl
  | 7 => rfl
  | 8 => rfl
  | 9 => rfl
  | q + 10 => rw [if_neg (by omega)]; rfl
theorem eFl_G (E : EvT) (μ : MemT) (v : Int64) (j : Nat) : eFl E (mwG μ v) j = if j = 9 then (eFl E μ 9).set 31 (.long v) else eFl E μ j := by
  match j with
  | 0 => rfl
  | 1 => rfl
  | 2 => rfl
  | 3 => rfl
  | 4 => rfl
  | 5 => rfl
  | 6 => rfl
  | 7 => rfl
  | 8 => rfl
  | 9 => rfl
  | q + 10 => rw [if_neg (by omega)]; rfl
theorem eFl_F14 (E : EvT) (μ : MemT) (v : Int32) (j : Nat) : eFl E (mwF μ 14 v) j = if j = 9 then (eFl E μ 9).set 33 (.int v) else eFl E μ j := by
  match j with
  | 0 => rfl
  | 1 => rfl
  | 2 => rfl
  | 3 => rfl
  | 4 => rfl
  | 5 => rfl
  | 6 => rfl
  | 7 => rfl
  | 8 => rfl
  | 9 => rfl
  | q + 10 => rw [if_neg (by omega)]; rfl
theorem eFl_F15 (E : EvT) (μ : MemT) (v : Int32) (j : Nat) : eFl E (mwF μ 15 v) j = if j = 9 then (eFl E μ 9).set 36 (.int v) else eFl E μ j := by
  match j with
  | 0 => rfl
  | 1 => rfl
  | 2 => rfl
  | 3 => rfl
  | 4 => rfl
  | 5 => rfl
  | 6 => rfl
  | 7 => rfl
  | 8 => rfl
  | 9 => rfl
  | q + 10 => rw [if_neg (by omega)]; rfl
theorem eFl_F16 (E : EvT) (μ : MemT) (v : Int32) (j : Nat) : eFl E (mwF μ 16 v) j = if j = 9 then (eFl E μ 9).set 38 (.int v) else eFl E μ j := by
  match j with
  | 0 => rfl
  | 1 => rfl
  | 2 => rfl
  | 3 => rfl
  | 4 => rfl
  | 5 => rfl
  | 6 => rfl
  | 7 => rfl
  | 8 => rfl
  | 9 => rfl
  | q + 10 => rw [if_neg (by omega)]; rfl
theorem eFl_F17 (E : EvT) (μ : MemT) (v : Int32) (j : Nat) : eFl E (mwF μ 17 v) j = if j = 9 then (eFl E μ 9).set 40 (.int v) else eFl E μ j := by
  match j with
  | 0 => rfl
  | 1 => rfl
  | 2 => rfl
  | 3 => rfl
  | 4 => rfl
  | 5 => rfl
  | 6 => rfl
  | 7 => rfl
  | 8 => rfl
  | 9 => rfl
  | q + 10 => rw [if_neg (by omega)]; rfl
