/-! The class: segments. -/
theorem ite64 {c : Prop} [Decidable c] (a b : Int64) : (if c then a else b).toInt = if c then a.toInt else b.toInt := by split <;> rfl
theorem ite32 {c : Prop} [Decidable c] (a b : Int32) : (if c then a else b).toInt = if c then a.toInt else b.toInt := by split <;> rfl
theorem mnb_b (b : Bool) : mnb (b01 b) = b01 b := by cases b <;> decide
theorem mnb0 : mnb 0 = 0 := by decide
theorem mnb1 : mnb 1 = 1 := by decide
/-- stage A of the class as it lies there, over a memory with the page -/
def CtA (μ : MemT) (g : PgT) : Prop := PgOk g ∧ HasC μ g ∧ ∀ s, s < pN g → AatC μ g s
theorem CtA.fr {SI SL SF : List Nat} {g' : Bool} {μ μ' : MemT} {g : PgT} (h : CtA μ g) (hf : Fr SI SL SF g' μ μ') (h1 : ∀ k ∈ [10, 14, 15, 16, 17, 18, 21, 22], k ∉ SI) (h2 : ∀ k ∈ [11, 12, 13, 19, 20], k ∉ SL) (h3 : 1 ∉ SF) : CtA μ' g := by
  obtain ⟨a, b, c⟩ := h
  refine ⟨a, b.fr hf (fun k hk => h1 k ?_) (fun k hk => h2 k ?_) h3, fun s hs => ?_⟩
  · simp only [List.mem_cons, List.not_mem_nil, or_false] at hk ⊢
    omega
  · simp only [List.mem_cons, List.not_mem_nil, or_false] at hk ⊢
    omega
  · have := c s hs
    unfold AatC at this ⊢
    rw [hf.1 21 (h1 21 (by decide)), hf.1 22 (h1 22 (by decide)), hf.2.1 19 (h2 19 (by decide)), hf.2.1 20 (h2 20 (by decide))]
    exact this
theorem gap_toInt {g : PgT} {μ : MemT} (hA : CtA μ g) {s t : Nat} (hs : s < pN g) (ht : t < pN g) : (μ.2.1 19 t - (μ.2.1 19 s + μ.2.1 13 s)).toInt = gGp g s t := by
  obtain ⟨hg, hC, hA⟩ := hA
  obtain ⟨us, -, -, -⟩ := hA s hs
  obtain ⟨ut, -, -, -⟩ := hA t ht
  have ws := (hC.2.1 s hs).2.2.2.1
  have b1 := gU_bd hg hs
  have b2 := gU_bd hg ht
  have b3 := (hg.2 s hs).2.2.2.1
  have e : (μ.2.1 19 s + μ.2.1 13 s).toInt = gU g s + pW g s := by
    rw [fb_addL (by rw [us, ws]; omega) (by rw [us, ws]; omega), us, ws]
  rw [fb_subL (by rw [ut, e]; omega) (by rw [ut, e]; omega), ut, e]
  rfl
theorem hs_gap {g : PgT} {μ : MemT} (hA : CtA μ g) {s t : Nat} (hs : s < pN g) (ht : t < pN g) : sp_X6_gap (nI s) (nI t) μ (fun v μ' => μ' = μ ∧ v.toInt = gGp g s t) := by
  have hn := hA.1.1
  unfold sp_X6_gap t_X6_gap_0
  rw [cI (by omega : s < 2147483648), cI (by omega : t < 2147483648)]
  exact ⟨inI (by omega) (by decide), inI (by omega) (by decide), inI (by omega) (by decide), rfl, gap_toInt hA hs ht⟩
theorem hs_isCut {g : PgT} {μ : MemT} (hA : CtA μ g) {s t : Nat} (hs : s < pN g) (ht : t < pN g) : sp_X6_isCut (nI s) (nI t) μ (fun r μ' => μ' = μ ∧ ((r = 1 ∧ 3 * pZ g s ≤ gGp g s t) ∨ (r = 0 ∧ ¬ 3 * pZ g s ≤ gGp g s t))) := by
  have hn := hA.1.1
  have zs := (hA.2.1.2.1 s hs).2.2.2.2.1
  have bz := (hA.1.2 s hs).2.2.2.2.1
  unfold sp_X6_isCut t_X6_isCut_0
  refine ⟨_, hs_gap hA hs ht, fun v μ2 h => ?_⟩
  obtain ⟨rfl, hv⟩ := h
  have e : ((3 : Int64) * (μ2.1 14 s).toInt64).toInt = 3 * pZ g s := by
    rw [fb_mulL (by rw [t3L, tL64, zs]; omega) (by rw [t3L, tL64, zs]; omega), t3L, tL64, zs]
  rw [cI (by omega), lt64, e, hv]
  exact ⟨inI (by omega) (by decide), fun h => ⟨rfl, Or.inr ⟨rfl, by omega⟩⟩, fun h => ⟨rfl, Or.inl ⟨rfl, by omega⟩⟩⟩
/-- a space is behind s, t being the next -/
def gSp (g : PgT) (s t : Nat) : Bool := decide (0 < gGp g s t ∧ 0 < pW g s ∧ pW g s ≤ 4 * gGp g s t)
theorem share_250 {a w : Int64} (ha : 0 < a.toInt) (hb : a.toInt ≤ 4000000) (hw : 0 < w.toInt) (hx : w.toInt ≤ 1000000) : ((1000 : Int64) * a / w < 250) ↔ ¬ w.toInt ≤ 4 * a.toInt := by
  have t1000 : (1000 : Int64).toInt = 1000 := by decide
  have t250 : (250 : Int64).toInt = 250 := by decide
  have e1 : ((1000 : Int64) * a).toInt = 1000 * a.toInt := by
    rw [fb_mulL (by rw [t1000]; omega) (by rw [t1000]; omega), t1000]
  have h0 : 0 ≤ 1000 * a.toInt := by omega
  have h2 : (1000 * a.toInt) / w.toInt ≤ 1000 * a.toInt := Int.ediv_le_self _ h0
  have h3 : 0 ≤ (1000 * a.toInt) / w.toInt := Int.ediv_nonneg h0 (by omega)
  have e2 : ((1000 : Int64) * a / w).toInt = (1000 * a.toInt) / w.toInt := by
    rw [Int64.toInt_div, e1, Int.tdiv_eq_ediv_of_nonneg h0, fb_bmodL (by omega) (by omega)]
  rw [lt64, e2, t250]
  have h4 : 250 ≤ (1000 * a.toInt) / w.toInt ↔ 250 * w.toInt ≤ 1000 * a.toInt := Int.le_ediv_iff_mul_le hw
  omega
theorem hs_isSpace {g : PgT} {μ : MemT} (hA : CtA μ g) {s t : Nat} (hs : s < pN g) (ht : t < pN g) : sp_X6_isSpace (nI s) (nI t) μ (fun r μ' => μ' = μ ∧ r = b01 (gSp g s t)) := by
  have hn := hA.1.1
  have ws := (hA.2.1.2.1 s hs).2.2.2.1
  have bw := (hA.1.2 s hs).2.2.2.1
  have b1 := gU_bd hA.1 hs
  have b2 := gU_bd hA.1 ht
  have no : ∀ c : Prop, (0 < gGp g s t ∧ 0 < pW g s ∧ pW g s ≤ 4 * gGp g s t → False) → (0 : Int32) = b01 (gSp g s t) := fun _ h => by
    unfold gSp
    rw [decide_eq_false h]
    rfl
  unfold sp_X6_isSpace t_X6_isSpace_0
  refine ⟨_, hs_gap hA hs ht, fun v μ2 h => ?_⟩
  obtain ⟨rfl, hv⟩ := h
  have hgb : gGp g s t ≤ 4000000 := by unfold gGp; omega
  rw [cI (by omega), le64, le64, hv, t0L, ws]
  refine ⟨fun h => ⟨rfl, no True (by omega)⟩, fun h => ⟨inI (by omega) (by decide), fun h2 => ⟨rfl, no True (by omega)⟩, fun h2 => ⟨inI (by omega) (by decide), fun r μ' => r = (1000 : Int64) * v / μ2.2.1 13 s ∧ μ' = μ2, ?_, fun r10 μ8 h8 => ?_⟩⟩⟩
  · unfold sp_X8_shareOf t_X8_shareOf_0
    have hne : ¬ μ2.2.1 13 s = 0 := fun z => by rw [z, t0L] at ws; omega
    exact ⟨fun _ => ⟨hne, rfl, rfl⟩, fun z => absurd z hne⟩
  · obtain ⟨rfl, rfl⟩ := h8
    rw [share_250 (by rw [hv]; omega) (by rw [hv]; omega) (by rw [ws]; omega) (by rw [ws]; omega), hv, ws]
    refine ⟨fun h3 => ⟨rfl, no True (by omega)⟩, fun h3 => ⟨rfl, ?_⟩⟩
    unfold gSp
    rw [decide_eq_true (by omega)]
    rfl
