/-! The model: cutting a line. -/
theorem lnEx {g : PgT} (hg : PgOk g) (d : Nat → Int32) : ∃ c la, LnSt g (Lv g d) c la ∧ ∀ s, Lv g d s → la s < c := by
  have key : ∀ k c la, k + c = pN g + 1 → LnSt g (Lv g d) c la → ∃ c la, LnSt g (Lv g d) c la ∧ ∀ s, Lv g d s → la s < c := by
    intro k
    induction k with
    | zero =>
      intro c la hk H
      have := H.cle (fun s hs => hs.1)
      omega
    | succ k ih =>
      intro c la hk H
      obtain ⟨r, P, En⟩ := Enm.ex (S := fun s => Lv g d s ∧ la s = c) (bf := gBet g) (fun a b c => gBet.tr) (fun a b h => gBet.tot h) (pN g) (fun s hs => hs.1.1)
      by_cases hP : P = 0
      · refine ⟨c, la, H, fun s hs => ?_⟩
        have h1 := H.1 s hs
        by_cases e : la s = c
        · obtain ⟨p, p1, -⟩ := En.2.1 s ⟨hs, e⟩
          omega
        · omega
      · obtain ⟨h1, h2⟩ := En.1 0 (by omega)
        refine ih (c + 1) (lnUp g c la (r 0)) (by omega) (H.up h1 h2 (fun s hs e => ?_) (by have := (hg.2 (r 0) h1.1).2.2.2.2.1; omega))
        obtain ⟨p, p1, p2⟩ := En.2.1 s ⟨hs, e⟩
        by_cases c0 : p = 0
        · exact Or.inl (by rw [← p2, c0])
        · exact Or.inr (by rw [← p2]; exact En.2.2 0 p (by omega) p1)
  exact key (pN g + 1) 0 (fun _ => 0) (by omega) ⟨fun _ _ => Nat.le_refl 0, fun j hj => absurd hj (by omega)⟩
theorem hm_cutC {K9 : Int32 → Int32 → Int32 → MemT → Prop} {Pp : MemT → Prop} {g : PgT} {μ : MemT} (hA : MtA μ g) {s : Nat} (hs : s < pN g) (x1 x3 x4 x5 : Int32) (y0 : Int64) (hb : -4000000 ≤ y0.toInt ∧ y0.toInt ≤ 4000000)
    (go : ∀ μ', Fr [61, 62] [] [] false μ μ' → μ'.1 61 = upd (μ.1 61) s (if 3 * pZ g s ≤ y0.toInt then -1 else x5) → μ'.1 62 = upd (μ.1 62) s (b01 (!(decide (3 * pZ g s ≤ y0.toInt)) && decide (0 < y0.toInt ∧ 0 < pW g s ∧ pW g s ≤ 4 * y0.toInt))) → K9 x1 x5 (b01 (decide (3 * pZ g s ≤ y0.toInt))) μ') : t_X9_cutLine_405 K9 Pp x1 (nI s) x3 x4 x5 y0 μ := by
  have hn := hA.1.1
  obtain ⟨-, -, -, ws, zs, -, -⟩ := hA.2.1.2.1 s hs
  obtain ⟨-, -, -, bw, bz, -⟩ := hA.1.2 s hs
  have is : vp_in (nI s) 200 := inI (by omega) (by decide)
  have cs : (nI s).toNatClampNeg = s := cI (by omega)
  have t3 : (3 : Int64).toInt = 3 := by decide
  have t0 : (0 : Int64).toInt = 0 := by decide
  have e3 : ((3 : Int64) * (μ.1 49 s).toInt64).toInt = 3 * pZ g s := by rw [fb_mulL (by rw [t3, tL64, zs]; omega) (by rw [t3, tL64, zs]; omega), t3, tL64, zs]
  unfold t_X9_cutLine_405
  rw [cs, lt64, e3]
  refine ⟨is, fun h => ?_, fun h => ?_⟩
  · have hd : decide (3 * pZ g s ≤ y0.toInt) = false := decide_eq_false (by omega)
    rw [hd] at go
    unfold t_X9_cutLine_429
    refine ⟨fun _ => ?_, fun z => absurd rfl z⟩
    unfold t_X9_cutLine_445
    refine ⟨is, fun μ2 e2 => ⟨fun z => absurd rfl z, fun _ => ?_⟩⟩
    have k48 : μ2.2.1 48 = μ.2.1 48 := by rw [e2, mI_2]
    have fin : ∀ (b : Bool) (x : Int32) (μ6 : MemT), mnb x = b01 b → b = decide (0 < y0.toInt ∧ 0 < pW g s ∧ pW g s ≤ 4 * y0.toInt) → μ6 = mwI μ2 62 (nI s) (mnb x) → K9 x1 x5 0 μ6 := fun b x μ6 hx hbx e6 => by
      refine go μ6 ?_ ?_ ?_
      · rw [e6, e2]; exact (Fr.wI _ _ _ (by decide)).tr (Fr.wI _ _ _ (by decide))
      · rw [e6, mI_1, upN _ _ (by decide), e2, mI_1, upE, cs, if_neg (by omega)]
      · rw [e6, mI_1, upE, e2, mI_1, upN _ _ (by decide), cs, hx, hbx]; rfl
    rw [le64, k48, cs, le64, t0, ws]
    refine ⟨fun h1 => ⟨is, fun μ6 e6 => fin false 0 μ6 mnb0 (decide_eq_false (by omega)).symm e6⟩, fun h1 => ⟨is, fun h2 => ⟨is, fun μ6 e6 => fin false 0 μ6 mnb0 (decide_eq_false (by omega)).symm e6⟩, fun h2 => ⟨is, fun z => ?_, ?_⟩⟩⟩
    · rw [eq64, ws] at z
      have z : pW g s = 0 := z
      omega
    · rw [share_250 (by omega) (by omega) (by omega) (by omega), ws]
      exact ⟨fun h3 => ⟨is, fun μ6 e6 => fin false 0 μ6 mnb0 (decide_eq_false (by omega)).symm e6⟩, fun h3 => ⟨is, fun μ6 e6 => fin true 1 μ6 mnb1 (decide_eq_true (by omega)).symm e6⟩⟩
  · have hd : decide (3 * pZ g s ≤ y0.toInt) = true := decide_eq_true (by omega)
    rw [hd] at go
    unfold t_X9_cutLine_429
    refine ⟨fun z => absurd z (by decide), fun _ => ?_⟩
    unfold t_X9_cutLine_445
    refine ⟨is, fun μ2 e2 => ⟨fun _ => ⟨is, fun μ6 e6 => go μ6 ?_ ?_ ?_⟩, fun z => absurd z (by decide)⟩⟩
    · rw [e6, e2]; exact (Fr.wI _ _ _ (by decide)).tr (Fr.wI _ _ _ (by decide))
    · rw [e6, mI_1, upN _ _ (by decide), e2, mI_1, upE, cs, if_pos (by omega)]
    · rw [e6, mI_1, upE, e2, mI_1, upN _ _ (by decide), cs, mnb0]; rfl
set_option maxHeartbeats 2000000 in
theorem hm_cutA {K9 : Int32 → Int32 → Int32 → MemT → Prop} {Pp : MemT → Prop} {g : PgT} {μ : MemT} (hA : MtA μ g) {s k : Nat} (x1 x3 : Int32) (hs : s < pN g) (hk : ¬ x3 = 0 → k < 200 ∧ μ.2.2.1 12 = nI k) (h0 : x3 = 0 → t_X9_cutLine_161 K9 Pp x1 (nI s) x3 μ)
    (go : ¬ x3 = 0 → ∀ μ', Fr [63, 64, 69, 70] [65, 66, 67, 68] [12] false μ μ' → μ'.2.2.1 12 = nI (k + 1) → (∃ a : Int64, a.toInt = gU g s ∧ μ'.2.1 65 = vp_updL (μ.2.1 65) k a) → (∃ a : Int64, a.toInt = gU g s + pW g s ∧ μ'.2.1 66 = vp_updL (μ.2.1 66) k a) → (∃ a : Int64, a.toInt = gV g s + pZ g s ∧ μ'.2.1 67 = vp_updL (μ.2.1 67) k a) → (∃ a : Int64, a.toInt = gV g s ∧ μ'.2.1 68 = vp_updL (μ.2.1 68) k a) → (∃ z : Int32, z.toInt = pZ g s ∧ μ'.1 69 = upd (μ.1 69) k z) → μ'.1 70 = upd (μ.1 70) k (b01 (pT g s)) → t_X9_cutLine_161 K9 Pp x1 (nI s) x3 μ') : t_X9_cutLine_9 K9 Pp x1 (nI s) x3 μ := by
  have hn := hA.1.1
  obtain ⟨us, vs, -, -⟩ := hA.2.2 s hs
  obtain ⟨-, -, -, ws, zs, ts, -⟩ := hA.2.1.2.1 s hs
  obtain ⟨-, -, -, bw, bz, -⟩ := hA.1.2 s hs
  have bu := gU_bd hA.1 hs
  have bv := gV_bd hA.1 hs
  have is : vp_in (nI s) 200 := inI (by omega) (by decide)
  have cs : (nI s).toNatClampNeg = s := cI (by omega)
  have euw : (μ.2.1 54 s + μ.2.1 48 s).toInt = gU g s + pW g s := by rw [fb_addL (by rw [us, ws]; omega) (by rw [us, ws]; omega), us, ws]
  have evz : (μ.2.1 55 s + (μ.1 49 s).toInt64).toInt = gV g s + pZ g s := by rw [fb_addL (by rw [vs, tL64, zs]; omega) (by rw [vs, tL64, zs]; omega), vs, tL64, zs]
  unfold t_X9_cutLine_9
  refine ⟨fun z => absurd z (nI_ne_m1 (by omega)), fun _ => ⟨h0, fun hx => ?_⟩⟩
  obtain ⟨hk, hF⟩ := hk hx
  have go := go hx
  have ik : vp_in (nI k) 200 := inI hk (by decide)
  have ck : (nI k).toNatClampNeg = k := cI (by omega)
  rw [hF]
  refine ⟨ik, fun μ2 e2 => ?_⟩
  have F2 : μ2.2.2.1 12 = nI k := by rw [e2, mI_2]; exact hF
  rw [F2]
  refine ⟨ik, fun μ4 e4 => ?_⟩
  have F4 : μ4.2.2.1 12 = nI k := by rw [e4, mI_2]; exact F2
  rw [F4]
  refine ⟨is, ik, fun μ7 e7 => ⟨is, is, ?_⟩⟩
  have F7 : μ7.2.2.1 12 = nI k := by rw [e7, mL_22]; exact F4
  rw [F7]
  refine ⟨ik, fun μ11 e11 => ⟨is, is, ?_⟩⟩
  have F11 : μ11.2.2.1 12 = nI k := by rw [e11, mL_22]; exact F7
  rw [F11]
  refine ⟨ik, fun μ15 e15 => ⟨is, ?_⟩⟩
  have F15 : μ15.2.2.1 12 = nI k := by rw [e15, mL_22]; exact F11
  rw [F15]
  refine ⟨ik, fun μ18 e18 => ⟨is, ?_⟩⟩
  have F18 : μ18.2.2.1 12 = nI k := by rw [e18, mL_22]; exact F15
  rw [F18]
  refine ⟨ik, fun μ21 e21 => ⟨is, ?_⟩⟩
  have F21 : μ21.2.2.1 12 = nI k := by rw [e21, mI_2]; exact F18
  rw [F21]
  have l4 : μ4.2.1 = μ.2.1 := by rw [e4, mI_2, e2, mI_2]
  have i4 : μ4.1 49 = μ.1 49 := by rw [e4, mI_1, upN _ _ (by decide), e2, mI_1, upN _ _ (by decide)]
  have a7 : μ7.2.1 54 s = μ.2.1 54 s := by rw [e7, mL_21, upN _ _ (by decide), l4]
  have b7 : μ7.2.1 48 s = μ.2.1 48 s := by rw [e7, mL_21, upN _ _ (by decide), l4]
  have a11 : μ11.2.1 55 s = μ.2.1 55 s := by rw [e11, mL_21, upN _ _ (by decide), e7, mL_21, upN _ _ (by decide), l4]
  have b11 : μ11.1 49 s = μ.1 49 s := by rw [e11, mL_1, e7, mL_1, i4]
  have a15 : μ15.2.1 55 s = μ.2.1 55 s := by rw [e15, mL_21, upN _ _ (by decide), a11]
  have a18 : μ18.1 49 s = μ.1 49 s := by rw [e18, mL_1, e15, mL_1, b11]
  have a21 : μ21.1 50 s = b01 (pT g s) := by rw [e21, mI_1, upN _ _ (by decide), e18, mL_1, e15, mL_1, e11, mL_1, e7, mL_1, e4, mI_1, upN _ _ (by decide), e2, mI_1, upN _ _ (by decide)]; exact ts
  have fin : ∀ y, y = b01 (pT g s) → t_X9_cutLine_150 K9 Pp x1 (nI s) x3 (nI k) y μ21 := fun y hy => by
    unfold t_X9_cutLine_150
    refine ⟨ik, fun μ22 e22 μ23 e23 => go μ23 ?_ ?_ ⟨_, us, ?_⟩ ⟨_, euw, ?_⟩ ⟨_, evz, ?_⟩ ⟨_, vs, ?_⟩ ⟨_, zs, ?_⟩ ?_⟩
    · rw [e23, e22, e21, e18, e15, e11, e7, e4, e2]
      exact ((((((((Fr.wI _ _ _ (by decide)).tr (Fr.wI _ _ _ (by decide))).tr (Fr.wL _ _ _ (by decide))).tr (Fr.wL _ _ _ (by decide))).tr (Fr.wL _ _ _ (by decide))).tr (Fr.wL _ _ _ (by decide))).tr (Fr.wI _ _ _ (by decide))).tr (Fr.wI _ _ _ (by decide))).tr (Fr.wF _ _ (by decide))
    · rw [e23, mF_221, upE, e22, mI_2, F21]; exact nI_1 _
    · rw [e23, mF_21, e22, mI_2, e21, mI_2, e18, mL_21, upN _ _ (by decide), e15, mL_21, upN _ _ (by decide), e11, mL_21, upN _ _ (by decide), e7, mL_21, upE, l4, cs, ck]
    · rw [e23, mF_21, e22, mI_2, e21, mI_2, e18, mL_21, upN _ _ (by decide), e15, mL_21, upN _ _ (by decide), e11, mL_21, upE, cs, a7, b7, ck, e7, mL_21, upN _ _ (by decide), l4]
    · rw [e23, mF_21, e22, mI_2, e21, mI_2, e18, mL_21, upN _ _ (by decide), e15, mL_21, upE, cs, a11, b11, ck, e11, mL_21, upN _ _ (by decide), e7, mL_21, upN _ _ (by decide), l4]
    · rw [e23, mF_21, e22, mI_2, e21, mI_2, e18, mL_21, upE, cs, a15, ck, e15, mL_21, upN _ _ (by decide), e11, mL_21, upN _ _ (by decide), e7, mL_21, upN _ _ (by decide), l4]
    · rw [e23, mF_1, e22, mI_1, upN _ _ (by decide), e21, mI_1, upE, cs, a18, ck, e18, mL_1, e15, mL_1, e11, mL_1, e7, mL_1, e4, mI_1, upN _ _ (by decide), e2, mI_1, upN _ _ (by decide)]
    · rw [e23, mF_1, e22, mI_1, upE, ck, hy, e21, mI_1, upN _ _ (by decide), e18, mL_1, e15, mL_1, e11, mL_1, e7, mL_1, e4, mI_1, upN _ _ (by decide), e2, mI_1, upN _ _ (by decide)]
  rw [cs, a21, b01_0]
  refine ⟨fun h => fin 0 (by rw [h]; rfl), fun h => fin 1 ?_⟩
  cases c : pT g s with
  | true => rfl
  | false => exact absurd c h
