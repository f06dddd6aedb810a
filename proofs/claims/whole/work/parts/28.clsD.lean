/-! The class: segments, the loop. -/
set_option maxHeartbeats 2000000 in
theorem hs_openS {g : PgT} {μ : MemT} (hA : CtA μ g) {s k : Nat} (hs : s < pN g) (hk : k < 200) (hF : μ.2.2.1 4 = nI k) : sp_X6_open (nI s) μ (fun μ' => Fr [27, 29, 34] [30, 31, 32, 33] [4] false μ μ' ∧ μ'.2.2.1 4 = nI (k + 1) ∧ μ'.1 27 = upd (μ.1 27) s (nI k) ∧ μ'.1 29 = upd (μ.1 29) k (b01 (pT g s)) ∧ (∃ z : Int32, z.toInt = pZ g s ∧ μ'.1 34 = upd (μ.1 34) k z) ∧ (∃ a : Int64, a.toInt = gU g s ∧ μ'.2.1 30 = vp_updL (μ.2.1 30) k a) ∧ (∃ a : Int64, a.toInt = gU g s + pW g s ∧ μ'.2.1 31 = vp_updL (μ.2.1 31) k a) ∧ (∃ a : Int64, a.toInt = -(gV g s + pZ g s) ∧ μ'.2.1 32 = vp_updL (μ.2.1 32) k a) ∧ (∃ a : Int64, a.toInt = -(gV g s) ∧ μ'.2.1 33 = vp_updL (μ.2.1 33) k a)) := by
  obtain ⟨hg, hC, hA⟩ := hA
  have hn := hg.1
  obtain ⟨us, vs, -, -⟩ := hA s hs
  obtain ⟨-, -, -, ws, zs, ts, -⟩ := hC.2.1 s hs
  have b1 := gU_bd hg hs
  have b2 := gV_bd hg hs
  obtain ⟨-, -, -, bw, bz, -⟩ := hg.2 s hs
  have es : (nI s).toNatClampNeg = s := cI (by omega)
  have ek : (nI k).toNatClampNeg = k := cI (by omega)
  have is : vp_in (nI s) 200 := inI (by omega) (by decide)
  have ik : vp_in (nI k) 200 := inI (by omega) (by decide)
  unfold sp_X6_open t_X6_open_0
  rw [hF, es]
  refine ⟨fun _ => ⟨is, ik, fun μ3 e3 => ⟨is, ik, fun μ6 e6 => ⟨is, is, ik, fun μ10 e10 => ⟨is, is, ik, fun μ14 e14 => ⟨is, ik, fun μ17 e17 => ⟨is, ik, fun μ20 e20 => ⟨is, fun μ22 e22 μ23 e23 => ?_⟩⟩⟩⟩⟩⟩⟩, fun h => absurd (by rw [lit32 200, nI_ltI (by omega) (by omega)]; omega) h⟩
  have f : Fr [27, 29, 34] [30, 31, 32, 33] [4] false μ μ23 := by
    rw [e23, e22, e20, e17, e14, e10, e6, e3]
    exact (((((((Fr.wI μ _ _ (by decide)).tr (Fr.wL _ _ _ (by decide))).tr (Fr.wL _ _ _ (by decide))).tr (Fr.wL _ _ _ (by decide))).tr (Fr.wL _ _ _ (by decide))).tr (Fr.wI _ _ _ (by decide))).tr (Fr.wI _ _ _ (by decide))).tr (Fr.wF _ _ (by decide))
  subst e3 e6 e10 e14 e17 e20 e22 e23
  refine ⟨f, ?_, ?_, ?_, ⟨μ.1 14 s, zs, ?_⟩, ⟨μ.2.1 19 s, us, ?_⟩, ⟨μ.2.1 19 s + μ.2.1 13 s, ?_, ?_⟩, ⟨-(μ.2.1 20 s + (μ.1 14 s).toInt64), ?_, ?_⟩, ⟨-(μ.2.1 20 s), ?_, ?_⟩⟩
  · rw [mF_221, upE, lit32 1, nI_add]
  · show upd (μ.1 27) (nI s).toNatClampNeg (nI k) = _
    rw [es]
  · show upd (μ.1 29) (nI k).toNatClampNeg (mnb (μ.1 15 s)) = _
    rw [ek, ts, mnb_b]
  · show upd (μ.1 34) (nI k).toNatClampNeg (μ.1 14 s) = _
    rw [ek]
  · show vp_updL (μ.2.1 30) (nI k).toNatClampNeg (μ.2.1 19 s) = _
    rw [ek]
  · rw [fb_addL (by rw [us, ws]; omega) (by rw [us, ws]; omega), us, ws]
  · show vp_updL (μ.2.1 31) (nI k).toNatClampNeg (μ.2.1 19 s + μ.2.1 13 s) = _
    rw [ek]
  · have e : (μ.2.1 20 s + (μ.1 14 s).toInt64).toInt = gV g s + pZ g s := by
      rw [fb_addL (by rw [vs, tL64, zs]; omega) (by rw [vs, tL64, zs]; omega), vs, tL64, zs]
    rw [fb_negL (by rw [e]; omega), e]
  · show vp_updL (μ.2.1 32) (nI k).toNatClampNeg (-(μ.2.1 20 s + (μ.1 14 s).toInt64)) = _
    rw [ek]
  · rw [fb_negL (by rw [vs]; omega), vs]
  · show vp_updL (μ.2.1 33) (nI k).toNatClampNeg (-(μ.2.1 20 s)) = _
    rw [ek]
set_option maxHeartbeats 2000000 in
theorem hs_widen {g : PgT} {μ : MemT} (hA : CtA μ g) {s k : Nat} (hs : s < pN g) (hk : k < 200) (hF : μ.2.2.1 4 = nI (k + 1)) : sp_X6_widen (nI s) μ (fun μ' => Fr [27, 34] [31, 32, 33] [] false μ μ' ∧ μ'.1 27 = upd (μ.1 27) s (nI k) ∧ (∃ z : Int32, z.toInt = mxZ (μ.1 34 k).toInt (pZ g s) ∧ μ'.1 34 = upd (μ.1 34) k z) ∧ (∃ a : Int64, a.toInt = mxZ (μ.2.1 31 k).toInt (gU g s + pW g s) ∧ μ'.2.1 31 = vp_updL (μ.2.1 31) k a) ∧ (∃ a : Int64, a.toInt = mnZ (μ.2.1 32 k).toInt (-(gV g s + pZ g s)) ∧ μ'.2.1 32 = vp_updL (μ.2.1 32) k a) ∧ (∃ a : Int64, a.toInt = mxZ (μ.2.1 33 k).toInt (-(gV g s)) ∧ μ'.2.1 33 = vp_updL (μ.2.1 33) k a)) := by
  obtain ⟨hg, hC, hA⟩ := hA
  have hn := hg.1
  obtain ⟨us, vs, -, -⟩ := hA s hs
  obtain ⟨-, -, -, ws, zs, ts, -⟩ := hC.2.1 s hs
  have b1 := gU_bd hg hs
  have b2 := gV_bd hg hs
  obtain ⟨-, -, -, bw, bz, -⟩ := hg.2 s hs
  have es : (nI s).toNatClampNeg = s := cI (by omega)
  have ek : (nI k).toNatClampNeg = k := cI (by omega)
  have is : vp_in (nI s) 200 := inI (by omega) (by decide)
  have ik : vp_in (nI k) 200 := inI (by omega) (by decide)
  have en : nI (k + 1) - (1 : Int32) = nI k := nI_pred k
  have eu : (μ.2.1 19 s + μ.2.1 13 s).toInt = gU g s + pW g s := by rw [fb_addL (by rw [us, ws]; omega) (by rw [us, ws]; omega), us, ws]
  have ev : (μ.2.1 20 s + (μ.1 14 s).toInt64).toInt = gV g s + pZ g s := by rw [fb_addL (by rw [vs, tL64, zs]; omega) (by rw [vs, tL64, zs]; omega), vs, tL64, zs]
  have ev2 : (-(μ.2.1 20 s + (μ.1 14 s).toInt64)).toInt = -(gV g s + pZ g s) := by rw [fb_negL (by rw [ev]; omega), ev]
  have ev3 : (-(μ.2.1 20 s)).toInt = -(gV g s) := by rw [fb_negL (by rw [vs]; omega), vs]
  unfold sp_X6_widen t_X6_widen_0
  rw [hF, en, es, ek]
  refine ⟨fun _ => ⟨ik, is, is, ik, fun μ5 e5 => ⟨ik, is, is, ik, fun μ10 e10 => ⟨ik, is, ik, fun μ14 e14 => ⟨ik, is, ik, fun μ18 e18 => ⟨is, fun μ20 e20 => ?_⟩⟩⟩⟩⟩, fun h => absurd (nI_pos' (by omega)) h⟩
  have f : Fr [27, 34] [31, 32, 33] [] false μ μ20 := by
    rw [e20, e18, e14, e10, e5]
    exact ((((Fr.wL μ _ _ (by decide)).tr (Fr.wL _ _ _ (by decide))).tr (Fr.wL _ _ _ (by decide))).tr (Fr.wI _ _ _ (by decide))).tr (Fr.wI _ _ _ (by decide))
  subst e5 e10 e14 e18 e20
  refine ⟨f, ?_, ⟨if μ.1 34 k < μ.1 14 s then μ.1 14 s else μ.1 34 k, ?_, ?_⟩, ⟨if μ.2.1 19 s + μ.2.1 13 s < μ.2.1 31 k then μ.2.1 31 k else μ.2.1 19 s + μ.2.1 13 s, ?_, ?_⟩, ⟨if -(μ.2.1 20 s + (μ.1 14 s).toInt64) < μ.2.1 32 k then -(μ.2.1 20 s + (μ.1 14 s).toInt64) else μ.2.1 32 k, ?_, ?_⟩, ⟨if -(μ.2.1 20 s) < μ.2.1 33 k then μ.2.1 33 k else -(μ.2.1 20 s), ?_, ?_⟩⟩
  · show upd (μ.1 27) (nI s).toNatClampNeg (nI k) = _
    rw [es]
  · rw [ite32, zs, mxZ]
    by_cases c : μ.1 34 k < μ.1 14 s
    · rw [if_pos c]; rw [lt32, zs] at c; rw [if_pos c]
    · rw [if_neg c]; rw [lt32, zs] at c; rw [if_neg c]
  · show upd (μ.1 34) (nI k).toNatClampNeg (if μ.1 34 k < μ.1 14 s then μ.1 14 s else μ.1 34 k) = _
    rw [ek]
  · rw [ite64, eu, mxZ]
    by_cases c : μ.2.1 19 s + μ.2.1 13 s < μ.2.1 31 k
    · rw [if_pos c]; rw [lt64, eu] at c; rw [if_neg (by omega)]
    · rw [if_neg c]; rw [lt64, eu] at c; split <;> omega
  · show vp_updL (μ.2.1 31) (nI k).toNatClampNeg (if μ.2.1 19 s + μ.2.1 13 s < μ.2.1 31 k then μ.2.1 31 k else μ.2.1 19 s + μ.2.1 13 s) = _
    rw [ek]
  · rw [ite64, ev2, mnZ]
    by_cases c : -(μ.2.1 20 s + (μ.1 14 s).toInt64) < μ.2.1 32 k
    · rw [if_pos c]; rw [lt64, ev2] at c; rw [if_pos c]
    · rw [if_neg c]; rw [lt64, ev2] at c; rw [if_neg c]
  · show vp_updL (μ.2.1 32) (nI k).toNatClampNeg (if -(μ.2.1 20 s + (μ.1 14 s).toInt64) < μ.2.1 32 k then -(μ.2.1 20 s + (μ.1 14 s).toInt64) else μ.2.1 32 k) = _
    rw [ek]
  · rw [ite64, ev3, mxZ]
    by_cases c : -(μ.2.1 20 s) < μ.2.1 33 k
    · rw [if_pos c]; rw [lt64, ev3] at c; rw [if_neg (by omega)]
    · rw [if_neg c]; rw [lt64, ev3] at c; split <;> omega
  · show vp_updL (μ.2.1 33) (nI k).toNatClampNeg (if -(μ.2.1 20 s) < μ.2.1 33 k then μ.2.1 33 k else -(μ.2.1 20 s)) = _
    rw [ek]
def spF (g : PgT) (la r : Nat → Nat) (p : Nat) : Bool := !(sgN g la r (p + 1)) && gSp g (r p) (r (p + 1))
/-- the class's segments, i signs of the row being seen -/
def SgS (μ : MemT) (g : PgT) (la r : Nat → Nat) (P i : Nat) : Prop :=
  μ.2.2.1 4 = nI (sgC g la r i) ∧
  (∀ q, q < sgC g la r i → (μ.2.1 30 q).toInt = (agF g la r i).1 q ∧ (μ.2.1 31 q).toInt = (agF g la r i).2.1 q ∧ (μ.2.1 32 q).toInt = -((agF g la r i).2.2.1 q) ∧ (μ.2.1 33 q).toInt = -((agF g la r i).2.2.2.1 q) ∧ (μ.1 34 q).toInt = (agF g la r i).2.2.2.2.1 q ∧ μ.1 29 q = b01 ((agF g la r i).2.2.2.2.2 q)) ∧
  (∀ p, p < i → μ.1 27 (r p) = nI (sgF g la r p)) ∧
  (∀ s, s < pN g → (∀ p, p < P → r p ≠ s) → μ.1 27 s = -1 ∧ μ.1 28 s = 0) ∧
  (∀ p, p < P → μ.1 28 (r p) = b01 (decide (p + 1 < i) && spF g la r p))
theorem mx_neg (a b : Int) : mnZ (-a) (-b) = -(mxZ a b) := by unfold mnZ mxZ; split <;> split <;> omega
theorem mn_neg (a b : Int) : mxZ (-a) (-b) = -(mnZ a b) := by unfold mnZ mxZ; split <;> split <;> omega
theorem LnSt.cle {g : PgT} {lv : Nat → Prop} {c n : Nat} {la : Nat → Nat} (H : LnSt g lv c la) (hn : ∀ s, lv s → s < n) : c ≤ n := by
  have hex : ∀ j, ∃ h, j < c → (lv h ∧ la h = j) := fun j => by
    by_cases q : j < c
    · obtain ⟨h, a1, a2, -⟩ := H.2 j q
      exact ⟨h, fun _ => ⟨a1, a2⟩⟩
    · exact ⟨0, fun z => absurd z q⟩
  refine pigN n c (fun j => Classical.choose (hex j)) (fun j hj => hn _ (Classical.choose_spec (hex j) hj).1) (fun i j hi hj e => ?_)
  have e : Classical.choose (hex i) = Classical.choose (hex j) := e
  have a := (Classical.choose_spec (hex i) hi).2
  have b := (Classical.choose_spec (hex j) hj).2
  rw [e] at a
  omega
set_option maxHeartbeats 4000000 in
theorem hs_cut {g : PgT} {μ : MemT} {la r : Nat → Nat} {c P : Nat} (hA : CtA μ g) (hL : LnC μ g c la r P) : sp_X6_cut μ (fun μ' => Fr [27, 28, 29, 34] [30, 31, 32, 33] [4] false μ μ' ∧ SgS μ' g la r P P) := by
  have hn := hA.1.1
  have hPn : P ≤ pN g := hL.2.2.1.len gBf.ir (fun s hs => hs.1.1)
  have hrn : ∀ p, p < P → r p < pN g := fun p hp => (hL.2.2.1.1 p hp).1.1
  have hinj : ∀ p q, p < P → q < P → r p = r q → p = q := fun p q hp hq e => hL.2.2.1.inj gBf.ir hp hq e
  intro K8 K42 h8 h42
  have key2 : ∀ q i μ1, q + i = P → Fr [27, 28, 29, 34] [30, 31, 32, 33] [4] false μ μ1 → SgS μ1 g la r P i → K42 (nI i) μ1 := by
    intro q
    induction q with
    | zero =>
      intro i μ1 hi hf hS
      have e : i = P := by omega
      subst e
      apply h42
      unfold t_X6_cut_42
      rw [hf.2.2.1 3 (by decide), hL.2.2.2.2.2]
      exact ⟨fun _ => ⟨hf, hS⟩, fun h => absurd (by rw [nI_leI (by omega) (by omega)]; omega) h⟩
    | succ q ih =>
      intro i μ1 hi hf hS
      have hi' : i < P := by omega
      have hA1 : CtA μ1 g := hA.fr hf (by decide) (by decide) (by decide)
      have hri := hrn i hi'
      have hci := sgC_le g la r i
      have row1 : ∀ p, p < P → μ1.1 24 p = nI (r p) := fun p hp => by rw [hf.1 24 (by decide)]; exact hL.2.2.2.1 p hp
      obtain ⟨s1, s2, s3, s4, s5⟩ := hS
      -- a segment begins here
      have opn : ∀ y6 : Int32, sgN g la r i = true → t_X6_cut_143 K8 K42 (fun μ' => Fr [27, 28, 29, 34] [30, 31, 32, 33] [4] false μ μ' ∧ SgS μ' g la r P P) (nI i) (nI (r i)) y6 μ1 := by
        intro y6 hnew
        obtain ⟨n1, n2⟩ := sg_new hnew
        unfold t_X6_cut_143
        refine ⟨_, hs_openS hA1 hri (by omega) s1, fun μ2 h2 => ?_⟩
        obtain ⟨f2, o1, o2, o3, ⟨z, o4, o5⟩, ⟨a, o6, o7⟩, ⟨a', o8, o9⟩, ⟨b, o10, o11⟩, ⟨b', o12, o13⟩⟩ := h2
        rw [nI_1]
        refine ih (i + 1) μ2 (by omega) (hf.tr (f2.mono (by decide) (by decide) (by decide) (fun h => h))) ⟨?_, fun q hq => ?_, fun p hp => ?_, fun s hs hne => ?_, fun p hp => ?_⟩
        · rw [o1, n2]
        · rw [o3, o5, o7, o9, o11, o13, ag_new hnew, n1]
          by_cases e : q = sgC g la r i
          · subst e
            simp only [udE, ulE, uzE, ubE]
            exact ⟨o6, o8, o10, o12, o4, trivial⟩
          · simp only [udN _ _ e, ulN _ _ e, uzN _ _ e, ubN _ _ e]
            exact s2 q (by omega)
        · rw [o2]
          by_cases e : p = i
          · subst e
            rw [udE, n1]
          · rw [udN _ _ (fun z => e (hinj p i (by omega) hi' z))]
            exact s3 p (by omega)
        · rw [o2, udN _ _ (fun z => hne i hi' z.symm), f2.1 28 (by decide)]
          exact s4 s hs hne
        · rw [f2.1 28 (by decide), s5 p hp]
          by_cases e : p + 1 = i
          · have : spF g la r p = false := by
              unfold spF
              rw [e, hnew]
              rfl
            rw [this]
            simp
          · congr 2
            simp
            omega
      have hcn : c ≤ pN g := hL.1.cle (fun s hs => hs.1)
      have hln : ∀ p, p < P → μ1.1 26 (r p) = nI (la (r p)) ∧ la (r p) < c := fun p hp => by
        rw [hf.1 26 (by decide)]
        rcases hL.2.1 (r p) (hrn p hp) with ⟨-, a, b⟩ | ⟨a, -⟩
        · exact ⟨b, a⟩
        · exact absurd (hL.2.2.1.1 p hp) a
      have ii : vp_in (nI i) 200 := inI (by omega) (by decide)
      apply h42
      unfold t_X6_cut_42
      rw [hf.2.2.1 3 (by decide), hL.2.2.2.2.2]
      refine ⟨fun h => ?_, fun _ => ⟨ii, fun hne => ?_, fun h0 => ?_⟩⟩
      · exfalso
        rw [nI_leI (by omega) (by omega)] at h
        omega
      · have hp : 0 < i := by
          rcases Nat.eq_zero_or_pos i with z | z
          · rw [z] at hne; exact absurd rfl hne
          · exact z
        obtain ⟨j, rfl⟩ : ∃ j, i = j + 1 := ⟨i - 1, by omega⟩
        have hrj := hrn j (by omega)
        have en : nI (j + 1) - (1 : Int32) = nI j := nI_pred j
        rw [en, cI (by omega : j < 2147483648), cI (by omega : j + 1 < 2147483648), row1 j (by omega), row1 (j + 1) hi']
        refine ⟨inI (by omega) (by decide), ?_⟩
        unfold t_X6_cut_78
        obtain ⟨l1, l2⟩ := hln j (by omega)
        obtain ⟨l3, l4⟩ := hln (j + 1) hi'
        have iff := sgN_at (g := g) (la := la) (r := r) (p := j + 1) (by omega)
        rw [Nat.add_sub_cancel] at iff
        rw [cI (by omega : r j < 2147483648), cI (by omega : r (j + 1) < 2147483648), l1, l3, nI_eq (by omega) (by omega)]
        refine ⟨fun h => absurd h (nI_pos (by omega)), fun _ => ⟨inI (by omega) (by decide), inI (by omega) (by decide), fun h => opn _ (iff.mpr (Or.inl h)), fun hle => ⟨_, hs_isCut hA1 hrj hri, fun r6 μ4 h6 => ?_⟩⟩⟩
        obtain ⟨rfl, h6⟩ := h6
        refine ⟨fun h => opn _ (iff.mpr (Or.inr ?_)), fun h => ⟨_, hs_isSpace hA1 hrj hri, fun r10 μ8 h10 => ⟨inI (by omega) (by decide), fun μ12 e12 => ?_⟩⟩⟩
        · rcases h6 with ⟨-, a⟩ | ⟨a, -⟩
          · exact a
          · exact absurd a h
        obtain ⟨rfl, h10⟩ := h10
        have hold : ¬ sgN g la r (j + 1) = true := fun z => by
          rcases iff.mp z with y | y
          · exact y hle
          · rcases h6 with ⟨a, -⟩ | ⟨-, a⟩
            · rw [h] at a; exact absurd a (by decide)
            · exact a y
        obtain ⟨-, n1, n2⟩ := sg_old hold
        have f12 : Fr [28] [] [] false μ8 μ12 := by rw [e12]; exact Fr.wI _ _ _ (by decide)
        have hA12 : CtA μ12 g := hA1.fr f12 (by decide) (by decide) (by decide)
        have sp12 : μ12.1 28 = upd (μ8.1 28) (r j) (b01 (gSp g (r j) (r (j + 1)))) := by
          rw [e12, mI_1, upE, cI (by omega), h10, mnb_b]
        refine ⟨_, hs_widen (k := sgF g la r (j + 1)) hA12 hri (by omega) (by rw [f12.2.2.1 4 (by decide), s1, n1]), fun μ14 h14 => ?_⟩
        obtain ⟨f14, o2, ⟨z, o4, o5⟩, ⟨a', o8, o9⟩, ⟨b, o10, o11⟩, ⟨b', o12, o13⟩⟩ := h14
        rw [f12.1 27 (by decide)] at o2
        rw [f12.1 34 (by decide)] at o4 o5
        rw [f12.2.1 31 (by decide)] at o8 o9
        rw [f12.2.1 32 (by decide)] at o10 o11
        rw [f12.2.1 33 (by decide)] at o12 o13
        rw [nI_1]
        refine ih (j + 1 + 1) μ14 (by omega) (hf.tr ((f12.mono (by decide) (by decide) (by decide) (fun h => h)).tr (f14.mono (by decide) (by decide) (by decide) (fun h => h)))) ⟨?_, fun q hq => ?_, fun p hp => ?_, fun s hs hne => ?_, fun p hp => ?_⟩
        · rw [f14.2.2.1 4 (by decide), f12.2.2.1 4 (by decide), s1, n2]
        · rw [f14.1 29 (by decide), f12.1 29 (by decide), f14.2.1 30 (by decide), f12.2.1 30 (by decide), o5, o9, o11, o13, ag_old hold]
          by_cases e : q = sgF g la r (j + 1)
          · subst e
            obtain ⟨t1, t2, t3, t4, t5, t6⟩ := s2 (sgF g la r (j + 1)) (by omega)
            simp only [udE, ulE, uzE]
            refine ⟨t1, by rw [o8, t2], ?_, ?_, by rw [o4, t5], t6⟩
            · rw [o10, t3, mx_neg]
            · rw [o12, t4, mn_neg]
          · simp only [udN _ _ e, ulN _ _ e, uzN _ _ e]
            exact s2 q (by omega)
        · rw [o2]
          by_cases e : p = j + 1
          · subst e
            rw [udE]
          · rw [udN _ _ (fun z => e (hinj p (j + 1) (by omega) hi' z))]
            exact s3 p (by omega)
        · rw [o2, udN _ _ (fun z => hne (j + 1) hi' z.symm), f14.1 28 (by decide), sp12, udN _ _ (fun z => hne j (by omega) z.symm)]
          exact s4 s hs hne
        · rw [f14.1 28 (by decide), sp12]
          by_cases e : p = j
          · subst e
            rw [udE]
            have e2 : spF g la r p = gSp g (r p) (r (p + 1)) := by
              unfold spF
              cases hq : sgN g la r (p + 1) with
              | true => exact absurd hq hold
              | false => rfl
            rw [e2]
            simp
          · rw [udN _ _ (fun z => e (hinj p j hp (by omega) z)), s5 p hp]
            congr 2
            simp
            omega
      · have hz : i = 0 := nI_inj (by omega) (by omega) h0
        subst hz
        have hnew : sgN g la r 0 = true := by simp [sgN]
        rw [cI (by omega), row1 0 hi']
        unfold t_X6_cut_78
        exact ⟨fun _ => opn _ hnew, fun h => absurd (by decide) h⟩
  have key1 : ∀ q i μ1, q + i = pN g → Fr [27, 28, 29, 34] [30, 31, 32, 33] [4] false μ μ1 → μ1.2.2.1 4 = 0 → (∀ s, s < i → μ1.1 27 s = -1 ∧ μ1.1 28 s = 0) → K8 (nI i) μ1 := by
    intro q
    induction q with
    | zero =>
      intro i μ1 hi hf hF hz
      have e : i = pN g := by omega
      subst e
      have hA1 : CtA μ1 g := hA.fr hf (by decide) (by decide) (by decide)
      apply h8
      unfold t_X6_cut_8
      rw [hA1.2.1.1]
      refine ⟨fun _ => key2 P 0 μ1 (by omega) hf ⟨hF, fun q hq => absurd hq (by simp [sgC]), fun p hp => absurd hp (by omega), fun s hs _ => hz s hs, fun p hp => ?_⟩, fun h => absurd (by rw [nI_leI (by omega) (by omega)]; omega) h⟩
      rw [(hz (r p) (hrn p hp)).2]
      simp [b01]
    | succ q ih =>
      intro i μ1 hi hf hF hz
      have hA1 : CtA μ1 g := hA.fr hf (by decide) (by decide) (by decide)
      apply h8
      unfold t_X6_cut_8
      rw [hA1.2.1.1]
      refine ⟨fun h => ?_, fun _ => ⟨inI (by omega) (by decide), fun μ2 e2 => ⟨inI (by omega) (by decide), fun μ4 e4 => ?_⟩⟩⟩
      · exfalso
        rw [nI_leI (by omega) (by omega)] at h
        omega
      rw [nI_1]
      refine ih (i + 1) μ4 (by omega) (hf.tr (by rw [e4, e2]; exact (Fr.wI _ _ _ (by decide)).tr (Fr.wI _ _ _ (by decide)))) (by rw [e4, mI_2, e2, mI_2]; exact hF) (fun s hs => ?_)
      rw [e4, mI_1, upN _ _ (by decide), upE, e2, mI_1, upE, upN _ _ (by decide), cI (by omega), mnb0]
      by_cases e : s = i
      · subst e
        rw [udE, udE]
        exact ⟨rfl, rfl⟩
      · rw [udN _ _ e, udN _ _ e]
        exact hz s (by omega)
  unfold t_X6_cut_0
  intro μ1 e1
  exact key1 (pN g) 0 μ1 (by omega) (by rw [e1]; exact Fr.wF _ _ (by decide)) (by rw [e1, mF_221, upE]) (fun s hs => absurd hs (by omega))
