/-! Changing the page. -/
def setT (g : PgT) (s : Nat) (b : Bool) : PgT := (pN g, pC g, pX g, pY g, pW g, pZ g, fun i => if i = s then b else pT g i, pG g, pM g, pO g)
def setG (g : PgT) (s : Nat) (v : Int) : PgT := (pN g, pC g, pX g, pY g, pW g, pZ g, pT g, fun i => if i = s then v else pG g i, pM g, pO g)
def setM (g : PgT) (a : Nat) (l o : Int32) : PgT := (pN g, pC g, pX g, pY g, pW g, pZ g, pT g, pG g, upd (pM g) a l, upd (pO g) a o)
def addS (g : PgT) (c : Nat) (x y w z : Int) : PgT := (pN g + 1, fun i => if i = pN g then c else pC g i, fun i => if i = pN g then x else pX g i, fun i => if i = pN g then y else pY g i, fun i => if i = pN g then w else pW g i, fun i => if i = pN g then z else pZ g i, fun i => if i = pN g then false else pT g i, fun i => if i = pN g then -1 else pG g i, pM g, pO g)
theorem Has.setT {μ μ' : MemT} {g : PgT} {f cC cX cY cW cZ cT cG cM cO s : Nat} {b : Bool} (h : Has μ g f cC cX cY cW cZ cT cG cM cO) (e0 : μ'.2.2.1 f = μ.2.2.1 f) (e1 : μ'.1 cC = μ.1 cC) (e2 : μ'.2.1 cX = μ.2.1 cX) (e3 : μ'.2.1 cY = μ.2.1 cY) (e4 : μ'.2.1 cW = μ.2.1 cW) (e5 : μ'.1 cZ = μ.1 cZ) (e6 : μ'.1 cT = upd (μ.1 cT) s (b01 b)) (e7 : μ'.1 cG = μ.1 cG) (e8 : μ'.1 cM = μ.1 cM) (e9 : μ'.1 cO = μ.1 cO) : Has μ' (setT g s b) f cC cX cY cW cZ cT cG cM cO := by
  refine ⟨e0.trans h.1, fun i hi => ?_, e8.trans h.2.2.1, e9.trans h.2.2.2⟩
  obtain ⟨a1, a2, a3, a4, a5, a6, a7⟩ := h.2.1 i hi
  rw [e1, e2, e3, e4, e5, e6, e7]
  refine ⟨a1, a2, a3, a4, a5, ?_, a7⟩
  show upd (μ.1 cT) s (b01 b) i = b01 (if i = s then b else pT g i)
  by_cases e : i = s
  · rw [e, udE, if_pos rfl]
  · rw [udN _ _ e, if_neg e]; exact a6
theorem Has.setG {μ μ' : MemT} {g : PgT} {f cC cX cY cW cZ cT cG cM cO s : Nat} {v : Int32} (h : Has μ g f cC cX cY cW cZ cT cG cM cO) (e0 : μ'.2.2.1 f = μ.2.2.1 f) (e1 : μ'.1 cC = μ.1 cC) (e2 : μ'.2.1 cX = μ.2.1 cX) (e3 : μ'.2.1 cY = μ.2.1 cY) (e4 : μ'.2.1 cW = μ.2.1 cW) (e5 : μ'.1 cZ = μ.1 cZ) (e6 : μ'.1 cT = μ.1 cT) (e7 : μ'.1 cG = upd (μ.1 cG) s v) (e8 : μ'.1 cM = μ.1 cM) (e9 : μ'.1 cO = μ.1 cO) : Has μ' (setG g s v.toInt) f cC cX cY cW cZ cT cG cM cO := by
  refine ⟨e0.trans h.1, fun i hi => ?_, e8.trans h.2.2.1, e9.trans h.2.2.2⟩
  obtain ⟨a1, a2, a3, a4, a5, a6, a7⟩ := h.2.1 i hi
  rw [e1, e2, e3, e4, e5, e6, e7]
  refine ⟨a1, a2, a3, a4, a5, a6, ?_⟩
  show (upd (μ.1 cG) s v i).toInt = if i = s then v.toInt else pG g i
  by_cases e : i = s
  · rw [e, udE, if_pos rfl]
  · rw [udN _ _ e, if_neg e]; exact a7
theorem Has.setM {μ μ' : MemT} {g : PgT} {f cC cX cY cW cZ cT cG cM cO a : Nat} {v w : Int32} (h : Has μ g f cC cX cY cW cZ cT cG cM cO) (e0 : μ'.2.2.1 f = μ.2.2.1 f) (e1 : μ'.1 cC = μ.1 cC) (e2 : μ'.2.1 cX = μ.2.1 cX) (e3 : μ'.2.1 cY = μ.2.1 cY) (e4 : μ'.2.1 cW = μ.2.1 cW) (e5 : μ'.1 cZ = μ.1 cZ) (e6 : μ'.1 cT = μ.1 cT) (e7 : μ'.1 cG = μ.1 cG) (e8 : μ'.1 cM = upd (μ.1 cM) a v) (e9 : μ'.1 cO = upd (μ.1 cO) a w) : Has μ' (setM g a v w) f cC cX cY cW cZ cT cG cM cO := by
  refine ⟨e0.trans h.1, fun i hi => ?_, by rw [e8, h.2.2.1]; rfl, by rw [e9, h.2.2.2]; rfl⟩
  rw [e1, e2, e3, e4, e5, e6, e7]
  exact h.2.1 i hi
theorem Has.addS {μ μ' : MemT} {g : PgT} {f cC cX cY cW cZ cT cG cM cO c : Nat} {x y w : Int64} {z : Int32} (h : Has μ g f cC cX cY cW cZ cT cG cM cO) (hT : μ.1 cT (pN g) = 0) (e0 : μ'.2.2.1 f = nI (pN g + 1)) (e1 : μ'.1 cC = upd (μ.1 cC) (pN g) (nI c)) (e2 : μ'.2.1 cX = vp_updL (μ.2.1 cX) (pN g) x) (e3 : μ'.2.1 cY = vp_updL (μ.2.1 cY) (pN g) y) (e4 : μ'.2.1 cW = vp_updL (μ.2.1 cW) (pN g) w) (e5 : μ'.1 cZ = upd (μ.1 cZ) (pN g) z) (e6 : μ'.1 cT = μ.1 cT) (e7 : μ'.1 cG = upd (μ.1 cG) (pN g) (-1)) (e8 : μ'.1 cM = μ.1 cM) (e9 : μ'.1 cO = μ.1 cO) : Has μ' (addS g c x.toInt y.toInt w.toInt z.toInt) f cC cX cY cW cZ cT cG cM cO := by
  refine ⟨e0, fun i hi => ?_, e8.trans h.2.2.1, e9.trans h.2.2.2⟩
  rw [e1, e2, e3, e4, e5, e6, e7]
  have hi : i < pN g + 1 := hi
  show upd (μ.1 cC) (pN g) (nI c) i = nI (if i = pN g then c else pC g i) ∧ (vp_updL (μ.2.1 cX) (pN g) x i).toInt = (if i = pN g then x.toInt else pX g i) ∧ (vp_updL (μ.2.1 cY) (pN g) y i).toInt = (if i = pN g then y.toInt else pY g i) ∧ (vp_updL (μ.2.1 cW) (pN g) w i).toInt = (if i = pN g then w.toInt else pW g i) ∧ (upd (μ.1 cZ) (pN g) z i).toInt = (if i = pN g then z.toInt else pZ g i) ∧ μ.1 cT i = b01 (if i = pN g then false else pT g i) ∧ (upd (μ.1 cG) (pN g) (-1) i).toInt = (if i = pN g then -1 else pG g i)
  by_cases e : i = pN g
  · rw [e, udE, ulE, ulE, ulE, udE, udE, if_pos rfl, if_pos rfl, if_pos rfl, if_pos rfl, if_pos rfl, if_pos rfl, if_pos rfl]
    exact ⟨rfl, rfl, rfl, rfl, rfl, hT, by decide⟩
  · rw [udN _ _ e, ulN _ _ e, ulN _ _ e, ulN _ _ e, udN _ _ e, udN _ _ e, if_neg e, if_neg e, if_neg e, if_neg e, if_neg e, if_neg e, if_neg e]
    exact h.2.1 i (by omega)
theorem Sr.fr {SI SL SF : List Nat} {g' : Bool} {μ μ' : MemT} (h : Sr μ) (hf : Fr SI SL SF g' μ μ') (h1 : ∀ k ∈ [43, 44, 74, 75], k ∉ SI) (h3 : ∀ k ∈ [7, 8, 16, 17], k ∉ SF) : Sr μ' := by
  obtain ⟨a, b⟩ := h
  refine ⟨?_, ?_⟩
  · rw [hf.1 44 (h1 44 (by decide)), hf.1 74 (h1 74 (by decide)), hf.2.2.1 7 (h3 7 (by decide)), hf.2.2.1 16 (h3 16 (by decide))]; exact a
  · rw [hf.1 43 (h1 43 (by decide)), hf.1 75 (h1 75 (by decide)), hf.2.2.1 8 (h3 8 (by decide)), hf.2.2.1 17 (h3 17 (by decide))]; exact b
theorem mnb_of (x : Int32) (hx : x = 0 ∨ x = 1) : ∃ b, mnb x = b01 b := by
  rcases hx with rfl | rfl
  · exact ⟨false, by decide⟩
  · exact ⟨true, by decide⟩
set_option maxHeartbeats 2000000 in
theorem k_turnA {μ : MemT} {g : PgT} (h : RR μ g) {xs : Nat → Int32} {L : Nat} {x4 x y : Int32} (hv : ∀ k, k < 9 → vp_in (x4 + nI k) L) (hx : xs (x4 + (1 : Int32)).toNatClampNeg = x) (hy : y = 0 ∨ y = 1) (hz : xs (x4 + (2 : Int32)).toNatClampNeg = 0 ↔ y = 0) : tw_347 KR xs L x4 x y μ := by
  have hn := h.1.1
  obtain ⟨on, hon⟩ := mnb_of y hy
  unfold tw_347
  refine ⟨fun r μ' => (r = 1 ∧ ¬ (¬ x < 0 ∧ x < nI (pN g)) ∧ μ' = μ) ∨ (r = 0 ∧ ∃ s, s < pN g ∧ x = nI s ∧ Fr [15] [76] [0] false μ μ' ∧ μ'.1 15 = upd (μ.1 15) s (b01 on) ∧ μ'.2.2.1 0 = 0 ∧ μ'.2.1 76 0 = (μ.1 15 s).toInt64), ?_, fun r5 μ3 h3 => ?_⟩
  · unfold sl_L_turn tl_L_turn_0
    refine ⟨fun r μ' => ∃ s, s < pN g ∧ x = nI s ∧ Fr [15] [] [0] false μ μ' ∧ μ'.1 15 = upd (μ.1 15) s (b01 on) ∧ μ'.2.2.1 0 = 0 ∧ r = μ.1 15 s, fun X μ' => X = "java/util/NoSuchElementException" ∧ μ' = μ ∧ ¬ (¬ x < 0 ∧ x < nI (pN g)), ?_, fun X μ0 hX => ⟨hX.1, Or.inl ⟨rfl, hX.2.2, hX.2.1⟩⟩, fun r μ2 h2 => ?_⟩
    · unfold sx_X8_turn tx_X8_turn_0
      refine ⟨_, c_reqSign h.2.2.1 x, fun μ2 h2 => ?_⟩
      obtain ⟨rfl, ok⟩ := h2
      obtain ⟨s, s1, rfl⟩ := ixI (by omega) ok.1 ok.2
      have tv := (h.2.2.1.2.1 s s1).2.2.2.2.2.1
      rw [cI (by omega)]
      refine ⟨inI (by omega) (by decide), inI (by omega) (by decide), fun μ6 e6 μ7 e7 => ?_⟩
      have fin : ∀ r : Int32, r = μ2.1 15 s → ∃ s', s' < pN g ∧ nI s = nI s' ∧ Fr [15] [] [0] false μ2 μ7 ∧ μ7.1 15 = upd (μ2.1 15) s' (b01 on) ∧ μ7.2.2.1 0 = 0 ∧ r = μ2.1 15 s' := fun r hr => ⟨s, s1, rfl, by rw [e7, e6]; exact (Fr.wI _ _ _ (by decide)).tr (Fr.wF _ _ (by decide)), by rw [e7, mF_1, e6, mI_1, upE, cI (by omega), hon], by rw [e7, mF_221, upE], hr⟩
      refine ⟨fun z => fin 0 z.symm, fun z => fin 1 ?_⟩
      rw [tv] at z ⊢
      cases hq : pT g s
      · rw [hq] at z; exact absurd rfl z
      · rfl
    · obtain ⟨s, s1, e1, f2, t2, z2, rfl⟩ := h2
      refine ⟨vp0, fun μ6 e6 => Or.inr ⟨rfl, s, s1, e1, ?_, ?_, ?_, ?_⟩⟩
      · exact (f2.mono (by decide) (by decide) (by decide) (fun h => h)).tr (by rw [e6]; exact Fr.wL _ _ _ (by decide))
      · rw [e6, mL_1]; exact t2
      · rw [e6, mL_22]; exact z2
      · rw [e6, mL_21, upE]; exact ulE _ _ _
  · have HM3 : HasM μ3 g := by
      rcases h3 with ⟨-, -, rfl⟩ | ⟨-, s, -, -, f3, -⟩
      · exact h.2.2.2.1
      · exact h.2.2.2.1.fr f3 (by decide) (by decide) (by decide)
    have fin : tw_374 KR xs L x4 r5 x y μ3 := by
      unfold tw_374
      refine ⟨fun r μ' => (μ'.2.2.1 9 = 1 ∧ ¬ (¬ x < 0 ∧ x < nI (pN g)) ∧ Fr [] [] [9] false μ3 μ') ∨ (μ'.2.2.1 9 = 0 ∧ ∃ s, s < pN g ∧ x = nI s ∧ Fr [50] [] [9, 11] false μ3 μ' ∧ μ'.1 50 = upd (μ3.1 50) s (b01 on) ∧ μ'.2.2.1 11 = 0 ∧ r = μ3.1 50 s), ?_, fun r10 μ8 h8 => ⟨_, m_thrown, fun r14 μ12 h12 => ?_⟩⟩
      · unfold sp_X9_turn t_X9_turn_0
        refine ⟨_, m_isNoSign HM3 x, fun r4 μ4 h4 => ?_⟩
        obtain ⟨rfl, h4⟩ := h4
        refine ⟨_, m_refused _ _, fun r6 μ6 h6 => ?_⟩
        obtain ⟨f6, v6, z6⟩ := h6
        refine ⟨fun q => ?_, fun q => Or.inl ?_⟩
        · obtain ⟨z1, -⟩ := z6.mp q
          have ok : ¬ x < 0 ∧ x < nI (pN g) := by
            rcases h4 with ⟨a, -⟩ | ⟨-, a⟩
            · rw [z1] at a; exact absurd a (by decide)
            · exact a
          obtain ⟨s, s1, rfl⟩ := ixI (by omega) ok.1 ok.2
          have tv : μ6.1 50 s = b01 (pT g s) := by rw [f6.1 50 (by decide)]; exact (HM3.2.1 s s1).2.2.2.2.2.1
          have st : ∀ r : Int32, r = μ4.1 50 s → t_X9_turn_29 (fun r μ' => (μ'.2.2.1 9 = 1 ∧ ¬ (¬ nI s < 0 ∧ nI s < nI (pN g)) ∧ Fr [] [] [9] false μ4 μ') ∨ (μ'.2.2.1 9 = 0 ∧ ∃ s', s' < pN g ∧ nI s = nI s' ∧ Fr [50] [] [9, 11] false μ4 μ' ∧ μ'.1 50 = upd (μ4.1 50) s' (b01 on) ∧ μ'.2.2.1 11 = 0 ∧ r = μ4.1 50 s')) (nI s) y r μ6 := fun r hr => by
            unfold t_X9_turn_29
            refine ⟨inI (by omega) (by decide), fun μ7 e7 μ8 e8 => Or.inr ⟨?_, s, s1, rfl, ?_, ?_, ?_, hr⟩⟩
            · rw [e8, mF_221, upN _ _ (by decide), e7, mI_2, v6, if_pos z1, if_pos rfl]
            · exact (f6.mono (by decide) (by decide) (by decide) (fun h => h)).tr (by rw [e8, e7]; exact (Fr.wI _ _ _ (by decide)).tr (Fr.wF _ _ (by decide)))
            · rw [e8, mF_1, e7, mI_1, upE, cI (by omega), hon, f6.1 50 (by decide)]
            · rw [e8, mF_221, upE]
          rw [cI (by omega)]
          have e50 : μ6.1 50 s = μ4.1 50 s := by rw [f6.1 50 (by decide)]
          refine ⟨inI (by omega) (by decide), fun z => st 0 (by rw [← e50]; exact z.symm), fun z => st 1 ?_⟩
          rw [← e50]
          rw [tv] at z ⊢
          cases hq : pT g s
          · rw [hq] at z; exact absurd rfl z
          · rfl
        · rcases h4 with ⟨a, b⟩ | ⟨a, -⟩
          · exact ⟨by rw [v6, if_neg (by rw [a]; decide)], b, f6⟩
          · exact absurd (z6.mpr ⟨a, rfl⟩) q
      · obtain ⟨rfl, rfl⟩ := h12
        rcases h3 with ⟨rfl, no, rfl⟩ | ⟨rfl, s, s1, e1, f3, t3, z3, o3⟩
        · rcases h8 with ⟨v, -, f8⟩ | ⟨v, s, s1, e1, -⟩
          · exact endK v (fun z => absurd z (by decide)) ⟨g, h.o (f8.mono (by decide) (by decide) (by decide) (fun h => by cases h))⟩
          · exact absurd (by rw [e1]; exact ⟨nI_pos (by omega), by rw [lt32, tI (by omega), tI (by omega)]; omega⟩) no
        · rcases h8 with ⟨-, no, -⟩ | ⟨v, s', s1', e1', f8, t8, z8, rfl⟩
          · exact absurd (by rw [e1]; exact ⟨nI_pos (by omega), by rw [lt32, tI (by omega), tI (by omega)]; omega⟩) no
          · have es : s' = s := nI_inj (by omega) (by omega) (e1'.symm.trans e1)
            subst es
            have k50 : μ3.1 50 = μ.1 50 := f3.1 50 (by decide)
            refine endK v (fun _ => ?_) ⟨setT g s' on, ?_⟩
            · rw [show μ12.2.1 76 (0 : Int32).toNatClampNeg = μ12.2.1 76 0 from rfl, f8.2.1 76 (by decide), o3, k50, (h.2.2.1.2.1 s' s1).2.2.2.2.2.1, (h.2.2.2.1.2.1 s' s1).2.2.2.2.2.1]
            · have C := h.2.2.1
              have M := h.2.2.2.1
              have k : ∀ c, c ≠ 15 → c ≠ 50 → μ12.1 c = μ.1 c := fun c c1 c2 => by rw [f8.1 c (by simpa using c2), f3.1 c (by simpa using c1)]
              have kl : ∀ c, c ≠ 76 → μ12.2.1 c = μ.2.1 c := fun c c1 => by rw [f8.2.1 c (by simp), f3.2.1 c (by simpa using c1)]
              have kf : ∀ c, c ≠ 0 → c ≠ 9 → c ≠ 11 → μ12.2.2.1 c = μ.2.2.1 c := fun c c1 c2 c3 => by rw [f8.2.2.1 c (by simp; omega), f3.2.2.1 c (by simpa using c1)]
              have t15 : μ12.1 15 = upd (μ.1 15) s' (b01 on) := by rw [f8.1 15 (by decide)]; exact t3
              have t50 : μ12.1 50 = upd (μ.1 50) s' (b01 on) := by rw [t8, k50]
              refine ⟨⟨h.1.1, h.1.2⟩, h.2.1, Has.setT C (kf 1 (by decide) (by decide) (by decide)) (k 10 (by decide) (by decide)) (kl 11 (by decide)) (kl 12 (by decide)) (kl 13 (by decide)) (k 14 (by decide) (by decide)) t15 (k 16 (by decide) (by decide)) (k 17 (by decide) (by decide)) (k 18 (by decide) (by decide)), Has.setT M (kf 10 (by decide) (by decide) (by decide)) (k 45 (by decide) (by decide)) (kl 46 (by decide)) (kl 47 (by decide)) (kl 48 (by decide)) (k 49 (by decide) (by decide)) t50 (k 51 (by decide) (by decide)) (k 52 (by decide) (by decide)) (k 53 (by decide) (by decide)), fun i hi hi2 => ?_, fun z => absurd (by rw [f8.2.2.1 0 (by decide)]; exact z3) z, fun z => absurd z8 z, ?_⟩
              · have hi : pN g ≤ i := hi
                rw [t15, t50, udN _ _ (by omega), udN _ _ (by omega)]
                exact h.2.2.2.2.1 i hi hi2
              · exact (h.2.2.2.2.2.2.2.fr f3 (by decide) (by decide)).fr f8 (by decide) (by decide)
    refine ⟨hv 1 (by decide), hv 2 (by decide), fun z => ?_, fun z => ?_⟩
    · rw [hx, ← hz.mp z]; exact fin
    · have : y = 1 := by
        rcases hy with q | q
        · exact absurd (hz.mpr q) z
        · exact q
      rw [hx, ← this]; exact fin
theorem k_turn {μ : MemT} {g : PgT} (h : RR μ g) {xs : Nat → Int32} {L : Nat} {x4 : Int32} (hv : ∀ k, k < 9 → vp_in (x4 + nI k) L) : tw_326 KR xs L x4 μ := by
  unfold tw_326
  exact ⟨hv 1 (by decide), hv 2 (by decide), fun z => k_turnA h hv rfl (Or.inl rfl) ⟨fun _ => rfl, fun _ => z⟩, fun z => k_turnA h hv rfl (Or.inr rfl) ⟨fun q => absurd q z, fun q => absurd q (by decide)⟩⟩
