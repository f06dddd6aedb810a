/-! The start: the law up to its loop. -/
theorem iwJ0 : ∀ w ∈ u_ws RJ0 TJ0 2, w ∈ lw_tbl := by decide +kernel
theorem iwJx : ∀ w ∈ u_ws RJx00060 TJx00060 6, w ∈ lw_tbl := by decide +kernel
theorem lnest_in : ∀ q ∈ lnest, Cond.methodLinkNest RX8 q.1 q.2 RX8 ∈ lw_tbl := by decide +kernel
theorem eNest_in : eNest ∈ lw_tbl := by decide +kernel
theorem lstr_in : ∀ q ∈ lstr, Cond.stringRef RX8 q.1 q.2 ∈ lw_tbl := by decide +kernel
theorem lnc_in : ∀ q ∈ lnc, Cond.not (.castable q.1 q.2) ∈ flatC (Jvm.Cond.and given_1 narrow_1) := by decide +kernel
def adE (qx qm qo : Nat) (ux um : Nat → Nat) : Nat → Nat := fun k => if k = 0 then qx else if k = 9 then qm else if k = 76 then qo else if k < 45 then ux k else um k
def wsA (T : TyT) (qx qm qo : Nat) (ux um : Nat → Nat) : va_W := (([] ++ w_X8 T qx ux) ++ w_X9 T qm um) ++ [(qo, zJ T 1)]
def piL : List Nat := [0, 1, 9, 12, 18, 22, 31, 36, 41, 44, 2, 3, 4, 5, 6, 7, 8, 10, 11, 13, 14, 15, 16, 17, 19, 20, 21, 23, 24, 25, 26, 27, 28, 29, 30, 32, 33, 34, 35, 37, 38, 39, 40, 42, 43, 45, 46, 47, 48, 49, 50, 51, 52, 53, 54, 55, 56, 57, 58, 59, 60, 61, 62, 63, 64, 65, 66, 67, 68, 69, 70, 71, 72, 73, 74, 75, 76]
def pi7 (k : Nat) : Nat := piL.getD k 0
theorem pi7_inj : ∀ i, i < 77 → ∀ j, j < 77 → pi7 i = pi7 j → i = j := by decide +kernel
set_option maxRecDepth 20000 in
set_option maxHeartbeats 4000000 in
theorem wsA_get (D : va_G) (T : TyT) (qx qm qo : Nat) (ux um : Nat → Nat) (k : Nat) (hk : k < 77) : (wsA T qx qm qo ux um)[pi7 k]? = some (eAd (D, T, adE qx qm qo ux um) k, eEn (D, T, adE qx qm qo ux um) mu0 k) := by
  match k, hk with
  | 0, _ => rfl
  | 1, _ => rfl
  | 2, _ => rfl
  | 3, _ => rfl
  | 4, _ => rfl
  | 5, _ => rfl
  | 6, _ => rfl
  | 7, _ => rfl
  | 8, _ => rfl
  | 9, _ => rfl
  | 10, _ => rfl
  | 11, _ => rfl
  | 12, _ => rfl
  | 13, _ => rfl
  | 14, _ => rfl
  | 15, _ => rfl
  | 16, _ => rfl
  | 17, _ => rfl
  | 18, _ => rfl
  | 19, _ => rfl
  | 20, _ => rfl
  | 21, _ => rfl
  | 22, _ => rfl
  | 23, _ => rfl
  | 24, _ => rfl
  | 25, _ => rfl
  | 26, _ => rfl
  | 27, _ => rfl
  | 28, _ => rfl
  | 29, _ => rfl
  | 30, _ => rfl
  | 31, _ => rfl
  | 32, _ => rfl
  | 33, _ => rfl
  | 34, _ => rfl
  | 35, _ => rfl
  | 36, _ => rfl
  | 37, _ => rfl
  | 38, _ => rfl
  | 39, _ => rfl
  | 40, _ => rfl
  | 41, _ => rfl
  | 42, _ => rfl
  | 43, _ => rfl
  | 44, _ => rfl
  | 45, _ => rfl
  | 46, _ => rfl
  | 47, _ => rfl
  | 48, _ => rfl
  | 49, _ => rfl
  | 50, _ => rfl
  | 51, _ => rfl
  | 52, _ => rfl
  | 53, _ => rfl
  | 54, _ => rfl
  | 55, _ => rfl
  | 56, _ => rfl
  | 57, _ => rfl
  | 58, _ => rfl
  | 59, _ => rfl
  | 60, _ => rfl
  | 61, _ => rfl
  | 62, _ => rfl
  | 63, _ => rfl
  | 64, _ => rfl
  | 65, _ => rfl
  | 66, _ => rfl
  | 67, _ => rfl
  | 68, _ => rfl
  | 69, _ => rfl
  | 70, _ => rfl
  | 71, _ => rfl
  | 72, _ => rfl
  | 73, _ => rfl
  | 74, _ => rfl
  | 75, _ => rfl
  | 76, _ => rfl
  | k + 77, hk => exact absurd hk (by omega)
/-- what holds at the law's entry -/
def lw_At (p : Program) (s : State) (m : MethodId) (meth : Method) (c : Code) (b L : Nat) (xs : Nat → Int32) : Prop :=
  p.tables.exec = Jvm.exec ∧ c.code = code ∧ meth.sig.returnType = ret ∧ c.maxLocals = 8 ∧ s.vm.findClass R_law = some m.cls ∧ (∀ w ∈ lw_tbl, w.before #[Value.ref b] s = true) ∧ va_X b L xs s s.heap ∧ b < s.heap.size ∧ meth.locks = false ∧ (Jvm.Cond.and given_1 narrow_1).before #[Value.ref b] s = true
set_option maxRecDepth 20000 in
theorem st_D {s : State} {A : Array Value} (cd : ClassId) (hts : ∀ w ∈ lw_tbl, w.before A s = true) : ∃ D : va_G, ∀ (k : Nat) (q : vw_C), vwCl[k]? = some q → u_Kn s q.1 q.2.1 q.2.2 (D.1 k) (D.2 k) := by
  have hg : ∀ w ∈ lgood, w.before A s = true := fun w h => hts w (List.mem_filter.mp h).1
  have h : ∀ k : Nat, ∃ (cC : ClassId) (iS : Nat → Nat), ∀ q : vw_C, vwCl[k]? = some q → u_Kn s q.1 q.2.1 q.2.2 cC iS := by
    intro k
    match k with
    | 0 => obtain ⟨a, i, h⟩ := u_known (C := RJ0) (T := TJ0) (N := 2) (n := 4) hts iwJ0 (hts (.instantiable RJ0 4) (by decide +kernel)); exact ⟨a, i, fun q hq => by cases hq; exact h⟩
    | 1 => obtain ⟨a, i, h⟩ := u_known (C := RJx00060) (T := TJx00060) (N := 6) (n := 6) hts iwJx (hts (.instantiable RJx00060 6) (by decide +kernel)); exact ⟨a, i, fun q hq => by cases hq; exact h⟩
    | 2 => obtain ⟨a, i, h⟩ := u_known (C := RX0) (T := TX0) (N := 5) (n := 5) hg iwX0 (hg (.instantiable RX0 5) (mgT 204 (by decide +kernel) (by decide +kernel))); exact ⟨a, i, fun q hq => by cases hq; exact h⟩
    | 3 => obtain ⟨a, i, h⟩ := u_known (C := RX1) (T := TX1) (N := 5) (n := 5) hg iwX1 (hg (.instantiable RX1 5) (mgT 130 (by decide +kernel) (by decide +kernel))); exact ⟨a, i, fun q hq => by cases hq; exact h⟩
    | 4 => obtain ⟨a, i, h⟩ := u_known (C := RX2) (T := TX2) (N := 2) (n := 2) hg iwX2 (hg (.instantiable RX2 2) (mgT 85 (by decide +kernel) (by decide +kernel))); exact ⟨a, i, fun q hq => by cases hq; exact h⟩
    | 5 => obtain ⟨a, i, h⟩ := u_known (C := RX3) (T := TX3) (N := 5) (n := 5) hg iwX3 (hg (.instantiable RX3 5) (mgT 100 (by decide +kernel) (by decide +kernel))); exact ⟨a, i, fun q hq => by cases hq; exact h⟩
    | 6 => obtain ⟨a, i, h⟩ := u_known (C := RX4) (T := TX4) (N := 5) (n := 5) hg iwX4 (hg (.instantiable RX4 5) (mgT 226 (by decide +kernel) (by decide +kernel))); exact ⟨a, i, fun q hq => by cases hq; exact h⟩
    | 7 => obtain ⟨a, i, h⟩ := u_known (C := RX5) (T := TX5) (N := 4) (n := 4) hg iwX5 (hg (.instantiable RX5 4) (mgT 253 (by decide +kernel) (by decide +kernel))); exact ⟨a, i, fun q hq => by cases hq; exact h⟩
    | 8 => obtain ⟨a, i, h⟩ := u_known (C := RX6) (T := TX6) (N := 9) (n := 9) hg iwX6 (hg (.instantiable RX6 9) (mgT 159 (by decide +kernel) (by decide +kernel))); exact ⟨a, i, fun q hq => by cases hq; exact h⟩
    | 9 => obtain ⟨a, i, h⟩ := u_known (C := RX7) (T := TX7) (N := 8) (n := 8) hg iwX7 (hg (.instantiable RX7 8) (mgT 31 (by decide +kernel) (by decide +kernel))); exact ⟨a, i, fun q hq => by cases hq; exact h⟩
    | 10 => obtain ⟨a, i, h⟩ := u_known (C := RX8) (T := TX8) (N := 9) (n := 9) hg iwX8 (hg (.instantiable RX8 9) (mgT 23 (by decide +kernel) (by decide +kernel))); exact ⟨a, i, fun q hq => by cases hq; exact h⟩
    | 11 => obtain ⟨a, i, h⟩ := u_known (C := RX9) (T := TX9) (N := 41) (n := 41) hg iwX9 (hg (.instantiable RX9 41) (mgT 814 (by decide +kernel) (by decide +kernel))); exact ⟨a, i, fun q hq => by cases hq; exact h⟩
    | k + 12 => exact ⟨cd, fun _ => 0, fun q hq => by simp [vwCl] at hq⟩
  exact ⟨(fun k => (h k).choose, fun k => (h k).choose_spec.choose), fun k q hq => (h k).choose_spec.choose_spec q hq⟩
theorem st_T {s : State} {A : Array Value} {D : va_G} (hg : ∀ w ∈ lgood, w.before A s = true) (hKc : ∀ (k : Nat) (q : vw_C), vwCl[k]? = some q → u_Kn s q.1 q.2.1 q.2.2 (D.1 k) (D.2 k)) : ∃ T : TyT, va_K D vwCl (tyL T) s := by
  obtain ⟨cI, kI, oI, fI, gI, hI⟩ := Cond.arrayClass_spec (hg _ ac_I)
  obtain ⟨cJ, kJ, oJ, fJ, gJ, hJ⟩ := Cond.arrayClass_spec (hg _ ac_J)
  obtain ⟨cZ, kZ, oZ, fZ, gZ, hZ⟩ := Cond.arrayClass_spec (hg _ ac_Z)
  refine ⟨(cI, cJ, cZ), hKc, fun k q hk => ?_⟩
  match k, hk with
  | 0, hk => cases hk; exact ⟨fun n z => ⟨fun k h => (by cases h), kI, gI, oI, hI⟩, fI⟩
  | 1, hk => cases hk; exact ⟨fun n z => ⟨fun k h => (by cases h), kJ, gJ, oJ, hJ⟩, fJ⟩
  | 2, hk => cases hk; exact ⟨fun n z => ⟨fun k h => (by cases h), kZ, gZ, oZ, hZ⟩, fZ⟩
  | k + 3, hk => simp [tyL] at hk
theorem st_X {s : State} {b : Nat} {E : EvT} (hts : ∀ w ∈ lw_tbl, w.before #[Value.ref b] s = true) (hgv : (Jvm.Cond.and given_1 narrow_1).before #[Value.ref b] s = true) (hbs : ∀ q, eA E s.heap.size q → s.heap.size ≤ q) : eX E s := by
  have hs := flat_of_before _ hgv
  have hA : ∀ a : Nat, a < s.heap.size → ¬ eA E s.heap.size a := fun a h z => absurd (hbs a z) (Nat.not_le.mpr h)
  have hx8 : ∃ cc, s.vm.findClass RX8 = some cc := by
    obtain ⟨cC, kC, hfc, -⟩ := Cond.instantiable_spec (hts (.instantiable RX8 9) (by decide +kernel))
    exact ⟨cC, hfc⟩
  obtain ⟨c8, h8⟩ := hx8
  refine ⟨⟨vx_Zqof (hts _ (by decide +kernel)) (hts _ (by decide +kernel)) (hs _ (by decide +kernel)) hA, vx_Zqof (hts _ (by decide +kernel)) (hts _ (by decide +kernel)) (hs _ (by decide +kernel)) hA⟩, fun q hq => ?_, fun w hw hx => va_Nw.of (x_onT hx) (hts w hw), fun q hq => va_Nc.of (hs _ (lnc_in q hq))⟩
  have h1 := hts _ (lstr_in q hq)
  obtain ⟨_, _, _, a, _, _, _, _, _, h2⟩ := Cond.stringRef_spec h8 h1
  exact ⟨a, vk_R.of h1 h2⟩
set_option maxRecDepth 20000 in
set_option maxHeartbeats 4000000 in
/-- from the entry, for every script of at most 4608 ints, the law comes to its end with true -/
theorem whole_start {p : Program} {e : Env} {s : State} {m : MethodId} {below : List Frame} {meth : Method} {c : Code} (l : Launch) (hl9 : l.stackTraces = false) {b L : Nat} {xs : Nat → Int32} (hL : L ≤ 4608) (C0 : lw_At p s m meth c b L xs) : W p l e room_1 s m #[Value.ref b] below meth c s.heap [] 0 0 (lw_Z below #[Value.ref b] s) (entryFrame m ([Value.ref b] : List Value).toArray 8) := by
  obtain ⟨hx, hb, hr, hml, hown, hts, hX, hbl, hlocks, hgv⟩ := C0
  have hg : ∀ w ∈ lgood, w.before #[Value.ref b] s = true := fun w h => hts w (List.mem_filter.mp h).1
  obtain ⟨D, hKc⟩ := st_D m.cls hts
  obtain ⟨T, hK⟩ := st_T hg hKc
  have hN8 : eN8 s := fun q hq => va_Nw.of rfl (hts _ (lnest_in q hq))
  have C : CK p s m #[Value.ref b] c D T (fun q => s.heap.size ≤ q) cL_law 8 RL := ⟨hx, hb, hml, hown, hg, hK, fun _ h => h⟩
  have key : UU p l e room_1 s m #[Value.ref b] below meth c D (fun q => s.heap.size ≤ q) 8 0 0 (lw_Z below #[Value.ref b] s) 0 [(0, .ref b)] [] [] := by
    refine n_new C cfX8 fzX8 1 9 rfl rfl (mgT 22 (by decide +kernel) (by decide +kernel)) (mgT 23 (by decide +kernel) (by decide +kernel)) (mgT 1 (by decide +kernel) (by decide +kernel)) fzX8_ok (Nat.le_of_ble_eq_true rfl) (Nat.le_of_ble_eq_true rfl) dL_law_0 (fun qx => ?_)
    refine n_dup C dL_law_3 ?_
    refine n_callI C hN8 (mn_X8 l D T) 44 9720 rfl rfl (mgT 24 (by decide +kernel) (by decide +kernel)) (mgT 1 (by decide +kernel) (by decide +kernel)) (mgT 26 (by decide +kernel) (by decide +kernel)) (mgT 25 (by decide +kernel) (by decide +kernel)) rfl ⟨by decide, by decide, by decide +kernel⟩ ⟨Nat.le_of_ble_eq_true rfl, Nat.le_of_ble_eq_true rfl⟩ (Nat.le_of_ble_eq_true rfl) (Nat.le_of_ble_eq_true rfl) (Nat.le_of_ble_eq_true rfl) dL_law_4 (fun ux => ?_)
    refine n_astore C [(1, .ref qx), (0, .ref b)] rfl (by decide) rfl dL_law_7 ?_
    refine n_new C cfX9 fzX9 45 9761 rfl rfl (mgT 813 (by decide +kernel) (by decide +kernel)) (mgT 814 (by decide +kernel) (by decide +kernel)) (mgT 10 (by decide +kernel) (by decide +kernel)) fzX9_ok (Nat.le_of_ble_eq_true rfl) (Nat.le_of_ble_eq_true rfl) dL_law_8 (fun qm => ?_)
    refine n_dup C dL_law_11 ?_
    refine n_callI C hN8 (mn_X9 l D T) 76 18629 rfl rfl (mgT 815 (by decide +kernel) (by decide +kernel)) (mgT 10 (by decide +kernel) (by decide +kernel)) (mgT 817 (by decide +kernel) (by decide +kernel)) (mgT 816 (by decide +kernel) (by decide +kernel)) rfl ⟨by decide, by decide, by decide +kernel⟩ ⟨Nat.le_of_ble_eq_true rfl, Nat.le_of_ble_eq_true rfl⟩ (Nat.le_of_ble_eq_true rfl) (Nat.le_of_ble_eq_true rfl) (Nat.le_of_ble_eq_true rfl) dL_law_12 (fun um => ?_)
    refine n_astore C [(2, .ref qm), (1, .ref qx), (0, .ref b)] rfl (by decide) rfl dL_law_15 ?_
    refine n_iconst (v := 1) C dL_law_16 (by decide) ?_
    refine n_newJ C 1 77 18630 rfl rfl ac_J (by decide) (by decide) (by decide) (Nat.le_of_ble_eq_true rfl) (Nat.le_of_ble_eq_true rfl) dL_law_17 (fun qo => ?_)
    refine n_astore C [(3, .ref qo), (2, .ref qm), (1, .ref qx), (0, .ref b)] rfl (by decide) rfl dL_law_19 ?_
    refine n_iconst (v := nI (9 * 0)) C dL_law_20 (by decide) ?_
    refine n_istore C [(4, .int (nI (9 * 0))), (3, .ref qo), (2, .ref qm), (1, .ref qx), (0, .ref b)] (by decide) rfl dL_law_21 ?_
    intro H locs ls hP hD hS hl
    have hP : va_P D vwCl (wsA T qx qm qo ux um) H := hP
    have hD : va_D (fun q => s.heap.size ≤ q) (wsA T qx qm qo ux um) := hD
    obtain ⟨E, hE⟩ : ∃ E : EvT, E = (D, T, adE qx qm qo ux um) := ⟨_, rfl⟩
    have hget : ∀ (k : Nat) (q : Nat × va_E), (eWl E mu0)[k]? = some q → (wsA T qx qm qo ux um)[pi7 k]? = some q := fun k q hq => by
      have hk : k < 77 := by
        have h1 := (List.getElem?_eq_some_iff.mp hq).1
        have h2 : (eWl E mu0).length = 77 := by simp [eWl]
        omega
      rw [eWl_get E mu0 hk] at hq
      rw [wsA_get D T qx qm qo ux um k hk, ← hE]
      exact hq
    have hln : (eWl E mu0).length = 77 := by simp [eWl]
    have hP2 : va_P D vwCl (eWl E mu0) H := hP.by pi7 hget
    have hD2 : va_D (fun q => s.heap.size ≤ q) (eWl E mu0) := hD.by pi7 hget (fun i j hi hj h => pi7_inj i (by omega) j (by omega) h)
    have hge : ∀ k, k < 77 → s.heap.size ≤ eAd E k := fun k hk => hD2.2 k _ (eWl_get E mu0 hk)
    have hI : eInj E := fun i j hi hj h => hD2.1 i j _ _ (eWl_get E mu0 hi) (eWl_get E mu0 hj) h
    have hbs : ∀ q, eA E s.heap.size q → s.heap.size ≤ q := fun q h => by
      rcases h with ⟨k, hk, h⟩ | h
      · rw [h]; exact hge k hk
      · exact h
    have e1 : E.1 = D := by rw [hE]
    have e2 : eTy E = tyL T := by rw [hE]; rfl
    have CC : CW p l s m #[Value.ref b] meth c E b L xs := ⟨⟨hx, hb, hml, hown, hg, by rw [e1, e2]; exact hK, hI, hlocks, va_Nw.of rfl (hts _ eNest_in)⟩, st_X hts hgv hbs, hl9, hX, hbl, fun h => absurd (hbs b h) (Nat.not_le.mpr hbl)⟩
    have hS2 : va_S (eA E s.heap.size) s.heap H locs := ⟨hS.1, fun q h1 h2 => hS.2.1 q h1 (fun z => h2 (Or.inr z)), fun q hq => Or.inr (hS.2.2 q hq)⟩
    have g0 : eAd E 0 = qx := by rw [hE]; rfl
    have g9 : eAd E 9 = qm := by rw [hE]; rfl
    have g76 : eAd E 76 = qo := by rw [hE]; rfl
    have k := law_loop (e := e) (below := below) CC hr hL hbs 513 0 77 18630 mu0 rfl (Nat.zero_le _) (by decide) (by decide) ⟨pg0, RR0⟩ H locs ls
    rw [g0, g9, g76, e1] at k
    exact k hP2 hS2 (lv_sub hl [4, 3, 2, 1, 0] rfl)
  have hl := lv_entry ([.ref b]) (n := 8) (Nat.le_of_ble_eq_true rfl)
  rw [lg_entry_eq]
  exact key s.heap [] _ (fun k q h => by simp at h) ⟨fun i j p q h => by simp at h, fun k q h => by simp at h⟩ va_S.rf hl
