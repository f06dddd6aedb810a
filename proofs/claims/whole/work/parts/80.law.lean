/-! The law: its loop; the empty page. -/
def mu0 : MemT := (fun _ _ => 0, fun _ _ => 0, fun k => if k = 0 then 1 else 0, 0)
def pg0 : PgT := (0, fun _ => 0, fun _ => 0, fun _ => 0, fun _ => 0, fun _ => 0, fun _ => false, fun _ => 0, fun _ => 0, fun _ => 0)
theorem DvC0 : DvC mu0 pg0 := by
  have nl : ∀ s, ¬ Lv pg0 (fun _ => 0) s := fun s h => Nat.not_lt_zero s h.1
  refine ⟨fun _ => 0, 0, fun _ => 0, fun _ => 0, 0, 0, iniA (sgC pg0 (fun _ => 0) (fun _ => 0) 0) (agF pg0 (fun _ => 0) (fun _ => 0) 0).2.2.2.2.2, 0, fun _ => 0, ⟨fun s hs => absurd hs (Nat.not_lt_zero s), ⟨⟨fun s h => absurd h (nl s), fun j hj => absurd hj (Nat.not_lt_zero j)⟩, fun s h => absurd h (nl s)⟩, ⟨fun p hp => absurd hp (Nat.not_lt_zero p), fun s h => absurd h (nl s), fun p q _ hq => absurd hq (Nat.not_lt_zero q)⟩, ⟨⟨rfl, rfl⟩, fun q hq => absurd hq (Nat.not_lt_zero q)⟩, ⟨fun p hp => absurd hp (Nat.not_lt_zero p), fun s h => absurd h (nl s), fun p q _ hq => absurd hq (Nat.not_lt_zero q)⟩, fun s _ => rfl, fun p _ => rfl⟩, ⟨fun s hs => absurd hs (Nat.not_lt_zero s), rfl, trivial⟩, fun s hs => absurd hs (Nat.not_lt_zero s), fun i hi => absurd hi (Nat.not_lt_zero i)⟩
theorem RR0 : RR mu0 pg0 := by
  refine ⟨⟨Nat.zero_le 200, fun i hi => absurd hi (Nat.not_lt_zero i)⟩, fun i _ => (by decide : 0 ≤ (0 : Int32).toInt), ⟨rfl, fun i hi => absurd hi (Nat.not_lt_zero i), rfl, rfl⟩, ⟨rfl, fun i hi => absurd hi (Nat.not_lt_zero i), rfl, rfl⟩, fun i _ _ => ⟨rfl, rfl⟩, fun _ => DvC0, fun h => absurd rfl h, ⟨0, Nat.zero_le _, rfl, rfl, fun i hi => absurd hi (Nat.not_lt_zero i)⟩, ⟨0, Nat.zero_le _, rfl, rfl, fun i hi => absurd hi (Nat.not_lt_zero i)⟩⟩
def R_law : String := "TextOrderLaw"
def lw_P (b : Addr) (xs : List Int32) (args : Array Value) (s : State) : Prop := args = #[.ref b] ∧ s.IntsAt b xs ∧ xs.length ≤ 4608 ∧ (Jvm.Cond.and given_1 narrow_1).before args s = true
def lw_Q (_ : Array Value) (s : State) (o : Outcome) (t : State) : Prop := o = .returned (some (.int 1)) ∧ Framed s o t [] 3161 137486
def lw_Z (below : List Frame) (a : Array Value) (s : State) : State → Prop := fun t => ∃ o, t.status = .running ∧ Ended t below o ∧ lw_Q a s o t
/-- the law's own end, with 1 on the stack, nothing written that was there before, its room as the claim has it -/
theorem lw_ret {p : Program} {l : Launch} {e : Env} {s : State} {m : MethodId} {below : List Frame} {meth : Method} {c : Code} {b : Nat} (hx : p.tables.exec = Jvm.exec) (hb : c.code = code) (hr : meth.sig.returnType = ret) (hlocks : meth.locks = false) {pc : Nat} {H : Heap} {ls : Array Slot} (hdg : decode code pc = .ok (.ireturn, 1)) : W p l e room_1 s m #[Value.ref b] below meth c H [] 3161 137486 (lw_Z below #[Value.ref b] s) (F0 m pc ls [.int 1]) := by
  intro T hT X
  obtain ⟨fs, hret, hrun, hended, hW, hframe⟩ := X.leave (v := some (.int 1)) (hlocks := hlocks) (fun h => by rw [hr] at h; cases h)
  have hmeth' : T.vm.method? m = some meth := X.method'
  refine ⟨T.setFrames fs, ?_, .returned (some (.int 1)), hrun, hended, rfl, ⟨_, rfl⟩, hW, hframe⟩
  jvm_step X.here [X.here.top, hx, hb, hdg, hmeth', hr, ret, narrow_b1]
  (try refine ⟨rfl, ?_⟩); (try refine ⟨rfl, ?_⟩)
  first | (intro acts; rw [hret _ acts rfl rfl rfl]) | rw [hret _ _ rfl rfl rfl]
  exact Steps.refl _
theorem law_loop {p : Program} {l : Launch} {e : Env} {s : State} {m : MethodId} {below : List Frame} {meth : Method} {c : Code} {E : EvT} {b L : Nat} {xs : Nat → Int32} (CC : CW p l s m #[Value.ref b] meth c E b L xs) (hr : meth.sig.returnType = ret) (hL : L ≤ 4608) (hbs : ∀ q, eA E s.heap.size q → s.heap.size ≤ q) : ∀ (n j cells slots : Nat) (μ : MemT), j + n = 513 → 9 * j ≤ L → cells + 2 * n ≤ 3161 → slots + 12 * n ≤ 137486 → KR μ → V p l e room_1 s m #[Value.ref b] below meth c E 8 cells slots (lw_Z below #[Value.ref b] s) 23 [(0, .ref b), (1, .ref (eAd E 0)), (2, .ref (eAd E 9)), (3, .ref (eAd E 76)), (4, .int (nI (9 * j)))] [] μ
  | 0, j, cells, slots, μ, h1, h2, h3, h4, hμ => by omega
  | n + 1, j, cells, slots, μ, h1, h2, h3, h4, hμ => by
    have C := CC.1
    have t1 : (nI L - 9).toInt = (L : Int) - 9 := by
      rw [fb_subI (by rw [tI (by omega)]; show _ ≤ (L : Int) - 9; omega) (by rw [tI (by omega)]; show (L : Int) - 9 < _; omega), tI (by omega)]; rfl
    refine v_iload C 4 rfl dL_law_23 ?_
    refine v_aload_n C 0 rfl rfl dL_law_25 ?_
    refine w_slen CC dL_law_26 ?_
    refine v_bipush (v := (9 : Int32)) C dL_law_27 (by decide) ?_
    refine v_isub C dL_law_29 ?_
    refine v_icmp_gt C 1438 (by decide) dL_law_30 (fun h => ?_) (fun h => ?_)
    · intro H locs ls hP hS hl
      refine lv_iconst (v := 1) C.1 C.2.1 dL_law_1438 (by decide) ?_
      refine va_forget (fun q hq => hbs _ (hS.2.2 q hq)) ?_
      exact W.widen (by omega) (by omega) (lw_ret C.1 C.2.1 hr C.2.2.2.2.2.2.2.1 dL_law_1439)
    · rw [lt32, t1, tI (by omega)] at h
      have hin : ∀ k, k < 9 → vp_in (nI (9 * j) + nI k) L := fun k hk => by rw [nI_add]; exact inI (by omega) (by omega)
      refine ow_33 CC (by show cells + 2 ≤ 3161; omega) (by show slots + 12 ≤ 137486; omega) (fun μ2 h2 => ?_) μ (k_33 hμ (inI (by omega) (by omega)) hin)
      have hi9 : nI (9 * j) + Int32.ofInt 9 = nI (9 * (j + 1)) := nI_add (9 * j) 9
      refine v_iinc (n := 9) (v := nI (9 * (j + 1))) C 4 [(4, .int (nI (9 * (j + 1)))), (0, .ref b), (1, .ref (eAd E 0)), (2, .ref (eAd E 9)), (3, .ref (eAd E 76))] rfl hi9 (by decide) rfl dL_law_1432 ?_
      refine v_goto C 23 (by decide) dL_law_1435 ?_
      refine v_sub C [1, 2, 3, 4, 0] rfl ?_
      exact law_loop CC hr hL hbs n (j + 1) _ _ μ2 (by omega) (by omega) (by omega) (by omega) h2
